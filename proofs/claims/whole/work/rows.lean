section
-- ===== PART A: goes FIRST, ahead of the names: the tables' words, and 'selects' of the private methods out of them =====
/-- a private method of a class that the tables say can be made, by its rows of tables_1 -/
def lw_okq (q : MethodName × Nat) : Prop := (q.1.cls ≠ "java/lang/invoke/MethodHandle" ∧ q.1.cls ≠ "java/lang/invoke/VarHandle") ∧ Cond.instantiable q.1.cls q.2 ∈ tables_1 ∧ Cond.privateMethod q.1 ∈ tables_1 ∧ Cond.instanceMethod q.1 ∈ tables_1
theorem lw_p0 : lw_okq (⟨"AbsentBells$Reader", "nextToken", "()V"⟩, 10) := ⟨⟨by decide +kernel, by decide +kernel⟩, List.mem_of_getElem? (i := 24) (by decide +kernel), List.mem_of_getElem? (i := 342) (by decide +kernel), List.mem_of_getElem? (i := 343) (by decide +kernel)⟩
theorem lw_p1 : lw_okq (⟨"AbsentBells$Reader", "readItem", "(Z)V"⟩, 10) := ⟨⟨by decide +kernel, by decide +kernel⟩, List.mem_of_getElem? (i := 24) (by decide +kernel), List.mem_of_getElem? (i := 359) (by decide +kernel), List.mem_of_getElem? (i := 360) (by decide +kernel)⟩
theorem lw_p2 : lw_okq (⟨"AbsentBells$Reader", "readPlaces", "(Z)V"⟩, 10) := ⟨⟨by decide +kernel, by decide +kernel⟩, List.mem_of_getElem? (i := 24) (by decide +kernel), List.mem_of_getElem? (i := 363) (by decide +kernel), List.mem_of_getElem? (i := 364) (by decide +kernel)⟩
theorem lw_p3 : lw_okq (⟨"AbsentBells$Reader", "readWord", "(Z)V"⟩, 10) := ⟨⟨by decide +kernel, by decide +kernel⟩, List.mem_of_getElem? (i := 24) (by decide +kernel), List.mem_of_getElem? (i := 367) (by decide +kernel), List.mem_of_getElem? (i := 368) (by decide +kernel)⟩
theorem lw_p4 : lw_okq (⟨"AbsentBells$Reader", "refuseToken", "()V"⟩, 10) := ⟨⟨by decide +kernel, by decide +kernel⟩, List.mem_of_getElem? (i := 24) (by decide +kernel), List.mem_of_getElem? (i := 371) (by decide +kernel), List.mem_of_getElem? (i := 372) (by decide +kernel)⟩
theorem lw_p5 : lw_okq (⟨"AbsentBells$Reader", "readNumber", "(II)I"⟩, 10) := ⟨⟨by decide +kernel, by decide +kernel⟩, List.mem_of_getElem? (i := 24) (by decide +kernel), List.mem_of_getElem? (i := 375) (by decide +kernel), List.mem_of_getElem? (i := 376) (by decide +kernel)⟩
theorem lw_p6 : lw_okq (⟨"AbsentBells$Reader", "readPerson", "()V"⟩, 10) := ⟨⟨by decide +kernel, by decide +kernel⟩, List.mem_of_getElem? (i := 24) (by decide +kernel), List.mem_of_getElem? (i := 379) (by decide +kernel), List.mem_of_getElem? (i := 380) (by decide +kernel)⟩
theorem lw_p7 : lw_okq (⟨"AbsentBells$Reader", "readDuty", "()V"⟩, 10) := ⟨⟨by decide +kernel, by decide +kernel⟩, List.mem_of_getElem? (i := 24) (by decide +kernel), List.mem_of_getElem? (i := 383) (by decide +kernel), List.mem_of_getElem? (i := 384) (by decide +kernel)⟩
theorem lw_p8 : lw_okq (⟨"AbsentBells$Reader", "readWalk", "()V"⟩, 10) := ⟨⟨by decide +kernel, by decide +kernel⟩, List.mem_of_getElem? (i := 24) (by decide +kernel), List.mem_of_getElem? (i := 387) (by decide +kernel), List.mem_of_getElem? (i := 388) (by decide +kernel)⟩
theorem lw_p9 : lw_okq (⟨"AbsentBells$Reader", "readFree", "()V"⟩, 10) := ⟨⟨by decide +kernel, by decide +kernel⟩, List.mem_of_getElem? (i := 24) (by decide +kernel), List.mem_of_getElem? (i := 391) (by decide +kernel), List.mem_of_getElem? (i := 392) (by decide +kernel)⟩
theorem lw_p10 : lw_okq (⟨"AbsentBells$Day", "willBeThere", "(III)Z"⟩, 2) := ⟨⟨by decide +kernel, by decide +kernel⟩, List.mem_of_getElem? (i := 135) (by decide +kernel), List.mem_of_getElem? (i := 444) (by decide +kernel), List.mem_of_getElem? (i := 445) (by decide +kernel)⟩
theorem lw_p11 : lw_okq (⟨"AbsentBells$Silencer", "dutiesOfSet", "(LAbsentBells$Day;I)I"⟩, 2) := ⟨⟨by decide +kernel, by decide +kernel⟩, List.mem_of_getElem? (i := 259) (by decide +kernel), List.mem_of_getElem? (i := 567) (by decide +kernel), List.mem_of_getElem? (i := 568) (by decide +kernel)⟩
theorem lw_p12 : lw_okq (⟨"AbsentBells$Silencer", "noteMinutes", "(LAbsentBells$Day;II)V"⟩, 2) := ⟨⟨by decide +kernel, by decide +kernel⟩, List.mem_of_getElem? (i := 259) (by decide +kernel), List.mem_of_getElem? (i := 576) (by decide +kernel), List.mem_of_getElem? (i := 577) (by decide +kernel)⟩
theorem lw_p13 : lw_okq (⟨"AbsentBells$Silencer", "silences", "(LAbsentBells$Day;III)Z"⟩, 2) := ⟨⟨by decide +kernel, by decide +kernel⟩, List.mem_of_getElem? (i := 259) (by decide +kernel), List.mem_of_getElem? (i := 581) (by decide +kernel), List.mem_of_getElem? (i := 582) (by decide +kernel)⟩
theorem lw_p14 : lw_okq (⟨"AbsentBells$Silencer", "silencesAll", "(LAbsentBells$Day;II)Z"⟩, 2) := ⟨⟨by decide +kernel, by decide +kernel⟩, List.mem_of_getElem? (i := 259) (by decide +kernel), List.mem_of_getElem? (i := 587) (by decide +kernel), List.mem_of_getElem? (i := 588) (by decide +kernel)⟩
theorem lw_p15 : lw_okq (⟨"AbsentBells$Ways", "fewestFrom", "(LAbsentBells$Plan;II)I"⟩, 3) := ⟨⟨by decide +kernel, by decide +kernel⟩, List.mem_of_getElem? (i := 243) (by decide +kernel), List.mem_of_getElem? (i := 603) (by decide +kernel), List.mem_of_getElem? (i := 604) (by decide +kernel)⟩
def lw_privs_1 : List (MethodName × Nat) := [(⟨"AbsentBells$Reader", "nextToken", "()V"⟩, 10), (⟨"AbsentBells$Reader", "readItem", "(Z)V"⟩, 10), (⟨"AbsentBells$Reader", "readPlaces", "(Z)V"⟩, 10), (⟨"AbsentBells$Reader", "readWord", "(Z)V"⟩, 10), (⟨"AbsentBells$Reader", "refuseToken", "()V"⟩, 10), (⟨"AbsentBells$Reader", "readNumber", "(II)I"⟩, 10), (⟨"AbsentBells$Reader", "readPerson", "()V"⟩, 10), (⟨"AbsentBells$Reader", "readDuty", "()V"⟩, 10), (⟨"AbsentBells$Reader", "readWalk", "()V"⟩, 10), (⟨"AbsentBells$Reader", "readFree", "()V"⟩, 10), (⟨"AbsentBells$Day", "willBeThere", "(III)Z"⟩, 2), (⟨"AbsentBells$Silencer", "dutiesOfSet", "(LAbsentBells$Day;I)I"⟩, 2), (⟨"AbsentBells$Silencer", "noteMinutes", "(LAbsentBells$Day;II)V"⟩, 2), (⟨"AbsentBells$Silencer", "silences", "(LAbsentBells$Day;III)Z"⟩, 2), (⟨"AbsentBells$Silencer", "silencesAll", "(LAbsentBells$Day;II)Z"⟩, 2), (⟨"AbsentBells$Ways", "fewestFrom", "(LAbsentBells$Plan;II)I"⟩, 3)]
theorem lw_r1 : ∀ q ∈ lw_privs_1, lw_okq q := List.forall_mem_cons.mpr ⟨lw_p0, List.forall_mem_cons.mpr ⟨lw_p1, List.forall_mem_cons.mpr ⟨lw_p2, List.forall_mem_cons.mpr ⟨lw_p3, List.forall_mem_cons.mpr ⟨lw_p4, List.forall_mem_cons.mpr ⟨lw_p5, List.forall_mem_cons.mpr ⟨lw_p6, List.forall_mem_cons.mpr ⟨lw_p7, List.forall_mem_cons.mpr ⟨lw_p8, List.forall_mem_cons.mpr ⟨lw_p9, List.forall_mem_cons.mpr ⟨lw_p10, List.forall_mem_cons.mpr ⟨lw_p11, List.forall_mem_cons.mpr ⟨lw_p12, List.forall_mem_cons.mpr ⟨lw_p13, List.forall_mem_cons.mpr ⟨lw_p14, List.forall_mem_cons.mpr ⟨lw_p15, fun _ h => absurd h List.not_mem_nil⟩⟩⟩⟩⟩⟩⟩⟩⟩⟩⟩⟩⟩⟩⟩⟩
theorem lw_p16 : lw_okq (⟨"AbsentBells$Ways", "tolls", "(LAbsentBells$Plan;III)I"⟩, 3) := ⟨⟨by decide +kernel, by decide +kernel⟩, List.mem_of_getElem? (i := 243) (by decide +kernel), List.mem_of_getElem? (i := 607) (by decide +kernel), List.mem_of_getElem? (i := 608) (by decide +kernel)⟩
theorem lw_p17 : lw_okq (⟨"AbsentBells$Ways", "tollsArriving", "(III)I"⟩, 3) := ⟨⟨by decide +kernel, by decide +kernel⟩, List.mem_of_getElem? (i := 243) (by decide +kernel), List.mem_of_getElem? (i := 612) (by decide +kernel), List.mem_of_getElem? (i := 613) (by decide +kernel)⟩
theorem lw_p18 : lw_okq (⟨"AbsentBells$Heard", "fits", "(LAbsentBells$Day;II)Z"⟩, 4) := ⟨⟨by decide +kernel, by decide +kernel⟩, List.mem_of_getElem? (i := 223) (by decide +kernel), List.mem_of_getElem? (i := 649) (by decide +kernel), List.mem_of_getElem? (i := 650) (by decide +kernel)⟩
theorem lw_p19 : lw_okq (⟨"AbsentBells$Rates", "asWatch", "(LAbsentBells$Day;I)I"⟩, 1) := ⟨⟨by decide +kernel, by decide +kernel⟩, List.mem_of_getElem? (i := 272) (by decide +kernel), List.mem_of_getElem? (i := 691) (by decide +kernel), List.mem_of_getElem? (i := 692) (by decide +kernel)⟩
theorem lw_p20 : lw_okq (⟨"AbsentBells$Rates", "asDuty", "(LAbsentBells$Day;I)I"⟩, 1) := ⟨⟨by decide +kernel, by decide +kernel⟩, List.mem_of_getElem? (i := 272) (by decide +kernel), List.mem_of_getElem? (i := 696) (by decide +kernel), List.mem_of_getElem? (i := 697) (by decide +kernel)⟩
theorem lw_p21 : lw_okq (⟨"AbsentBells$Rates", "asSchool", "(LAbsentBells$Day;I)I"⟩, 1) := ⟨⟨by decide +kernel, by decide +kernel⟩, List.mem_of_getElem? (i := 272) (by decide +kernel), List.mem_of_getElem? (i := 700) (by decide +kernel), List.mem_of_getElem? (i := 701) (by decide +kernel)⟩
theorem lw_p22 : lw_okq (⟨"AbsentBells$Rates", "asChurch", "(LAbsentBells$Day;I)I"⟩, 1) := ⟨⟨by decide +kernel, by decide +kernel⟩, List.mem_of_getElem? (i := 272) (by decide +kernel), List.mem_of_getElem? (i := 706) (by decide +kernel), List.mem_of_getElem? (i := 707) (by decide +kernel)⟩
theorem lw_p23 : lw_okq (⟨"AbsentBells$Rates", "asHearth", "(LAbsentBells$Day;I)I"⟩, 1) := ⟨⟨by decide +kernel, by decide +kernel⟩, List.mem_of_getElem? (i := 272) (by decide +kernel), List.mem_of_getElem? (i := 711) (by decide +kernel), List.mem_of_getElem? (i := 712) (by decide +kernel)⟩
theorem lw_p24 : lw_okq (⟨"AbsentBells$Rates", "asMarket", "(LAbsentBells$Day;I)I"⟩, 1) := ⟨⟨by decide +kernel, by decide +kernel⟩, List.mem_of_getElem? (i := 272) (by decide +kernel), List.mem_of_getElem? (i := 716) (by decide +kernel), List.mem_of_getElem? (i := 717) (by decide +kernel)⟩
theorem lw_p25 : lw_okq (⟨"AbsentBellsModel", "begins", "()V"⟩, 27) := ⟨⟨by decide +kernel, by decide +kernel⟩, List.mem_of_getElem? (i := 741) (by decide +kernel), List.mem_of_getElem? (i := 747) (by decide +kernel), List.mem_of_getElem? (i := 748) (by decide +kernel)⟩
theorem lw_p26 : lw_okq (⟨"AbsentBellsModel", "settles", "()V"⟩, 27) := ⟨⟨by decide +kernel, by decide +kernel⟩, List.mem_of_getElem? (i := 741) (by decide +kernel), List.mem_of_getElem? (i := 751) (by decide +kernel), List.mem_of_getElem? (i := 752) (by decide +kernel)⟩
theorem lw_p27 : lw_okq (⟨"AbsentBellsModel", "advances", "()V"⟩, 27) := ⟨⟨by decide +kernel, by decide +kernel⟩, List.mem_of_getElem? (i := 741) (by decide +kernel), List.mem_of_getElem? (i := 852) (by decide +kernel), List.mem_of_getElem? (i := 853) (by decide +kernel)⟩
theorem lw_p28 : lw_okq (⟨"AbsentBellsModel", "letterAt", "(I)I"⟩, 27) := ⟨⟨by decide +kernel, by decide +kernel⟩, List.mem_of_getElem? (i := 741) (by decide +kernel), List.mem_of_getElem? (i := 856) (by decide +kernel), List.mem_of_getElem? (i := 857) (by decide +kernel)⟩
theorem lw_p29 : lw_okq (⟨"AbsentBellsModel", "isWell", "()Z"⟩, 27) := ⟨⟨by decide +kernel, by decide +kernel⟩, List.mem_of_getElem? (i := 741) (by decide +kernel), List.mem_of_getElem? (i := 863) (by decide +kernel), List.mem_of_getElem? (i := 864) (by decide +kernel)⟩
theorem lw_p30 : lw_okq (⟨"AbsentBellsModel", "mayBegin", "(I)Z"⟩, 27) := ⟨⟨by decide +kernel, by decide +kernel⟩, List.mem_of_getElem? (i := 741) (by decide +kernel), List.mem_of_getElem? (i := 867) (by decide +kernel), List.mem_of_getElem? (i := 868) (by decide +kernel)⟩
theorem lw_p31 : lw_okq (⟨"AbsentBellsModel", "takes", "(Z)I"⟩, 27) := ⟨⟨by decide +kernel, by decide +kernel⟩, List.mem_of_getElem? (i := 741) (by decide +kernel), List.mem_of_getElem? (i := 871) (by decide +kernel), List.mem_of_getElem? (i := 872) (by decide +kernel)⟩
def lw_privs_2 : List (MethodName × Nat) := [(⟨"AbsentBells$Ways", "tolls", "(LAbsentBells$Plan;III)I"⟩, 3), (⟨"AbsentBells$Ways", "tollsArriving", "(III)I"⟩, 3), (⟨"AbsentBells$Heard", "fits", "(LAbsentBells$Day;II)Z"⟩, 4), (⟨"AbsentBells$Rates", "asWatch", "(LAbsentBells$Day;I)I"⟩, 1), (⟨"AbsentBells$Rates", "asDuty", "(LAbsentBells$Day;I)I"⟩, 1), (⟨"AbsentBells$Rates", "asSchool", "(LAbsentBells$Day;I)I"⟩, 1), (⟨"AbsentBells$Rates", "asChurch", "(LAbsentBells$Day;I)I"⟩, 1), (⟨"AbsentBells$Rates", "asHearth", "(LAbsentBells$Day;I)I"⟩, 1), (⟨"AbsentBells$Rates", "asMarket", "(LAbsentBells$Day;I)I"⟩, 1), (⟨"AbsentBellsModel", "begins", "()V"⟩, 27), (⟨"AbsentBellsModel", "settles", "()V"⟩, 27), (⟨"AbsentBellsModel", "advances", "()V"⟩, 27), (⟨"AbsentBellsModel", "letterAt", "(I)I"⟩, 27), (⟨"AbsentBellsModel", "isWell", "()Z"⟩, 27), (⟨"AbsentBellsModel", "mayBegin", "(I)Z"⟩, 27), (⟨"AbsentBellsModel", "takes", "(Z)I"⟩, 27)]
theorem lw_r2 : ∀ q ∈ lw_privs_2, lw_okq q := List.forall_mem_cons.mpr ⟨lw_p16, List.forall_mem_cons.mpr ⟨lw_p17, List.forall_mem_cons.mpr ⟨lw_p18, List.forall_mem_cons.mpr ⟨lw_p19, List.forall_mem_cons.mpr ⟨lw_p20, List.forall_mem_cons.mpr ⟨lw_p21, List.forall_mem_cons.mpr ⟨lw_p22, List.forall_mem_cons.mpr ⟨lw_p23, List.forall_mem_cons.mpr ⟨lw_p24, List.forall_mem_cons.mpr ⟨lw_p25, List.forall_mem_cons.mpr ⟨lw_p26, List.forall_mem_cons.mpr ⟨lw_p27, List.forall_mem_cons.mpr ⟨lw_p28, List.forall_mem_cons.mpr ⟨lw_p29, List.forall_mem_cons.mpr ⟨lw_p30, List.forall_mem_cons.mpr ⟨lw_p31, fun _ h => absurd h List.not_mem_nil⟩⟩⟩⟩⟩⟩⟩⟩⟩⟩⟩⟩⟩⟩⟩⟩
theorem lw_p32 : lw_okq (⟨"AbsentBellsModel", "readsItem", "(I)V"⟩, 27) := ⟨⟨by decide +kernel, by decide +kernel⟩, List.mem_of_getElem? (i := 741) (by decide +kernel), List.mem_of_getElem? (i := 875) (by decide +kernel), List.mem_of_getElem? (i := 876) (by decide +kernel)⟩
theorem lw_p33 : lw_okq (⟨"AbsentBellsModel", "number", "(II)I"⟩, 27) := ⟨⟨by decide +kernel, by decide +kernel⟩, List.mem_of_getElem? (i := 741) (by decide +kernel), List.mem_of_getElem? (i := 879) (by decide +kernel), List.mem_of_getElem? (i := 880) (by decide +kernel)⟩
theorem lw_p34 : lw_okq (⟨"AbsentBellsModel", "isPerson", "(I)Z"⟩, 27) := ⟨⟨by decide +kernel, by decide +kernel⟩, List.mem_of_getElem? (i := 741) (by decide +kernel), List.mem_of_getElem? (i := 887) (by decide +kernel), List.mem_of_getElem? (i := 888) (by decide +kernel)⟩
theorem lw_p35 : lw_okq (⟨"AbsentBellsModel", "asNow", "()V"⟩, 27) := ⟨⟨by decide +kernel, by decide +kernel⟩, List.mem_of_getElem? (i := 741) (by decide +kernel), List.mem_of_getElem? (i := 891) (by decide +kernel), List.mem_of_getElem? (i := 892) (by decide +kernel)⟩
theorem lw_p36 : lw_okq (⟨"AbsentBellsModel", "placeIn", "(II)I"⟩, 27) := ⟨⟨by decide +kernel, by decide +kernel⟩, List.mem_of_getElem? (i := 741) (by decide +kernel), List.mem_of_getElem? (i := 895) (by decide +kernel), List.mem_of_getElem? (i := 896) (by decide +kernel)⟩
theorem lw_p37 : lw_okq (⟨"AbsentBellsModel", "isRung", "(III)Z"⟩, 27) := ⟨⟨by decide +kernel, by decide +kernel⟩, List.mem_of_getElem? (i := 741) (by decide +kernel), List.mem_of_getElem? (i := 899) (by decide +kernel), List.mem_of_getElem? (i := 900) (by decide +kernel)⟩
theorem lw_p38 : lw_okq (⟨"AbsentBellsModel", "isDuty", "(I)Z"⟩, 27) := ⟨⟨by decide +kernel, by decide +kernel⟩, List.mem_of_getElem? (i := 741) (by decide +kernel), List.mem_of_getElem? (i := 907) (by decide +kernel), List.mem_of_getElem? (i := 908) (by decide +kernel)⟩
theorem lw_p39 : lw_okq (⟨"AbsentBellsModel", "worst", "()I"⟩, 27) := ⟨⟨by decide +kernel, by decide +kernel⟩, List.mem_of_getElem? (i := 741) (by decide +kernel), List.mem_of_getElem? (i := 915) (by decide +kernel), List.mem_of_getElem? (i := 916) (by decide +kernel)⟩
theorem lw_p40 : lw_okq (⟨"AbsentBellsModel", "firstRung", "()I"⟩, 27) := ⟨⟨by decide +kernel, by decide +kernel⟩, List.mem_of_getElem? (i := 741) (by decide +kernel), List.mem_of_getElem? (i := 919) (by decide +kernel), List.mem_of_getElem? (i := 920) (by decide +kernel)⟩
theorem lw_p41 : lw_okq (⟨"AbsentBellsModel", "ringsIn", "(I)I"⟩, 27) := ⟨⟨by decide +kernel, by decide +kernel⟩, List.mem_of_getElem? (i := 741) (by decide +kernel), List.mem_of_getElem? (i := 923) (by decide +kernel), List.mem_of_getElem? (i := 924) (by decide +kernel)⟩
theorem lw_p42 : lw_okq (⟨"AbsentBellsModel", "isPlace", "(I)Z"⟩, 27) := ⟨⟨by decide +kernel, by decide +kernel⟩, List.mem_of_getElem? (i := 741) (by decide +kernel), List.mem_of_getElem? (i := 931) (by decide +kernel), List.mem_of_getElem? (i := 932) (by decide +kernel)⟩
theorem lw_p43 : lw_okq (⟨"AbsentBellsModel", "notes", "()V"⟩, 27) := ⟨⟨by decide +kernel, by decide +kernel⟩, List.mem_of_getElem? (i := 741) (by decide +kernel), List.mem_of_getElem? (i := 935) (by decide +kernel), List.mem_of_getElem? (i := 936) (by decide +kernel)⟩
theorem lw_p44 : lw_okq (⟨"AbsentBellsModel", "walk", "(II)I"⟩, 27) := ⟨⟨by decide +kernel, by decide +kernel⟩, List.mem_of_getElem? (i := 741) (by decide +kernel), List.mem_of_getElem? (i := 939) (by decide +kernel), List.mem_of_getElem? (i := 940) (by decide +kernel)⟩
theorem lw_p45 : lw_okq (⟨"AbsentBellsModel", "isSet", "(I)Z"⟩, 27) := ⟨⟨by decide +kernel, by decide +kernel⟩, List.mem_of_getElem? (i := 741) (by decide +kernel), List.mem_of_getElem? (i := 970) (by decide +kernel), List.mem_of_getElem? (i := 971) (by decide +kernel)⟩
theorem lw_p46 : lw_okq (⟨"AbsentBellsModel", "isSilent", "(I)Z"⟩, 27) := ⟨⟨by decide +kernel, by decide +kernel⟩, List.mem_of_getElem? (i := 741) (by decide +kernel), List.mem_of_getElem? (i := 978) (by decide +kernel), List.mem_of_getElem? (i := 979) (by decide +kernel)⟩
theorem lw_p47 : lw_okq (⟨"AbsentBellsModel", "measures", "(I)V"⟩, 27) := ⟨⟨by decide +kernel, by decide +kernel⟩, List.mem_of_getElem? (i := 741) (by decide +kernel), List.mem_of_getElem? (i := 986) (by decide +kernel), List.mem_of_getElem? (i := 987) (by decide +kernel)⟩
def lw_privs_3 : List (MethodName × Nat) := [(⟨"AbsentBellsModel", "readsItem", "(I)V"⟩, 27), (⟨"AbsentBellsModel", "number", "(II)I"⟩, 27), (⟨"AbsentBellsModel", "isPerson", "(I)Z"⟩, 27), (⟨"AbsentBellsModel", "asNow", "()V"⟩, 27), (⟨"AbsentBellsModel", "placeIn", "(II)I"⟩, 27), (⟨"AbsentBellsModel", "isRung", "(III)Z"⟩, 27), (⟨"AbsentBellsModel", "isDuty", "(I)Z"⟩, 27), (⟨"AbsentBellsModel", "worst", "()I"⟩, 27), (⟨"AbsentBellsModel", "firstRung", "()I"⟩, 27), (⟨"AbsentBellsModel", "ringsIn", "(I)I"⟩, 27), (⟨"AbsentBellsModel", "isPlace", "(I)Z"⟩, 27), (⟨"AbsentBellsModel", "notes", "()V"⟩, 27), (⟨"AbsentBellsModel", "walk", "(II)I"⟩, 27), (⟨"AbsentBellsModel", "isSet", "(I)Z"⟩, 27), (⟨"AbsentBellsModel", "isSilent", "(I)Z"⟩, 27), (⟨"AbsentBellsModel", "measures", "(I)V"⟩, 27)]
theorem lw_r3 : ∀ q ∈ lw_privs_3, lw_okq q := List.forall_mem_cons.mpr ⟨lw_p32, List.forall_mem_cons.mpr ⟨lw_p33, List.forall_mem_cons.mpr ⟨lw_p34, List.forall_mem_cons.mpr ⟨lw_p35, List.forall_mem_cons.mpr ⟨lw_p36, List.forall_mem_cons.mpr ⟨lw_p37, List.forall_mem_cons.mpr ⟨lw_p38, List.forall_mem_cons.mpr ⟨lw_p39, List.forall_mem_cons.mpr ⟨lw_p40, List.forall_mem_cons.mpr ⟨lw_p41, List.forall_mem_cons.mpr ⟨lw_p42, List.forall_mem_cons.mpr ⟨lw_p43, List.forall_mem_cons.mpr ⟨lw_p44, List.forall_mem_cons.mpr ⟨lw_p45, List.forall_mem_cons.mpr ⟨lw_p46, List.forall_mem_cons.mpr ⟨lw_p47, fun _ h => absurd h List.not_mem_nil⟩⟩⟩⟩⟩⟩⟩⟩⟩⟩⟩⟩⟩⟩⟩⟩
theorem lw_p48 : lw_okq (⟨"AbsentBellsModel", "costBy", "(IIII)I"⟩, 27) := ⟨⟨by decide +kernel, by decide +kernel⟩, List.mem_of_getElem? (i := 741) (by decide +kernel), List.mem_of_getElem? (i := 991) (by decide +kernel), List.mem_of_getElem? (i := 992) (by decide +kernel)⟩
theorem lw_p49 : lw_okq (⟨"AbsentBellsModel", "onWay", "(IIII)I"⟩, 27) := ⟨⟨by decide +kernel, by decide +kernel⟩, List.mem_of_getElem? (i := 741) (by decide +kernel), List.mem_of_getElem? (i := 995) (by decide +kernel), List.mem_of_getElem? (i := 996) (by decide +kernel)⟩
def lw_privs_4 : List (MethodName × Nat) := [(⟨"AbsentBellsModel", "costBy", "(IIII)I"⟩, 27), (⟨"AbsentBellsModel", "onWay", "(IIII)I"⟩, 27)]
theorem lw_r4 : ∀ q ∈ lw_privs_4, lw_okq q := List.forall_mem_cons.mpr ⟨lw_p48, List.forall_mem_cons.mpr ⟨lw_p49, fun _ h => absurd h List.not_mem_nil⟩⟩
def lw_privs : List (MethodName × Nat) := lw_privs_1 ++ (lw_privs_2 ++ (lw_privs_3 ++ (lw_privs_4)))
def lw_tbl : List Cond := k2_sels lw_privs ++ tables_1
theorem lw_privs_ok : ∀ q ∈ lw_privs, lw_okq q := by
  show ∀ q ∈ lw_privs_1 ++ (lw_privs_2 ++ (lw_privs_3 ++ (lw_privs_4))), lw_okq q
  exact List.forall_mem_append.mpr ⟨lw_r1, List.forall_mem_append.mpr ⟨lw_r2, List.forall_mem_append.mpr ⟨lw_r3, lw_r4⟩⟩⟩
-- ===== end of PART A; then your names; then what follows =====
end
section
/-! ===== BEGIN printed: names, fields, word lists, decode rows ===== -/
def RX0 : String := "AbsentBells$Day"
def TX0 : u_T := fun k => match k with
  | 0 => ("AbsentBells$Day", "plan", "LAbsentBells$Plan;", true)
  | _ => ("AbsentBells$Day", "moment", "LAbsentBells$Moment;", true)
def tyX0 : Nat → FieldType := fun k => match k with
  | 0 => .object "AbsentBells$Plan"
  | _ => .object "AbsentBells$Moment"
abbrev wsX00 : List Cond := u_ws RX0 TX0 2
theorem nmX0 : ∀ a, a < 2 → ∀ b, b < 2 → a ≠ b → (TX0 a).2.1 ≠ (TX0 b).2.1 := by decide +kernel
theorem tyX0_ok : ∀ k, k < 2 → parseFieldDescriptor (TX0 k).2.2.1 = some (tyX0 k) := by decide +kernel
abbrev cX0_init : ByteArray := prog_2_method_1_code
def yX0_init : MethodName := ⟨RX0, "<init>", "()V"⟩
abbrev cX0_begin : ByteArray := prog_2_method_2_code
def yX0_begin : MethodName := ⟨RX0, "begin", "(LAbsentBells$Plan;)V"⟩
abbrev cX0_isDue : ByteArray := prog_2_method_3_code
def yX0_isDue : MethodName := ⟨RX0, "isDue", "(II)Z"⟩
abbrev cX0_dueAt : ByteArray := prog_2_method_4_code
def yX0_dueAt : MethodName := ⟨RX0, "dueAt", "(II)I"⟩
abbrev cX0_isRungAt : ByteArray := prog_2_method_5_code
def yX0_isRungAt : MethodName := ⟨RX0, "isRungAt", "(III)Z"⟩
abbrev cX0_dutiesRung : ByteArray := prog_2_method_6_code
def yX0_dutiesRung : MethodName := ⟨RX0, "dutiesRung", "(I)I"⟩
abbrev cX0_willBeThere : ByteArray := prog_2_method_7_code
def yX0_willBeThere : MethodName := ⟨RX0, "willBeThere", "(III)Z"⟩
abbrev cX0_rung : ByteArray := prog_2_method_8_code
def yX0_rung : MethodName := ⟨RX0, "rung", "(I)I"⟩
abbrev cX0_owners : ByteArray := prog_2_method_9_code
def yX0_owners : MethodName := ⟨RX0, "owners", "(I)I"⟩
abbrev cX0_dutiesOf : ByteArray := prog_2_method_10_code
def yX0_dutiesOf : MethodName := ⟨RX0, "dutiesOf", "(I)I"⟩
abbrev cX0_passMinute : ByteArray := prog_2_method_11_code
def yX0_passMinute : MethodName := ⟨RX0, "passMinute", "()I"⟩
abbrev cX0_tolledInAll : ByteArray := prog_2_method_12_code
def yX0_tolledInAll : MethodName := ⟨RX0, "tolledInAll", "()I"⟩
abbrev cX0_worst : ByteArray := prog_2_method_13_code
def yX0_worst : MethodName := ⟨RX0, "worst", "()I"⟩
abbrev cX0_nextRung : ByteArray := prog_2_method_14_code
def yX0_nextRung : MethodName := ⟨RX0, "nextRung", "()I"⟩
abbrev cX0_chordMinutes : ByteArray := prog_2_method_15_code
def yX0_chordMinutes : MethodName := ⟨RX0, "chordMinutes", "(I)I"⟩
abbrev cX0_chordFirst : ByteArray := prog_2_method_16_code
def yX0_chordFirst : MethodName := ⟨RX0, "chordFirst", "(I)I"⟩
abbrev cX0_firstUnlike : ByteArray := prog_2_method_17_code
def yX0_firstUnlike : MethodName := ⟨RX0, "firstUnlike", "(III)I"⟩
abbrev cX0_missedAtHome : ByteArray := prog_2_method_18_code
def yX0_missedAtHome : MethodName := ⟨RX0, "missedAtHome", "(II)I"⟩
def RX1 : String := "AbsentBells$Heard"
def TX1 : u_T := fun k => match k with
  | 0 => ("AbsentBells$Heard", "size", "I", false)
  | 1 => ("AbsentBells$Heard", "of", "[I", true)
  | 2 => ("AbsentBells$Heard", "minutes", "[I", true)
  | _ => ("AbsentBells$Heard", "was", "[I", true)
def tyX1 : Nat → FieldType := fun k => match k with
  | 0 => .int
  | 1 => .array .int
  | 2 => .array .int
  | _ => .array .int
abbrev wsX10 : List Cond := u_ws RX1 TX1 4
theorem nmX1 : ∀ a, a < 4 → ∀ b, b < 4 → a ≠ b → (TX1 a).2.1 ≠ (TX1 b).2.1 := by decide +kernel
theorem tyX1_ok : ∀ k, k < 4 → parseFieldDescriptor (TX1 k).2.2.1 = some (tyX1 k) := by decide +kernel
abbrev cX1_init : ByteArray := prog_3_method_1_code
def yX1_init : MethodName := ⟨RX1, "<init>", "()V"⟩
abbrev cX1_add : ByteArray := prog_3_method_2_code
def yX1_add : MethodName := ⟨RX1, "add", "(III)Z"⟩
abbrev cX1_drop : ByteArray := prog_3_method_3_code
def yX1_drop : MethodName := ⟨RX1, "drop", "()I"⟩
abbrev cX1_placesFor : ByteArray := prog_3_method_4_code
def yX1_placesFor : MethodName := ⟨RX1, "placesFor", "(LAbsentBells$Day;I)I"⟩
abbrev cX1_fits : ByteArray := prog_3_method_5_code
def yX1_fits : MethodName := ⟨RX1, "fits", "(LAbsentBells$Day;II)Z"⟩
def RX2 : String := "AbsentBells$History"
def TX2 : u_T := fun k => match k with
  | 0 => ("AbsentBells$History", "past", "[LAbsentBells$Moment;", true)
  | 1 => ("AbsentBells$History", "known", "I", false)
  | _ => ("AbsentBells$History", "next", "I", false)
def tyX2 : Nat → FieldType := fun k => match k with
  | 0 => .array (.object "AbsentBells$Moment")
  | 1 => .int
  | _ => .int
abbrev wsX20 : List Cond := u_ws RX2 TX2 3
theorem nmX2 : ∀ a, a < 3 → ∀ b, b < 3 → a ≠ b → (TX2 a).2.1 ≠ (TX2 b).2.1 := by decide +kernel
theorem tyX2_ok : ∀ k, k < 3 → parseFieldDescriptor (TX2 k).2.2.1 = some (tyX2 k) := by decide +kernel
abbrev cX2_init : ByteArray := prog_4_method_1_code
def yX2_init : MethodName := ⟨RX2, "<init>", "()V"⟩
abbrev cX2_remember : ByteArray := prog_4_method_2_code
def yX2_remember : MethodName := ⟨RX2, "remember", "(LAbsentBells$Moment;)V"⟩
abbrev cX2_restore : ByteArray := prog_4_method_3_code
def yX2_restore : MethodName := ⟨RX2, "restore", "(LAbsentBells$Moment;)V"⟩
abbrev cX2_lose : ByteArray := prog_4_method_4_code
def yX2_lose : MethodName := ⟨RX2, "lose", "()V"⟩
def RX3 : String := "AbsentBells$Moment"
def TX3 : u_T := fun k => match k with
  | 0 => ("AbsentBells$Moment", "minute", "I", false)
  | 1 => ("AbsentBells$Moment", "excused", "I", false)
  | 2 => ("AbsentBells$Moment", "place", "[I", true)
  | 3 => ("AbsentBells$Moment", "toGo", "[I", true)
  | 4 => ("AbsentBells$Moment", "tolled", "[I", true)
  | _ => ("AbsentBells$Moment", "owner", "[I", true)
def tyX3 : Nat → FieldType := fun k => match k with
  | 0 => .int
  | 1 => .int
  | 2 => .array .int
  | 3 => .array .int
  | 4 => .array .int
  | _ => .array .int
abbrev wsX30 : List Cond := u_ws RX3 TX3 6
theorem nmX3 : ∀ a, a < 6 → ∀ b, b < 6 → a ≠ b → (TX3 a).2.1 ≠ (TX3 b).2.1 := by decide +kernel
theorem tyX3_ok : ∀ k, k < 6 → parseFieldDescriptor (TX3 k).2.2.1 = some (tyX3 k) := by decide +kernel
abbrev cX3_init : ByteArray := prog_5_method_1_code
def yX3_init : MethodName := ⟨RX3, "<init>", "()V"⟩
abbrev cX3_begin : ByteArray := prog_5_method_2_code
def yX3_begin : MethodName := ⟨RX3, "begin", "(LAbsentBells$Plan;)V"⟩
abbrev cX3_take : ByteArray := prog_5_method_3_code
def yX3_take : MethodName := ⟨RX3, "take", "(LAbsentBells$Moment;)V"⟩
def RX4 : String := "AbsentBells$Plan"
def TX4 : u_T := fun k => match k with
  | 0 => ("AbsentBells$Plan", "places", "I", false)
  | 1 => ("AbsentBells$Plan", "people", "I", false)
  | 2 => ("AbsentBells$Plan", "duties", "I", false)
  | 3 => ("AbsentBells$Plan", "walk", "I", false)
  | 4 => ("AbsentBells$Plan", "free", "I", false)
  | 5 => ("AbsentBells$Plan", "home", "[I", true)
  | 6 => ("AbsentBells$Plan", "teller", "[I", true)
  | 7 => ("AbsentBells$Plan", "place", "[I", true)
  | 8 => ("AbsentBells$Plan", "from", "[I", true)
  | _ => ("AbsentBells$Plan", "lasts", "[I", true)
def tyX4 : Nat → FieldType := fun k => match k with
  | 0 => .int
  | 1 => .int
  | 2 => .int
  | 3 => .int
  | 4 => .int
  | 5 => .array .int
  | 6 => .array .int
  | 7 => .array .int
  | 8 => .array .int
  | _ => .array .int
abbrev wsX40 : List Cond := u_ws RX4 TX4 10
theorem nmX4 : ∀ a, a < 10 → ∀ b, b < 10 → a ≠ b → (TX4 a).2.1 ≠ (TX4 b).2.1 := by decide +kernel
theorem tyX4_ok : ∀ k, k < 10 → parseFieldDescriptor (TX4 k).2.2.1 = some (tyX4 k) := by decide +kernel
abbrev cX4_init : ByteArray := prog_6_method_1_code
def yX4_init : MethodName := ⟨RX4, "<init>", "()V"⟩
abbrev cX4_reset : ByteArray := prog_6_method_2_code
def yX4_reset : MethodName := ⟨RX4, "reset", "()V"⟩
abbrev cX4_take : ByteArray := prog_6_method_3_code
def yX4_take : MethodName := ⟨RX4, "take", "(LAbsentBells$Plan;)V"⟩
abbrev cX4_isPlace : ByteArray := prog_6_method_4_code
def yX4_isPlace : MethodName := ⟨RX4, "isPlace", "(I)Z"⟩
abbrev cX4_isPerson : ByteArray := prog_6_method_5_code
def yX4_isPerson : MethodName := ⟨RX4, "isPerson", "(I)Z"⟩
abbrev cX4_isDuty : ByteArray := prog_6_method_6_code
def yX4_isDuty : MethodName := ⟨RX4, "isDuty", "(I)Z"⟩
abbrev cX4_isSet : ByteArray := prog_6_method_7_code
def yX4_isSet : MethodName := ⟨RX4, "isSet", "(I)Z"⟩
abbrev cX4_minutesBetween : ByteArray := prog_6_method_8_code
def yX4_minutesBetween : MethodName := ⟨RX4, "minutesBetween", "(II)I"⟩
def RX5 : String := "AbsentBells$Rates"
def TX5 : u_T := fun k => match k with
  | _ => ("AbsentBells$Rates", "traced", "J", false)
def tyX5 : Nat → FieldType := fun k => match k with
  | _ => .long
abbrev wsX50 : List Cond := u_ws RX5 TX5 1
theorem nmX5 : ∀ a, a < 1 → ∀ b, b < 1 → a ≠ b → (TX5 a).2.1 ≠ (TX5 b).2.1 := by decide +kernel
theorem tyX5_ok : ∀ k, k < 1 → parseFieldDescriptor (TX5 k).2.2.1 = some (tyX5 k) := by decide +kernel
abbrev cX5_init : ByteArray := prog_7_method_1_code
def yX5_init : MethodName := ⟨RX5, "<init>", "()V"⟩
abbrev cX5_as : ByteArray := prog_7_method_2_code
def yX5_as : MethodName := ⟨RX5, "as", "(ILAbsentBells$Day;I)I"⟩
abbrev cX5_asDuty : ByteArray := prog_7_method_3_code
def yX5_asDuty : MethodName := ⟨RX5, "asDuty", "(LAbsentBells$Day;I)I"⟩
abbrev cX5_asWatch : ByteArray := prog_7_method_4_code
def yX5_asWatch : MethodName := ⟨RX5, "asWatch", "(LAbsentBells$Day;I)I"⟩
abbrev cX5_asSchool : ByteArray := prog_7_method_5_code
def yX5_asSchool : MethodName := ⟨RX5, "asSchool", "(LAbsentBells$Day;I)I"⟩
abbrev cX5_asChurch : ByteArray := prog_7_method_6_code
def yX5_asChurch : MethodName := ⟨RX5, "asChurch", "(LAbsentBells$Day;I)I"⟩
abbrev cX5_asHearth : ByteArray := prog_7_method_7_code
def yX5_asHearth : MethodName := ⟨RX5, "asHearth", "(LAbsentBells$Day;I)I"⟩
abbrev cX5_asMarket : ByteArray := prog_7_method_8_code
def yX5_asMarket : MethodName := ⟨RX5, "asMarket", "(LAbsentBells$Day;I)I"⟩
def RX6 : String := "AbsentBells$Reader"
def TX6 : u_T := fun k => match k with
  | 0 => ("AbsentBells$Reader", "letters", "[I", true)
  | 1 => ("AbsentBells$Reader", "length", "I", false)
  | 2 => ("AbsentBells$Reader", "draft", "LAbsentBells$Plan;", true)
  | 3 => ("AbsentBells$Reader", "fault", "I", false)
  | 4 => ("AbsentBells$Reader", "token", "I", false)
  | 5 => ("AbsentBells$Reader", "start", "I", false)
  | 6 => ("AbsentBells$Reader", "number", "I", false)
  | 7 => ("AbsentBells$Reader", "ahead", "I", false)
  | 8 => ("AbsentBells$Reader", "walkTold", "Z", false)
  | _ => ("AbsentBells$Reader", "freeTold", "Z", false)
def tyX6 : Nat → FieldType := fun k => match k with
  | 0 => .array .int
  | 1 => .int
  | 2 => .object "AbsentBells$Plan"
  | 3 => .int
  | 4 => .int
  | 5 => .int
  | 6 => .int
  | 7 => .int
  | 8 => .boolean
  | _ => .boolean
abbrev wsX60 : List Cond := u_ws RX6 TX6 10
theorem nmX6 : ∀ a, a < 10 → ∀ b, b < 10 → a ≠ b → (TX6 a).2.1 ≠ (TX6 b).2.1 := by decide +kernel
theorem tyX6_ok : ∀ k, k < 10 → parseFieldDescriptor (TX6 k).2.2.1 = some (tyX6 k) := by decide +kernel
abbrev cX6_init : ByteArray := prog_8_method_1_code
def yX6_init : MethodName := ⟨RX6, "<init>", "()V"⟩
abbrev cX6_addLetter : ByteArray := prog_8_method_2_code
def yX6_addLetter : MethodName := ⟨RX6, "addLetter", "(I)Z"⟩
abbrev cX6_dropLetters : ByteArray := prog_8_method_3_code
def yX6_dropLetters : MethodName := ⟨RX6, "dropLetters", "()I"⟩
abbrev cX6_hasFault : ByteArray := prog_8_method_4_code
def yX6_hasFault : MethodName := ⟨RX6, "hasFault", "()Z"⟩
abbrev cX6_read : ByteArray := prog_8_method_5_code
def yX6_read : MethodName := ⟨RX6, "read", "()I"⟩
abbrev cX6_readItem : ByteArray := prog_8_method_6_code
def yX6_readItem : MethodName := ⟨RX6, "readItem", "(Z)V"⟩
abbrev cX6_readPlaces : ByteArray := prog_8_method_7_code
def yX6_readPlaces : MethodName := ⟨RX6, "readPlaces", "(Z)V"⟩
abbrev cX6_readPerson : ByteArray := prog_8_method_8_code
def yX6_readPerson : MethodName := ⟨RX6, "readPerson", "()V"⟩
abbrev cX6_readDuty : ByteArray := prog_8_method_9_code
def yX6_readDuty : MethodName := ⟨RX6, "readDuty", "()V"⟩
abbrev cX6_readWalk : ByteArray := prog_8_method_10_code
def yX6_readWalk : MethodName := ⟨RX6, "readWalk", "()V"⟩
abbrev cX6_readFree : ByteArray := prog_8_method_11_code
def yX6_readFree : MethodName := ⟨RX6, "readFree", "()V"⟩
abbrev cX6_readWord : ByteArray := prog_8_method_12_code
def yX6_readWord : MethodName := ⟨RX6, "readWord", "(Z)V"⟩
abbrev cX6_readNumber : ByteArray := prog_8_method_13_code
def yX6_readNumber : MethodName := ⟨RX6, "readNumber", "(II)I"⟩
abbrev cX6_refuseToken : ByteArray := prog_8_method_14_code
def yX6_refuseToken : MethodName := ⟨RX6, "refuseToken", "()V"⟩
abbrev cX6_nextToken : ByteArray := prog_8_method_15_code
def yX6_nextToken : MethodName := ⟨RX6, "nextToken", "()V"⟩
abbrev cX6_isDigit : ByteArray := prog_8_method_16_code
def yX6_isDigit : MethodName := ⟨RX6, "isDigit", "(I)Z"⟩
abbrev cX6_isWord : ByteArray := prog_8_method_17_code
def yX6_isWord : MethodName := ⟨RX6, "isWord", "(I)Z"⟩
def RX7 : String := "AbsentBells$Silencer"
def TX7 : u_T := fun k => match k with
  | 0 => ("AbsentBells$Silencer", "notes", "[I", true)
  | _ => ("AbsentBells$Silencer", "size", "I", false)
def tyX7 : Nat → FieldType := fun k => match k with
  | 0 => .array .int
  | _ => .int
abbrev wsX70 : List Cond := u_ws RX7 TX7 2
theorem nmX7 : ∀ a, a < 2 → ∀ b, b < 2 → a ≠ b → (TX7 a).2.1 ≠ (TX7 b).2.1 := by decide +kernel
theorem tyX7_ok : ∀ k, k < 2 → parseFieldDescriptor (TX7 k).2.2.1 = some (tyX7 k) := by decide +kernel
abbrev cX7_init : ByteArray := prog_9_method_1_code
def yX7_init : MethodName := ⟨RX7, "<init>", "()V"⟩
abbrev cX7_fewest : ByteArray := prog_9_method_2_code
def yX7_fewest : MethodName := ⟨RX7, "fewest", "(LAbsentBells$Day;I)I"⟩
abbrev cX7_dutiesOfSet : ByteArray := prog_9_method_3_code
def yX7_dutiesOfSet : MethodName := ⟨RX7, "dutiesOfSet", "(LAbsentBells$Day;I)I"⟩
abbrev cX7_noteMinutes : ByteArray := prog_9_method_4_code
def yX7_noteMinutes : MethodName := ⟨RX7, "noteMinutes", "(LAbsentBells$Day;II)V"⟩
abbrev cX7_silencesAll : ByteArray := prog_9_method_5_code
def yX7_silencesAll : MethodName := ⟨RX7, "silencesAll", "(LAbsentBells$Day;II)Z"⟩
abbrev cX7_silences : ByteArray := prog_9_method_6_code
def yX7_silences : MethodName := ⟨RX7, "silences", "(LAbsentBells$Day;III)Z"⟩
def RX8 : String := "AbsentBells$Ways"
def TX8 : u_T := fun k => match k with
  | 0 => ("AbsentBells$Ways", "due", "[I", true)
  | 1 => ("AbsentBells$Ways", "astray", "[I", true)
  | _ => ("AbsentBells$Ways", "fewest", "[I", true)
def tyX8 : Nat → FieldType := fun k => match k with
  | 0 => .array .int
  | 1 => .array .int
  | _ => .array .int
abbrev wsX80 : List Cond := u_ws RX8 TX8 3
theorem nmX8 : ∀ a, a < 3 → ∀ b, b < 3 → a ≠ b → (TX8 a).2.1 ≠ (TX8 b).2.1 := by decide +kernel
theorem tyX8_ok : ∀ k, k < 3 → parseFieldDescriptor (TX8 k).2.2.1 = some (tyX8 k) := by decide +kernel
abbrev cX8_init : ByteArray := prog_10_method_1_code
def yX8_init : MethodName := ⟨RX8, "<init>", "()V"⟩
abbrev cX8_weigh : ByteArray := prog_10_method_2_code
def yX8_weigh : MethodName := ⟨RX8, "weigh", "(LAbsentBells$Day;I)V"⟩
abbrev cX8_fewestFrom : ByteArray := prog_10_method_3_code
def yX8_fewestFrom : MethodName := ⟨RX8, "fewestFrom", "(LAbsentBells$Plan;II)I"⟩
abbrev cX8_tolls : ByteArray := prog_10_method_4_code
def yX8_tolls : MethodName := ⟨RX8, "tolls", "(LAbsentBells$Plan;III)I"⟩
abbrev cX8_tollsArriving : ByteArray := prog_10_method_5_code
def yX8_tollsArriving : MethodName := ⟨RX8, "tollsArriving", "(III)I"⟩
abbrev cX8_fewestTolls : ByteArray := prog_10_method_6_code
def yX8_fewestTolls : MethodName := ⟨RX8, "fewestTolls", "(LAbsentBells$Moment;I)I"⟩
abbrev cX8_bestPlace : ByteArray := prog_10_method_7_code
def yX8_bestPlace : MethodName := ⟨RX8, "bestPlace", "(LAbsentBells$Day;I)I"⟩
def RX9 : String := "AbsentBells"
def TX9 : u_T := fun k => match k with
  | 0 => ("AbsentBells", "reader", "LAbsentBells$Reader;", true)
  | 1 => ("AbsentBells", "day", "LAbsentBells$Day;", true)
  | 2 => ("AbsentBells", "history", "LAbsentBells$History;", true)
  | 3 => ("AbsentBells", "heard", "LAbsentBells$Heard;", true)
  | 4 => ("AbsentBells", "ways", "LAbsentBells$Ways;", true)
  | 5 => ("AbsentBells", "silencer", "LAbsentBells$Silencer;", true)
  | 6 => ("AbsentBells", "rates", "LAbsentBells$Rates;", true)
  | 7 => ("AbsentBells", "images", "[LAbsentBells$Moment;", true)
  | _ => ("AbsentBells", "kept", "[Z", true)
def tyX9 : Nat → FieldType := fun k => match k with
  | 0 => .object "AbsentBells$Reader"
  | 1 => .object "AbsentBells$Day"
  | 2 => .object "AbsentBells$History"
  | 3 => .object "AbsentBells$Heard"
  | 4 => .object "AbsentBells$Ways"
  | 5 => .object "AbsentBells$Silencer"
  | 6 => .object "AbsentBells$Rates"
  | 7 => .array (.object "AbsentBells$Moment")
  | _ => .array .boolean
abbrev wsX90 : List Cond := u_ws RX9 TX9 9
theorem nmX9 : ∀ a, a < 9 → ∀ b, b < 9 → a ≠ b → (TX9 a).2.1 ≠ (TX9 b).2.1 := by decide +kernel
theorem tyX9_ok : ∀ k, k < 9 → parseFieldDescriptor (TX9 k).2.2.1 = some (tyX9 k) := by decide +kernel
abbrev cX9_init : ByteArray := prog_1_method_1_code
def yX9_init : MethodName := ⟨RX9, "<init>", "()V"⟩
abbrev cX9_type : ByteArray := prog_1_method_2_code
def yX9_type : MethodName := ⟨RX9, "type", "(I)I"⟩
abbrev cX9_clear : ByteArray := prog_1_method_3_code
def yX9_clear : MethodName := ⟨RX9, "clear", "()I"⟩
abbrev cX9_town : ByteArray := prog_1_method_4_code
def yX9_town : MethodName := ⟨RX9, "town", "()I"⟩
abbrev cX9_person : ByteArray := prog_1_method_5_code
def yX9_person : MethodName := ⟨RX9, "person", "(II)I"⟩
abbrev cX9_duty : ByteArray := prog_1_method_6_code
def yX9_duty : MethodName := ⟨RX9, "duty", "(II)I"⟩
abbrev cX9_now : ByteArray := prog_1_method_7_code
def yX9_now : MethodName := ⟨RX9, "now", "(I)I"⟩
abbrev cX9_goes : ByteArray := prog_1_method_8_code
def yX9_goes : MethodName := ⟨RX9, "goes", "(II)I"⟩
abbrev cX9_passes : ByteArray := prog_1_method_9_code
def yX9_passes : MethodName := ⟨RX9, "passes", "(I)I"⟩
abbrev cX9_excuses : ByteArray := prog_1_method_10_code
def yX9_excuses : MethodName := ⟨RX9, "excuses", "(II)I"⟩
abbrev cX9_swaps : ByteArray := prog_1_method_11_code
def yX9_swaps : MethodName := ⟨RX9, "swaps", "(II)I"⟩
abbrev cX9_undo : ByteArray := prog_1_method_12_code
def yX9_undo : MethodName := ⟨RX9, "undo", "()I"⟩
abbrev cX9_rings : ByteArray := prog_1_method_13_code
def yX9_rings : MethodName := ⟨RX9, "rings", "(I)I"⟩
abbrev cX9_chord : ByteArray := prog_1_method_14_code
def yX9_chord : MethodName := ⟨RX9, "chord", "(II)I"⟩
abbrev cX9_silence : ByteArray := prog_1_method_15_code
def yX9_silence : MethodName := ⟨RX9, "silence", "(I)I"⟩
abbrev cX9_least : ByteArray := prog_1_method_16_code
def yX9_least : MethodName := ⟨RX9, "least", "(II)I"⟩
abbrev cX9_hears : ByteArray := prog_1_method_17_code
def yX9_hears : MethodName := ⟨RX9, "hears", "(III)I"⟩
abbrev cX9_forget : ByteArray := prog_1_method_18_code
def yX9_forget : MethodName := ⟨RX9, "forget", "()I"⟩
abbrev cX9_can : ByteArray := prog_1_method_19_code
def yX9_can : MethodName := ⟨RX9, "can", "(I)I"⟩
abbrev cX9_tells : ByteArray := prog_1_method_20_code
def yX9_tells : MethodName := ⟨RX9, "tells", "(III)I"⟩
abbrev cX9_odds : ByteArray := prog_1_method_21_code
def yX9_odds : MethodName := ⟨RX9, "odds", "(IIII)I"⟩
abbrev cX9_rate : ByteArray := prog_1_method_22_code
def yX9_rate : MethodName := ⟨RX9, "rate", "(II)I"⟩
abbrev cX9_keep : ByteArray := prog_1_method_23_code
def yX9_keep : MethodName := ⟨RX9, "keep", "(I)I"⟩
abbrev cX9_back : ByteArray := prog_1_method_24_code
def yX9_back : MethodName := ⟨RX9, "back", "(I)I"⟩
abbrev cX9_count : ByteArray := prog_1_method_25_code
def yX9_count : MethodName := ⟨RX9, "count", "(I)I"⟩
abbrev cX9_trace : ByteArray := prog_1_method_26_code
def yX9_trace : MethodName := ⟨RX9, "trace", "()J"⟩
abbrev cX9_bit : ByteArray := prog_1_method_27_code
def yX9_bit : MethodName := ⟨RX9, "bit", "(II)I"⟩
abbrev cX9_isBit : ByteArray := prog_1_method_28_code
def yX9_isBit : MethodName := ⟨RX9, "isBit", "(I)Z"⟩
abbrev cX9_isMinute : ByteArray := prog_1_method_29_code
def yX9_isMinute : MethodName := ⟨RX9, "isMinute", "(I)Z"⟩
abbrev cX9_isImage : ByteArray := prog_1_method_30_code
def yX9_isImage : MethodName := ⟨RX9, "isImage", "(I)Z"⟩
abbrev cX9_power : ByteArray := prog_1_method_31_code
def yX9_power : MethodName := ⟨RX9, "power", "(II)I"⟩
abbrev cX9_greatestDivisor : ByteArray := prog_1_method_32_code
def yX9_greatestDivisor : MethodName := ⟨RX9, "greatestDivisor", "(II)I"⟩
def RX10 : String := "AbsentBellsModel"
def TX10 : u_T := fun k => match k with
  | 0 => ("AbsentBellsModel", "thrown", "I", false)
  | 1 => ("AbsentBellsModel", "trace", "J", false)
  | 2 => ("AbsentBellsModel", "text", "[I", true)
  | 3 => ("AbsentBellsModel", "typed", "I", false)
  | 4 => ("AbsentBellsModel", "next", "I", false)
  | 5 => ("AbsentBellsModel", "token", "I", false)
  | 6 => ("AbsentBellsModel", "place", "I", false)
  | 7 => ("AbsentBellsModel", "value", "I", false)
  | 8 => ("AbsentBellsModel", "fault", "I", false)
  | 9 => ("AbsentBellsModel", "many", "[I", true)
  | 10 => ("AbsentBellsModel", "told", "I", false)
  | 11 => ("AbsentBellsModel", "home", "[I", true)
  | 12 => ("AbsentBellsModel", "whose", "[I", true)
  | 13 => ("AbsentBellsModel", "where", "[I", true)
  | 14 => ("AbsentBellsModel", "from", "[I", true)
  | 15 => ("AbsentBellsModel", "lasting", "[I", true)
  | 16 => ("AbsentBellsModel", "s", "[I", true)
  | 17 => ("AbsentBellsModel", "kept", "[I", true)
  | 18 => ("AbsentBellsModel", "isKept", "[Z", true)
  | 19 => ("AbsentBellsModel", "undos", "[I", true)
  | 20 => ("AbsentBellsModel", "undoMany", "I", false)
  | 21 => ("AbsentBellsModel", "heardOf", "[I", true)
  | 22 => ("AbsentBellsModel", "heardAt", "[I", true)
  | 23 => ("AbsentBellsModel", "heardIs", "[I", true)
  | 24 => ("AbsentBellsModel", "heard", "I", false)
  | 25 => ("AbsentBellsModel", "without", "I", false)
  | _ => ("AbsentBellsModel", "cost", "[I", true)
def tyX10 : Nat → FieldType := fun k => match k with
  | 0 => .int
  | 1 => .long
  | 2 => .array .int
  | 3 => .int
  | 4 => .int
  | 5 => .int
  | 6 => .int
  | 7 => .int
  | 8 => .int
  | 9 => .array .int
  | 10 => .int
  | 11 => .array .int
  | 12 => .array .int
  | 13 => .array .int
  | 14 => .array .int
  | 15 => .array .int
  | 16 => .array .int
  | 17 => .array .int
  | 18 => .array .boolean
  | 19 => .array .int
  | 20 => .int
  | 21 => .array .int
  | 22 => .array .int
  | 23 => .array .int
  | 24 => .int
  | 25 => .int
  | _ => .array .int
abbrev wsX100 : List Cond := u_ws RX10 TX10 27
theorem nmX10 : ∀ a, a < 27 → ∀ b, b < 27 → a ≠ b → (TX10 a).2.1 ≠ (TX10 b).2.1 := by decide +kernel
theorem tyX10_ok : ∀ k, k < 27 → parseFieldDescriptor (TX10 k).2.2.1 = some (tyX10 k) := by decide +kernel
abbrev cX10_init : ByteArray := prog_12_method_1_code
def yX10_init : MethodName := ⟨RX10, "<init>", "()V"⟩
abbrev cX10_in : ByteArray := prog_12_method_3_code
def yX10_in : MethodName := ⟨RX10, "in", "(III)Z"⟩
abbrev cX10_ones : ByteArray := prog_12_method_4_code
def yX10_ones : MethodName := ⟨RX10, "ones", "(I)I"⟩
abbrev cX10_type : ByteArray := prog_12_method_5_code
def yX10_type : MethodName := ⟨RX10, "type", "(I)I"⟩
abbrev cX10_clear : ByteArray := prog_12_method_6_code
def yX10_clear : MethodName := ⟨RX10, "clear", "()I"⟩
abbrev cX10_letterAt : ByteArray := prog_12_method_7_code
def yX10_letterAt : MethodName := ⟨RX10, "letterAt", "(I)I"⟩
abbrev cX10_isLetter : ByteArray := prog_12_method_8_code
def yX10_isLetter : MethodName := ⟨RX10, "isLetter", "(I)Z"⟩
abbrev cX10_advances : ByteArray := prog_12_method_9_code
def yX10_advances : MethodName := ⟨RX10, "advances", "()V"⟩
abbrev cX10_isWell : ByteArray := prog_12_method_10_code
def yX10_isWell : MethodName := ⟨RX10, "isWell", "()Z"⟩
abbrev cX10_takes : ByteArray := prog_12_method_11_code
def yX10_takes : MethodName := ⟨RX10, "takes", "(Z)I"⟩
abbrev cX10_number : ByteArray := prog_12_method_12_code
def yX10_number : MethodName := ⟨RX10, "number", "(II)I"⟩
abbrev cX10_begins : ByteArray := prog_12_method_13_code
def yX10_begins : MethodName := ⟨RX10, "begins", "()V"⟩
abbrev cX10_mayBegin : ByteArray := prog_12_method_14_code
def yX10_mayBegin : MethodName := ⟨RX10, "mayBegin", "(I)Z"⟩
abbrev cX10_readsItem : ByteArray := prog_12_method_15_code
def yX10_readsItem : MethodName := ⟨RX10, "readsItem", "(I)V"⟩
abbrev cX10_town : ByteArray := prog_12_method_16_code
def yX10_town : MethodName := ⟨RX10, "town", "()I"⟩
abbrev cX10_settles : ByteArray := prog_12_method_17_code
def yX10_settles : MethodName := ⟨RX10, "settles", "()V"⟩
abbrev cX10_isPerson : ByteArray := prog_12_method_18_code
def yX10_isPerson : MethodName := ⟨RX10, "isPerson", "(I)Z"⟩
abbrev cX10_isDuty : ByteArray := prog_12_method_19_code
def yX10_isDuty : MethodName := ⟨RX10, "isDuty", "(I)Z"⟩
abbrev cX10_isPlace : ByteArray := prog_12_method_20_code
def yX10_isPlace : MethodName := ⟨RX10, "isPlace", "(I)Z"⟩
abbrev cX10_isRung : ByteArray := prog_12_method_21_code
def yX10_isRung : MethodName := ⟨RX10, "isRung", "(III)Z"⟩
abbrev cX10_placeIn : ByteArray := prog_12_method_22_code
def yX10_placeIn : MethodName := ⟨RX10, "placeIn", "(II)I"⟩
abbrev cX10_ringsIn : ByteArray := prog_12_method_23_code
def yX10_ringsIn : MethodName := ⟨RX10, "ringsIn", "(I)I"⟩
abbrev cX10_asNow : ByteArray := prog_12_method_24_code
def yX10_asNow : MethodName := ⟨RX10, "asNow", "()V"⟩
abbrev cX10_person : ByteArray := prog_12_method_25_code
def yX10_person : MethodName := ⟨RX10, "person", "(II)I"⟩
abbrev cX10_duty : ByteArray := prog_12_method_26_code
def yX10_duty : MethodName := ⟨RX10, "duty", "(II)I"⟩
abbrev cX10_worst : ByteArray := prog_12_method_27_code
def yX10_worst : MethodName := ⟨RX10, "worst", "()I"⟩
abbrev cX10_firstRung : ByteArray := prog_12_method_28_code
def yX10_firstRung : MethodName := ⟨RX10, "firstRung", "()I"⟩
abbrev cX10_now : ByteArray := prog_12_method_29_code
def yX10_now : MethodName := ⟨RX10, "now", "(I)I"⟩
abbrev cX10_notes : ByteArray := prog_12_method_30_code
def yX10_notes : MethodName := ⟨RX10, "notes", "()V"⟩
abbrev cX10_walk : ByteArray := prog_12_method_31_code
def yX10_walk : MethodName := ⟨RX10, "walk", "(II)I"⟩
abbrev cX10_goes : ByteArray := prog_12_method_32_code
def yX10_goes : MethodName := ⟨RX10, "goes", "(II)I"⟩
abbrev cX10_passes : ByteArray := prog_12_method_33_code
def yX10_passes : MethodName := ⟨RX10, "passes", "(I)I"⟩
abbrev cX10_excuses : ByteArray := prog_12_method_34_code
def yX10_excuses : MethodName := ⟨RX10, "excuses", "(II)I"⟩
abbrev cX10_swaps : ByteArray := prog_12_method_35_code
def yX10_swaps : MethodName := ⟨RX10, "swaps", "(II)I"⟩
abbrev cX10_undo : ByteArray := prog_12_method_36_code
def yX10_undo : MethodName := ⟨RX10, "undo", "()I"⟩
abbrev cX10_rings : ByteArray := prog_12_method_37_code
def yX10_rings : MethodName := ⟨RX10, "rings", "(I)I"⟩
abbrev cX10_isSet : ByteArray := prog_12_method_38_code
def yX10_isSet : MethodName := ⟨RX10, "isSet", "(I)Z"⟩
abbrev cX10_chord : ByteArray := prog_12_method_39_code
def yX10_chord : MethodName := ⟨RX10, "chord", "(II)I"⟩
abbrev cX10_isSilent : ByteArray := prog_12_method_40_code
def yX10_isSilent : MethodName := ⟨RX10, "isSilent", "(I)Z"⟩
abbrev cX10_silence : ByteArray := prog_12_method_41_code
def yX10_silence : MethodName := ⟨RX10, "silence", "(I)I"⟩
abbrev cX10_onWay : ByteArray := prog_12_method_42_code
def yX10_onWay : MethodName := ⟨RX10, "onWay", "(IIII)I"⟩
abbrev cX10_costBy : ByteArray := prog_12_method_43_code
def yX10_costBy : MethodName := ⟨RX10, "costBy", "(IIII)I"⟩
abbrev cX10_measures : ByteArray := prog_12_method_44_code
def yX10_measures : MethodName := ⟨RX10, "measures", "(I)V"⟩
abbrev cX10_least : ByteArray := prog_12_method_45_code
def yX10_least : MethodName := ⟨RX10, "least", "(II)I"⟩
abbrev cX10_hears : ByteArray := prog_12_method_46_code
def yX10_hears : MethodName := ⟨RX10, "hears", "(III)I"⟩
abbrev cX10_forget : ByteArray := prog_12_method_47_code
def yX10_forget : MethodName := ⟨RX10, "forget", "()I"⟩
abbrev cX10_can : ByteArray := prog_12_method_48_code
def yX10_can : MethodName := ⟨RX10, "can", "(I)I"⟩
abbrev cX10_tells : ByteArray := prog_12_method_49_code
def yX10_tells : MethodName := ⟨RX10, "tells", "(III)I"⟩
abbrev cX10_gcd : ByteArray := prog_12_method_50_code
def yX10_gcd : MethodName := ⟨RX10, "gcd", "(II)I"⟩
abbrev cX10_odds : ByteArray := prog_12_method_51_code
def yX10_odds : MethodName := ⟨RX10, "odds", "(IIII)I"⟩
abbrev cX10_rate : ByteArray := prog_12_method_52_code
def yX10_rate : MethodName := ⟨RX10, "rate", "(II)I"⟩
abbrev cX10_keep : ByteArray := prog_12_method_53_code
def yX10_keep : MethodName := ⟨RX10, "keep", "(I)I"⟩
abbrev cX10_back : ByteArray := prog_12_method_54_code
def yX10_back : MethodName := ⟨RX10, "back", "(I)I"⟩
abbrev cX10_count : ByteArray := prog_12_method_55_code
def yX10_count : MethodName := ⟨RX10, "count", "(I)I"⟩
abbrev cX10_trace : ByteArray := prog_12_method_56_code
def yX10_trace : MethodName := ⟨RX10, "trace", "()J"⟩
def RJ6 : String := "java/lang/Integer"
def TJ6 : u_T := fun k => match k with
  | _ => ("", "", "", false)
def tyJ6 : Nat → FieldType := fun k => match k with
  | _ => .int
abbrev wsJ60 : List Cond := u_ws RJ6 TJ6 0
theorem nmJ6 : ∀ a, a < 0 → ∀ b, b < 0 → a ≠ b → (TJ6 a).2.1 ≠ (TJ6 b).2.1 := by decide +kernel
theorem tyJ6_ok : ∀ k, k < 0 → parseFieldDescriptor (TJ6 k).2.2.1 = some (tyJ6 k) := by decide +kernel
abbrev cJ6_bitCount_0f7a4 : ByteArray := prog_13_method_49_code
def yJ6_bitCount_0f7a4 : MethodName := ⟨RJ6, "bitCount", "(I)I"⟩
def RJ9 : String := "java/lang/Math"
def TJ9 : u_T := fun k => match k with
  | _ => ("", "", "", false)
def tyJ9 : Nat → FieldType := fun k => match k with
  | _ => .int
abbrev wsJ90 : List Cond := u_ws RJ9 TJ9 0
theorem nmJ9 : ∀ a, a < 0 → ∀ b, b < 0 → a ≠ b → (TJ9 a).2.1 ≠ (TJ9 b).2.1 := by decide +kernel
theorem tyJ9_ok : ∀ k, k < 0 → parseFieldDescriptor (TJ9 k).2.2.1 = some (tyJ9 k) := by decide +kernel
abbrev cJ9_abs_0f7a4 : ByteArray := prog_14_method_59_code
def yJ9_abs_0f7a4 : MethodName := ⟨RJ9, "abs", "(I)I"⟩
abbrev cJ9_max_7cf53 : ByteArray := prog_14_method_65_code
def yJ9_max_7cf53 : MethodName := ⟨RJ9, "max", "(II)I"⟩
abbrev cJ9_min_7cf53 : ByteArray := prog_14_method_69_code
def yJ9_min_7cf53 : MethodName := ⟨RJ9, "min", "(II)I"⟩
def RJ10 : String := "java/lang/System"
def TJ10 : u_T := fun k => match k with
  | _ => ("", "", "", false)
def tyJ10 : Nat → FieldType := fun k => match k with
  | _ => .int
abbrev wsJ100 : List Cond := u_ws RJ10 TJ10 0
theorem nmJ10 : ∀ a, a < 0 → ∀ b, b < 0 → a ≠ b → (TJ10 a).2.1 ≠ (TJ10 b).2.1 := by decide +kernel
theorem tyJ10_ok : ∀ k, k < 0 → parseFieldDescriptor (TJ10 k).2.2.1 = some (tyJ10 k) := by decide +kernel
def RL : String := "AbsentBellsLaw"
abbrev cL_law : ByteArray := code
def yL_law : MethodName := ⟨RL, "law", "([I)Z"⟩
abbrev vwCl : List vw_C := [(RX0, TX0, 2), (RX1, TX1, 4), (RX2, TX2, 3), (RX3, TX3, 6), (RX4, TX4, 10), (RX5, TX5, 1), (RX6, TX6, 10), (RX7, TX7, 2), (RX8, TX8, 3), (RX9, TX9, 9), (RX10, TX10, 27)]
/-! the words that every contract stands on: the good ones of the tables -/
def gAll : List Cond := lw_tbl.filter goodWord
theorem gAll_of {w : Cond} (i : Nat) (h : lw_tbl[i]? = some w) (hg : goodWord w = true) : w ∈ gAll := List.mem_filter.mpr ⟨List.mem_of_getElem? h, hg⟩
theorem gAll_good {w : Cond} (h : w ∈ gAll) : goodWord w = true := (List.mem_filter.mp h).2
theorem gAll_in {w : Cond} (h : w ∈ gAll) : w ∈ lw_tbl := (List.mem_filter.mp h).1
theorem gGood {ws : List Cond} (h : ∀ w ∈ ws, w ∈ gAll) : GoodIn gAll ws := fun w hw => ⟨h w hw, good_of_word (gAll_good (h w hw))⟩
theorem gAll_ws {ws : List Cond} (ps : List Nat) (hp : ws = ps.filterMap (fun i => lw_tbl[i]?)) (hg : ws.all goodWord = true) : ∀ w ∈ ws, w ∈ gAll := by
  intro w hw
  have h1 := List.all_eq_true.mp hg w hw
  rw [hp] at hw
  obtain ⟨i, -, hi⟩ := List.mem_filterMap.mp hw
  exact gAll_of i hi h1
/-- a virtual call's words -/
def gVok (own : String) (idx : Nat) (C : String) (y : MethodName) (cy : ByteArray) (ny : Nat) (ret : Option FieldType) (n : Nat) : Prop :=
  GoodIn gAll (wsV own idx C y (.code y cy ny ret :: gAll)) ∧ (y.cls = C ∧ y.cls ≠ "java/lang/invoke/MethodHandle" ∧ y.cls ≠ "java/lang/invoke/VarHandle" ∧ (parseMethodDescriptor y.desc).map (fun d => d.parameters.length) = some n)
/-- a static call's words -/
def gSok (own : String) (idx : Nat) (y : MethodName) (cy : ByteArray) (ny : Nat) (ret : Option FieldType) (n : Nat) : Prop :=
  GoodIn gAll (.code y cy ny ret :: gAll) ∧ (Cond.methodLink own idx y ∈ gAll ∧ Cond.static y ∈ gAll ∧ Cond.initialized y.cls ∈ gAll) ∧ (y.cls ≠ "java/lang/invoke/MethodHandle" ∧ y.cls ≠ "java/lang/invoke/VarHandle" ∧ (parseMethodDescriptor y.desc).map (fun d => d.parameters.length) = some n)
/-- a nest mate's static call: its link is no good word -/
def gNok (y : MethodName) (cy : ByteArray) (ny : Nat) (ret : Option FieldType) (n : Nat) : Prop :=
  GoodIn gAll (.code y cy ny ret :: gAll) ∧ (Cond.static y ∈ gAll ∧ Cond.initialized y.cls ∈ gAll) ∧ (y.cls ≠ "java/lang/invoke/MethodHandle" ∧ y.cls ≠ "java/lang/invoke/VarHandle" ∧ (parseMethodDescriptor y.desc).map (fun d => d.parameters.length) = some n)
theorem gVok_of {own : String} {idx : Nat} {C : String} {y : MethodName} {cy : ByteArray} {ny : Nat} {ret : Option FieldType} {n : Nat} (h1 : Cond.methodLink own idx y ∈ gAll) (h2 : Cond.instanceMethod y ∈ gAll) (h3 : Cond.selects C y y ∈ gAll) (h4 : Cond.initialized C ∈ gAll) (h5 : Cond.code y cy ny ret ∈ gAll)
    (hd : y.cls = C ∧ y.cls ≠ "java/lang/invoke/MethodHandle" ∧ y.cls ≠ "java/lang/invoke/VarHandle" ∧ (parseMethodDescriptor y.desc).map (fun d => d.parameters.length) = some n) : gVok own idx C y cy ny ret n := by
  refine ⟨gGood fun w hw => ?_, hd⟩
  unfold wsV at hw
  rcases List.mem_append.mp hw with h | h
  · simp only [List.mem_cons, List.not_mem_nil, or_false] at h
    rcases h with rfl | rfl | rfl | rfl
    · exact h1
    · exact h2
    · exact h3
    · exact h4
  · rcases List.mem_cons.mp h with rfl | h
    · exact h5
    · exact h
theorem gSok_of {own : String} {idx : Nat} {y : MethodName} {cy : ByteArray} {ny : Nat} {ret : Option FieldType} {n : Nat} (h1 : Cond.methodLink own idx y ∈ gAll) (h2 : Cond.static y ∈ gAll) (h4 : Cond.initialized y.cls ∈ gAll) (h5 : Cond.code y cy ny ret ∈ gAll)
    (hd : y.cls ≠ "java/lang/invoke/MethodHandle" ∧ y.cls ≠ "java/lang/invoke/VarHandle" ∧ (parseMethodDescriptor y.desc).map (fun d => d.parameters.length) = some n) : gSok own idx y cy ny ret n :=
  ⟨gGood fun w hw => (List.mem_cons.mp hw).elim (fun e => e ▸ h5) id, ⟨h1, h2, h4⟩, hd⟩
theorem gNok_of {y : MethodName} {cy : ByteArray} {ny : Nat} {ret : Option FieldType} {n : Nat} (h2 : Cond.static y ∈ gAll) (h4 : Cond.initialized y.cls ∈ gAll) (h5 : Cond.code y cy ny ret ∈ gAll)
    (hd : y.cls ≠ "java/lang/invoke/MethodHandle" ∧ y.cls ≠ "java/lang/invoke/VarHandle" ∧ (parseMethodDescriptor y.desc).map (fun d => d.parameters.length) = some n) : gNok y cy ny ret n :=
  ⟨gGood fun w hw => (List.mem_cons.mp hw).elim (fun e => e ▸ h5) id, ⟨h2, h4⟩, hd⟩
set_option maxRecDepth 20000 in
theorem kin_X0 : ∀ w ∈ wsX00, w ∈ gAll := gAll_ws [247, 249] (by decide +kernel) (by decide +kernel)
set_option maxRecDepth 20000 in
theorem kin_X1 : ∀ w ∈ wsX10, w ∈ gAll := gAll_ws [283, 285, 287, 289] (by decide +kernel) (by decide +kernel)
set_option maxRecDepth 20000 in
theorem kin_X2 : ∀ w ∈ wsX20, w ∈ gAll := gAll_ws [265, 267, 269] (by decide +kernel) (by decide +kernel)
set_option maxRecDepth 20000 in
theorem kin_X3 : ∀ w ∈ wsX30, w ∈ gAll := gAll_ws [223, 225, 227, 229, 231, 233] (by decide +kernel) (by decide +kernel)
set_option maxRecDepth 20000 in
theorem kin_X4 : ∀ w ∈ wsX40, w ∈ gAll := gAll_ws [128, 130, 132, 134, 136, 138, 140, 142, 144, 146] (by decide +kernel) (by decide +kernel)
set_option maxRecDepth 20000 in
theorem kin_X5 : ∀ w ∈ wsX50, w ∈ gAll := gAll_ws [329] (by decide +kernel) (by decide +kernel)
set_option maxRecDepth 20000 in
theorem kin_X6 : ∀ w ∈ wsX60, w ∈ gAll := gAll_ws [163, 165, 167, 169, 171, 173, 175, 177, 179, 181] (by decide +kernel) (by decide +kernel)
set_option maxRecDepth 20000 in
theorem kin_X7 : ∀ w ∈ wsX70, w ∈ gAll := gAll_ws [316, 318] (by decide +kernel) (by decide +kernel)
set_option maxRecDepth 20000 in
theorem kin_X8 : ∀ w ∈ wsX80, w ∈ gAll := gAll_ws [301, 303, 305] (by decide +kernel) (by decide +kernel)
set_option maxRecDepth 20000 in
theorem kin_X9 : ∀ w ∈ wsX90, w ∈ gAll := gAll_ws [343, 345, 347, 349, 351, 353, 355, 357, 359] (by decide +kernel) (by decide +kernel)
set_option maxRecDepth 20000 in
theorem kin_X10 : ∀ w ∈ wsX100, w ∈ gAll := gAll_ws [831, 833, 835, 837, 839, 841, 843, 845, 847, 849, 851, 853, 855, 857, 859, 861, 863, 865, 867, 869, 871, 873, 875, 877, 879, 881, 883] (by decide +kernel) (by decide +kernel)
theorem kini_L : Cond.initialized RL ∈ gAll := gAll_of 50 (by decide +kernel) (by decide +kernel)
theorem kini_X9 : Cond.initialized RX9 ∈ gAll := gAll_of 51 (by decide +kernel) (by decide +kernel)
theorem kini_X6 : Cond.initialized RX6 ∈ gAll := gAll_of 52 (by decide +kernel) (by decide +kernel)
theorem kini_X4 : Cond.initialized RX4 ∈ gAll := gAll_of 53 (by decide +kernel) (by decide +kernel)
theorem kini_X0 : Cond.initialized RX0 ∈ gAll := gAll_of 54 (by decide +kernel) (by decide +kernel)
theorem kini_X3 : Cond.initialized RX3 ∈ gAll := gAll_of 55 (by decide +kernel) (by decide +kernel)
theorem kini_X2 : Cond.initialized RX2 ∈ gAll := gAll_of 56 (by decide +kernel) (by decide +kernel)
theorem kini_X1 : Cond.initialized RX1 ∈ gAll := gAll_of 57 (by decide +kernel) (by decide +kernel)
theorem kini_X8 : Cond.initialized RX8 ∈ gAll := gAll_of 58 (by decide +kernel) (by decide +kernel)
theorem kini_X7 : Cond.initialized RX7 ∈ gAll := gAll_of 59 (by decide +kernel) (by decide +kernel)
theorem kini_X5 : Cond.initialized RX5 ∈ gAll := gAll_of 60 (by decide +kernel) (by decide +kernel)
theorem kini_X10 : Cond.initialized RX10 ∈ gAll := gAll_of 61 (by decide +kernel) (by decide +kernel)
theorem kini_J9 : Cond.initialized RJ9 ∈ gAll := gAll_of 62 (by decide +kernel) (by decide +kernel)
theorem kini_J10 : Cond.initialized RJ10 ∈ gAll := gAll_of 63 (by decide +kernel) (by decide +kernel)
theorem kini_J6 : Cond.initialized RJ6 ∈ gAll := gAll_of 64 (by decide +kernel) (by decide +kernel)
theorem kcl_L_7 : Cond.classLink RL 7 RX9 ∈ gAll := gAll_of 65 (by decide +kernel) (by decide +kernel)
theorem kins_X9 : Cond.instantiable RX9 9 ∈ gAll := gAll_of 66 (by decide +kernel) (by decide +kernel)
theorem kcl_X9_7 : Cond.classLink RX9 7 RX6 ∈ gAll := gAll_of 73 (by decide +kernel) (by decide +kernel)
theorem kins_X6 : Cond.instantiable RX6 10 ∈ gAll := gAll_of 74 (by decide +kernel) (by decide +kernel)
theorem kcl_X6_15 : Cond.classLink RX6 15 RX4 ∈ gAll := gAll_of 79 (by decide +kernel) (by decide +kernel)
theorem kins_X4 : Cond.instantiable RX4 10 ∈ gAll := gAll_of 80 (by decide +kernel) (by decide +kernel)
theorem kf_X4_9 : Cond.fieldLink RX4 9 "AbsentBells$Plan" "places" "I" ∈ gAll := gAll_of 85 (by decide +kernel) (by decide +kernel)
theorem kf_X8_41 : Cond.fieldLink RX8 41 "AbsentBells$Plan" "places" "I" ∈ gAll := gAll_of 86 (by decide +kernel) (by decide +kernel)
theorem kf_X1_31 : Cond.fieldLink RX1 31 "AbsentBells$Plan" "places" "I" ∈ gAll := gAll_of 87 (by decide +kernel) (by decide +kernel)
theorem kf_X6_81 : Cond.fieldLink RX6 81 "AbsentBells$Plan" "places" "I" ∈ gAll := gAll_of 88 (by decide +kernel) (by decide +kernel)
theorem kf_X9_254 : Cond.fieldLink RX9 254 "AbsentBells$Plan" "places" "I" ∈ gAll := gAll_of 89 (by decide +kernel) (by decide +kernel)
theorem kf_X4_37 : Cond.fieldLink RX4 37 "AbsentBells$Plan" "people" "I" ∈ gAll := gAll_of 90 (by decide +kernel) (by decide +kernel)
theorem kf_X7_39 : Cond.fieldLink RX7 39 "AbsentBells$Plan" "people" "I" ∈ gAll := gAll_of 91 (by decide +kernel) (by decide +kernel)
theorem kf_X6_84 : Cond.fieldLink RX6 84 "AbsentBells$Plan" "people" "I" ∈ gAll := gAll_of 92 (by decide +kernel) (by decide +kernel)
theorem kf_X0_92 : Cond.fieldLink RX0 92 "AbsentBells$Plan" "people" "I" ∈ gAll := gAll_of 93 (by decide +kernel) (by decide +kernel)
theorem kf_X9_257 : Cond.fieldLink RX9 257 "AbsentBells$Plan" "people" "I" ∈ gAll := gAll_of 94 (by decide +kernel) (by decide +kernel)
theorem kf_X4_40 : Cond.fieldLink RX4 40 "AbsentBells$Plan" "duties" "I" ∈ gAll := gAll_of 95 (by decide +kernel) (by decide +kernel)
theorem kf_X0_55 : Cond.fieldLink RX0 55 "AbsentBells$Plan" "duties" "I" ∈ gAll := gAll_of 96 (by decide +kernel) (by decide +kernel)
theorem kf_X6_90 : Cond.fieldLink RX6 90 "AbsentBells$Plan" "duties" "I" ∈ gAll := gAll_of 97 (by decide +kernel) (by decide +kernel)
theorem kf_X9_260 : Cond.fieldLink RX9 260 "AbsentBells$Plan" "duties" "I" ∈ gAll := gAll_of 98 (by decide +kernel) (by decide +kernel)
theorem kf_X4_15 : Cond.fieldLink RX4 15 "AbsentBells$Plan" "walk" "I" ∈ gAll := gAll_of 99 (by decide +kernel) (by decide +kernel)
theorem kf_X6_105 : Cond.fieldLink RX6 105 "AbsentBells$Plan" "walk" "I" ∈ gAll := gAll_of 100 (by decide +kernel) (by decide +kernel)
theorem kf_X9_263 : Cond.fieldLink RX9 263 "AbsentBells$Plan" "walk" "I" ∈ gAll := gAll_of 101 (by decide +kernel) (by decide +kernel)
theorem kf_X4_18 : Cond.fieldLink RX4 18 "AbsentBells$Plan" "free" "I" ∈ gAll := gAll_of 102 (by decide +kernel) (by decide +kernel)
theorem kf_X0_44 : Cond.fieldLink RX0 44 "AbsentBells$Plan" "free" "I" ∈ gAll := gAll_of 103 (by decide +kernel) (by decide +kernel)
theorem kf_X6_108 : Cond.fieldLink RX6 108 "AbsentBells$Plan" "free" "I" ∈ gAll := gAll_of 104 (by decide +kernel) (by decide +kernel)
theorem kf_X9_266 : Cond.fieldLink RX9 266 "AbsentBells$Plan" "free" "I" ∈ gAll := gAll_of 105 (by decide +kernel) (by decide +kernel)
theorem kf_X4_21 : Cond.fieldLink RX4 21 "AbsentBells$Plan" "home" "[I" ∈ gAll := gAll_of 106 (by decide +kernel) (by decide +kernel)
theorem kf_X3_31 : Cond.fieldLink RX3 31 "AbsentBells$Plan" "home" "[I" ∈ gAll := gAll_of 107 (by decide +kernel) (by decide +kernel)
theorem kf_X9_138 : Cond.fieldLink RX9 138 "AbsentBells$Plan" "home" "[I" ∈ gAll := gAll_of 108 (by decide +kernel) (by decide +kernel)
theorem kf_X6_87 : Cond.fieldLink RX6 87 "AbsentBells$Plan" "home" "[I" ∈ gAll := gAll_of 109 (by decide +kernel) (by decide +kernel)
theorem kf_X0_109 : Cond.fieldLink RX0 109 "AbsentBells$Plan" "home" "[I" ∈ gAll := gAll_of 110 (by decide +kernel) (by decide +kernel)
theorem kf_X4_25 : Cond.fieldLink RX4 25 "AbsentBells$Plan" "teller" "[I" ∈ gAll := gAll_of 111 (by decide +kernel) (by decide +kernel)
theorem kf_X3_36 : Cond.fieldLink RX3 36 "AbsentBells$Plan" "teller" "[I" ∈ gAll := gAll_of 112 (by decide +kernel) (by decide +kernel)
theorem kf_X6_93 : Cond.fieldLink RX6 93 "AbsentBells$Plan" "teller" "[I" ∈ gAll := gAll_of 113 (by decide +kernel) (by decide +kernel)
theorem kf_X4_28 : Cond.fieldLink RX4 28 "AbsentBells$Plan" "place" "[I" ∈ gAll := gAll_of 114 (by decide +kernel) (by decide +kernel)
theorem kf_X5_46 : Cond.fieldLink RX5 46 "AbsentBells$Plan" "place" "[I" ∈ gAll := gAll_of 115 (by decide +kernel) (by decide +kernel)
theorem kf_X0_65 : Cond.fieldLink RX0 65 "AbsentBells$Plan" "place" "[I" ∈ gAll := gAll_of 116 (by decide +kernel) (by decide +kernel)
theorem kf_X9_147 : Cond.fieldLink RX9 147 "AbsentBells$Plan" "place" "[I" ∈ gAll := gAll_of 117 (by decide +kernel) (by decide +kernel)
theorem kf_X6_96 : Cond.fieldLink RX6 96 "AbsentBells$Plan" "place" "[I" ∈ gAll := gAll_of 118 (by decide +kernel) (by decide +kernel)
theorem kf_X4_31 : Cond.fieldLink RX4 31 "AbsentBells$Plan" "from" "[I" ∈ gAll := gAll_of 119 (by decide +kernel) (by decide +kernel)
theorem kf_X0_40 : Cond.fieldLink RX0 40 "AbsentBells$Plan" "from" "[I" ∈ gAll := gAll_of 120 (by decide +kernel) (by decide +kernel)
theorem kf_X9_148 : Cond.fieldLink RX9 148 "AbsentBells$Plan" "from" "[I" ∈ gAll := gAll_of 121 (by decide +kernel) (by decide +kernel)
theorem kf_X6_99 : Cond.fieldLink RX6 99 "AbsentBells$Plan" "from" "[I" ∈ gAll := gAll_of 122 (by decide +kernel) (by decide +kernel)
theorem kf_X4_34 : Cond.fieldLink RX4 34 "AbsentBells$Plan" "lasts" "[I" ∈ gAll := gAll_of 123 (by decide +kernel) (by decide +kernel)
theorem kf_X5_38 : Cond.fieldLink RX5 38 "AbsentBells$Plan" "lasts" "[I" ∈ gAll := gAll_of 124 (by decide +kernel) (by decide +kernel)
theorem kf_X0_47 : Cond.fieldLink RX0 47 "AbsentBells$Plan" "lasts" "[I" ∈ gAll := gAll_of 125 (by decide +kernel) (by decide +kernel)
theorem kf_X9_151 : Cond.fieldLink RX9 151 "AbsentBells$Plan" "lasts" "[I" ∈ gAll := gAll_of 126 (by decide +kernel) (by decide +kernel)
theorem kf_X6_102 : Cond.fieldLink RX6 102 "AbsentBells$Plan" "lasts" "[I" ∈ gAll := gAll_of 127 (by decide +kernel) (by decide +kernel)
theorem kac_int : Cond.arrayClass .int ∈ gAll := gAll_of 149 (by decide +kernel) (by decide +kernel)
theorem kf_X6_9 : Cond.fieldLink RX6 9 "AbsentBells$Reader" "letters" "[I" ∈ gAll := gAll_of 150 (by decide +kernel) (by decide +kernel)
theorem kf_X6_26 : Cond.fieldLink RX6 26 "AbsentBells$Reader" "length" "I" ∈ gAll := gAll_of 151 (by decide +kernel) (by decide +kernel)
theorem kf_X9_73 : Cond.fieldLink RX9 73 "AbsentBells$Reader" "length" "I" ∈ gAll := gAll_of 152 (by decide +kernel) (by decide +kernel)
theorem kf_X6_18 : Cond.fieldLink RX6 18 "AbsentBells$Reader" "draft" "LAbsentBells$Plan;" ∈ gAll := gAll_of 153 (by decide +kernel) (by decide +kernel)
theorem kf_X9_91 : Cond.fieldLink RX9 91 "AbsentBells$Reader" "draft" "LAbsentBells$Plan;" ∈ gAll := gAll_of 154 (by decide +kernel) (by decide +kernel)
theorem kf_X6_22 : Cond.fieldLink RX6 22 "AbsentBells$Reader" "fault" "I" ∈ gAll := gAll_of 155 (by decide +kernel) (by decide +kernel)
theorem kf_X9_88 : Cond.fieldLink RX9 88 "AbsentBells$Reader" "fault" "I" ∈ gAll := gAll_of 156 (by decide +kernel) (by decide +kernel)
theorem kf_X6_45 : Cond.fieldLink RX6 45 "AbsentBells$Reader" "token" "I" ∈ gAll := gAll_of 157 (by decide +kernel) (by decide +kernel)
theorem kf_X6_114 : Cond.fieldLink RX6 114 "AbsentBells$Reader" "start" "I" ∈ gAll := gAll_of 158 (by decide +kernel) (by decide +kernel)
theorem kf_X6_111 : Cond.fieldLink RX6 111 "AbsentBells$Reader" "number" "I" ∈ gAll := gAll_of 159 (by decide +kernel) (by decide +kernel)
theorem kf_X6_39 : Cond.fieldLink RX6 39 "AbsentBells$Reader" "ahead" "I" ∈ gAll := gAll_of 160 (by decide +kernel) (by decide +kernel)
theorem kf_X6_32 : Cond.fieldLink RX6 32 "AbsentBells$Reader" "walkTold" "Z" ∈ gAll := gAll_of 161 (by decide +kernel) (by decide +kernel)
theorem kf_X6_36 : Cond.fieldLink RX6 36 "AbsentBells$Reader" "freeTold" "Z" ∈ gAll := gAll_of 162 (by decide +kernel) (by decide +kernel)
theorem kcl_X9_16 : Cond.classLink RX9 16 RX0 ∈ gAll := gAll_of 184 (by decide +kernel) (by decide +kernel)
theorem kins_X0 : Cond.instantiable RX0 2 ∈ gAll := gAll_of 185 (by decide +kernel) (by decide +kernel)
theorem kcl_X0_9 : Cond.classLink RX0 9 RX4 ∈ gAll := gAll_of 190 (by decide +kernel) (by decide +kernel)
theorem kcl_X0_18 : Cond.classLink RX0 18 RX3 ∈ gAll := gAll_of 192 (by decide +kernel) (by decide +kernel)
theorem kins_X3 : Cond.instantiable RX3 6 ∈ gAll := gAll_of 193 (by decide +kernel) (by decide +kernel)
theorem kf_X3_24 : Cond.fieldLink RX3 24 "AbsentBells$Moment" "minute" "I" ∈ gAll := gAll_of 198 (by decide +kernel) (by decide +kernel)
theorem kf_X8_27 : Cond.fieldLink RX8 27 "AbsentBells$Moment" "minute" "I" ∈ gAll := gAll_of 199 (by decide +kernel) (by decide +kernel)
theorem kf_X7_59 : Cond.fieldLink RX7 59 "AbsentBells$Moment" "minute" "I" ∈ gAll := gAll_of 200 (by decide +kernel) (by decide +kernel)
theorem kf_X9_127 : Cond.fieldLink RX9 127 "AbsentBells$Moment" "minute" "I" ∈ gAll := gAll_of 201 (by decide +kernel) (by decide +kernel)
theorem kf_X0_76 : Cond.fieldLink RX0 76 "AbsentBells$Moment" "minute" "I" ∈ gAll := gAll_of 202 (by decide +kernel) (by decide +kernel)
theorem kf_X3_28 : Cond.fieldLink RX3 28 "AbsentBells$Moment" "excused" "I" ∈ gAll := gAll_of 203 (by decide +kernel) (by decide +kernel)
theorem kf_X0_32 : Cond.fieldLink RX0 32 "AbsentBells$Moment" "excused" "I" ∈ gAll := gAll_of 204 (by decide +kernel) (by decide +kernel)
theorem kf_X5_55 : Cond.fieldLink RX5 55 "AbsentBells$Moment" "excused" "I" ∈ gAll := gAll_of 205 (by decide +kernel) (by decide +kernel)
theorem kf_X9_154 : Cond.fieldLink RX9 154 "AbsentBells$Moment" "excused" "I" ∈ gAll := gAll_of 206 (by decide +kernel) (by decide +kernel)
theorem kf_X3_9 : Cond.fieldLink RX3 9 "AbsentBells$Moment" "place" "[I" ∈ gAll := gAll_of 207 (by decide +kernel) (by decide +kernel)
theorem kf_X9_121 : Cond.fieldLink RX9 121 "AbsentBells$Moment" "place" "[I" ∈ gAll := gAll_of 208 (by decide +kernel) (by decide +kernel)
theorem kf_X8_69 : Cond.fieldLink RX8 69 "AbsentBells$Moment" "place" "[I" ∈ gAll := gAll_of 209 (by decide +kernel) (by decide +kernel)
theorem kf_X0_75 : Cond.fieldLink RX0 75 "AbsentBells$Moment" "place" "[I" ∈ gAll := gAll_of 210 (by decide +kernel) (by decide +kernel)
theorem kf_X3_15 : Cond.fieldLink RX3 15 "AbsentBells$Moment" "toGo" "[I" ∈ gAll := gAll_of 211 (by decide +kernel) (by decide +kernel)
theorem kf_X9_117 : Cond.fieldLink RX9 117 "AbsentBells$Moment" "toGo" "[I" ∈ gAll := gAll_of 212 (by decide +kernel) (by decide +kernel)
theorem kf_X8_66 : Cond.fieldLink RX8 66 "AbsentBells$Moment" "toGo" "[I" ∈ gAll := gAll_of 213 (by decide +kernel) (by decide +kernel)
theorem kf_X0_79 : Cond.fieldLink RX0 79 "AbsentBells$Moment" "toGo" "[I" ∈ gAll := gAll_of 214 (by decide +kernel) (by decide +kernel)
theorem kf_X3_18 : Cond.fieldLink RX3 18 "AbsentBells$Moment" "tolled" "[I" ∈ gAll := gAll_of 215 (by decide +kernel) (by decide +kernel)
theorem kf_X9_124 : Cond.fieldLink RX9 124 "AbsentBells$Moment" "tolled" "[I" ∈ gAll := gAll_of 216 (by decide +kernel) (by decide +kernel)
theorem kf_X5_73 : Cond.fieldLink RX5 73 "AbsentBells$Moment" "tolled" "[I" ∈ gAll := gAll_of 217 (by decide +kernel) (by decide +kernel)
theorem kf_X0_95 : Cond.fieldLink RX0 95 "AbsentBells$Moment" "tolled" "[I" ∈ gAll := gAll_of 218 (by decide +kernel) (by decide +kernel)
theorem kf_X3_21 : Cond.fieldLink RX3 21 "AbsentBells$Moment" "owner" "[I" ∈ gAll := gAll_of 219 (by decide +kernel) (by decide +kernel)
theorem kf_X0_58 : Cond.fieldLink RX0 58 "AbsentBells$Moment" "owner" "[I" ∈ gAll := gAll_of 220 (by decide +kernel) (by decide +kernel)
theorem kf_X9_144 : Cond.fieldLink RX9 144 "AbsentBells$Moment" "owner" "[I" ∈ gAll := gAll_of 221 (by decide +kernel) (by decide +kernel)
theorem kf_X5_76 : Cond.fieldLink RX5 76 "AbsentBells$Moment" "owner" "[I" ∈ gAll := gAll_of 222 (by decide +kernel) (by decide +kernel)
theorem kf_X0_12 : Cond.fieldLink RX0 12 "AbsentBells$Day" "plan" "LAbsentBells$Plan;" ∈ gAll := gAll_of 236 (by decide +kernel) (by decide +kernel)
theorem kf_X8_37 : Cond.fieldLink RX8 37 "AbsentBells$Day" "plan" "LAbsentBells$Plan;" ∈ gAll := gAll_of 237 (by decide +kernel) (by decide +kernel)
theorem kf_X7_33 : Cond.fieldLink RX7 33 "AbsentBells$Day" "plan" "LAbsentBells$Plan;" ∈ gAll := gAll_of 238 (by decide +kernel) (by decide +kernel)
theorem kf_X5_32 : Cond.fieldLink RX5 32 "AbsentBells$Day" "plan" "LAbsentBells$Plan;" ∈ gAll := gAll_of 239 (by decide +kernel) (by decide +kernel)
theorem kf_X1_25 : Cond.fieldLink RX1 25 "AbsentBells$Day" "plan" "LAbsentBells$Plan;" ∈ gAll := gAll_of 240 (by decide +kernel) (by decide +kernel)
theorem kf_X9_105 : Cond.fieldLink RX9 105 "AbsentBells$Day" "plan" "LAbsentBells$Plan;" ∈ gAll := gAll_of 241 (by decide +kernel) (by decide +kernel)
theorem kf_X0_21 : Cond.fieldLink RX0 21 "AbsentBells$Day" "moment" "LAbsentBells$Moment;" ∈ gAll := gAll_of 242 (by decide +kernel) (by decide +kernel)
theorem kf_X8_21 : Cond.fieldLink RX8 21 "AbsentBells$Day" "moment" "LAbsentBells$Moment;" ∈ gAll := gAll_of 243 (by decide +kernel) (by decide +kernel)
theorem kf_X7_55 : Cond.fieldLink RX7 55 "AbsentBells$Day" "moment" "LAbsentBells$Moment;" ∈ gAll := gAll_of 244 (by decide +kernel) (by decide +kernel)
theorem kf_X9_113 : Cond.fieldLink RX9 113 "AbsentBells$Day" "moment" "LAbsentBells$Moment;" ∈ gAll := gAll_of 245 (by decide +kernel) (by decide +kernel)
theorem kf_X5_51 : Cond.fieldLink RX5 51 "AbsentBells$Day" "moment" "LAbsentBells$Moment;" ∈ gAll := gAll_of 246 (by decide +kernel) (by decide +kernel)
theorem kcl_X9_23 : Cond.classLink RX9 23 RX2 ∈ gAll := gAll_of 252 (by decide +kernel) (by decide +kernel)
theorem kins_X2 : Cond.instantiable RX2 3 ∈ gAll := gAll_of 253 (by decide +kernel) (by decide +kernel)
theorem kcl_X2_9 : Cond.classLink RX2 9 RX3 ∈ gAll := gAll_of 258 (by decide +kernel) (by decide +kernel)
theorem kao : Cond.arrayOver (.object "AbsentBells$Moment") ∈ lw_tbl := List.mem_of_getElem? (i := 259) (by decide +kernel)
theorem kf_X2_11 : Cond.fieldLink RX2 11 "AbsentBells$History" "past" "[LAbsentBells$Moment;" ∈ gAll := gAll_of 261 (by decide +kernel) (by decide +kernel)
theorem kf_X2_26 : Cond.fieldLink RX2 26 "AbsentBells$History" "known" "I" ∈ gAll := gAll_of 262 (by decide +kernel) (by decide +kernel)
theorem kf_X9_166 : Cond.fieldLink RX9 166 "AbsentBells$History" "known" "I" ∈ gAll := gAll_of 263 (by decide +kernel) (by decide +kernel)
theorem kf_X2_18 : Cond.fieldLink RX2 18 "AbsentBells$History" "next" "I" ∈ gAll := gAll_of 264 (by decide +kernel) (by decide +kernel)
theorem kcl_X9_30 : Cond.classLink RX9 30 RX1 ∈ gAll := gAll_of 272 (by decide +kernel) (by decide +kernel)
theorem kins_X1 : Cond.instantiable RX1 4 ∈ gAll := gAll_of 273 (by decide +kernel) (by decide +kernel)
theorem kf_X1_21 : Cond.fieldLink RX1 21 "AbsentBells$Heard" "size" "I" ∈ gAll := gAll_of 278 (by decide +kernel) (by decide +kernel)
theorem kf_X9_224 : Cond.fieldLink RX9 224 "AbsentBells$Heard" "size" "I" ∈ gAll := gAll_of 279 (by decide +kernel) (by decide +kernel)
theorem kf_X1_9 : Cond.fieldLink RX1 9 "AbsentBells$Heard" "of" "[I" ∈ gAll := gAll_of 280 (by decide +kernel) (by decide +kernel)
theorem kf_X1_15 : Cond.fieldLink RX1 15 "AbsentBells$Heard" "minutes" "[I" ∈ gAll := gAll_of 281 (by decide +kernel) (by decide +kernel)
theorem kf_X1_18 : Cond.fieldLink RX1 18 "AbsentBells$Heard" "was" "[I" ∈ gAll := gAll_of 282 (by decide +kernel) (by decide +kernel)
theorem kcl_X9_37 : Cond.classLink RX9 37 RX8 ∈ gAll := gAll_of 292 (by decide +kernel) (by decide +kernel)
theorem kins_X8 : Cond.instantiable RX8 3 ∈ gAll := gAll_of 293 (by decide +kernel) (by decide +kernel)
theorem kf_X8_9 : Cond.fieldLink RX8 9 "AbsentBells$Ways" "due" "[I" ∈ gAll := gAll_of 298 (by decide +kernel) (by decide +kernel)
theorem kf_X8_15 : Cond.fieldLink RX8 15 "AbsentBells$Ways" "astray" "[I" ∈ gAll := gAll_of 299 (by decide +kernel) (by decide +kernel)
theorem kf_X8_18 : Cond.fieldLink RX8 18 "AbsentBells$Ways" "fewest" "[I" ∈ gAll := gAll_of 300 (by decide +kernel) (by decide +kernel)
theorem kcl_X9_44 : Cond.classLink RX9 44 RX7 ∈ gAll := gAll_of 308 (by decide +kernel) (by decide +kernel)
theorem kins_X7 : Cond.instantiable RX7 2 ∈ gAll := gAll_of 309 (by decide +kernel) (by decide +kernel)
theorem kf_X7_9 : Cond.fieldLink RX7 9 "AbsentBells$Silencer" "notes" "[I" ∈ gAll := gAll_of 314 (by decide +kernel) (by decide +kernel)
theorem kf_X7_52 : Cond.fieldLink RX7 52 "AbsentBells$Silencer" "size" "I" ∈ gAll := gAll_of 315 (by decide +kernel) (by decide +kernel)
theorem kcl_X9_51 : Cond.classLink RX9 51 RX5 ∈ gAll := gAll_of 321 (by decide +kernel) (by decide +kernel)
theorem kins_X5 : Cond.instantiable RX5 1 ∈ gAll := gAll_of 322 (by decide +kernel) (by decide +kernel)
theorem kf_X5_28 : Cond.fieldLink RX5 28 "AbsentBells$Rates" "traced" "J" ∈ gAll := gAll_of 327 (by decide +kernel) (by decide +kernel)
theorem kf_X9_269 : Cond.fieldLink RX9 269 "AbsentBells$Rates" "traced" "J" ∈ gAll := gAll_of 328 (by decide +kernel) (by decide +kernel)
theorem kcl_X9_58 : Cond.classLink RX9 58 RX3 ∈ gAll := gAll_of 332 (by decide +kernel) (by decide +kernel)
theorem kf_X9_10 : Cond.fieldLink RX9 10 "AbsentBells" "reader" "LAbsentBells$Reader;" ∈ gAll := gAll_of 334 (by decide +kernel) (by decide +kernel)
theorem kf_X9_19 : Cond.fieldLink RX9 19 "AbsentBells" "day" "LAbsentBells$Day;" ∈ gAll := gAll_of 335 (by decide +kernel) (by decide +kernel)
theorem kf_X9_26 : Cond.fieldLink RX9 26 "AbsentBells" "history" "LAbsentBells$History;" ∈ gAll := gAll_of 336 (by decide +kernel) (by decide +kernel)
theorem kf_X9_33 : Cond.fieldLink RX9 33 "AbsentBells" "heard" "LAbsentBells$Heard;" ∈ gAll := gAll_of 337 (by decide +kernel) (by decide +kernel)
theorem kf_X9_40 : Cond.fieldLink RX9 40 "AbsentBells" "ways" "LAbsentBells$Ways;" ∈ gAll := gAll_of 338 (by decide +kernel) (by decide +kernel)
theorem kf_X9_47 : Cond.fieldLink RX9 47 "AbsentBells" "silencer" "LAbsentBells$Silencer;" ∈ gAll := gAll_of 339 (by decide +kernel) (by decide +kernel)
theorem kf_X9_54 : Cond.fieldLink RX9 54 "AbsentBells" "rates" "LAbsentBells$Rates;" ∈ gAll := gAll_of 340 (by decide +kernel) (by decide +kernel)
theorem kf_X9_60 : Cond.fieldLink RX9 60 "AbsentBells" "images" "[LAbsentBells$Moment;" ∈ gAll := gAll_of 341 (by decide +kernel) (by decide +kernel)
theorem kf_X9_65 : Cond.fieldLink RX9 65 "AbsentBells" "kept" "[Z" ∈ gAll := gAll_of 342 (by decide +kernel) (by decide +kernel)
theorem kac_boolean : Cond.arrayClass .boolean ∈ gAll := gAll_of 362 (by decide +kernel) (by decide +kernel)
theorem kcn_J6_265 : Cond.constant RJ6 265 (1431655765) ∈ gAll := gAll_of 565 (by decide +kernel) (by decide +kernel)
theorem kcn_J6_266 : Cond.constant RJ6 266 (858993459) ∈ gAll := gAll_of 566 (by decide +kernel) (by decide +kernel)
theorem kcn_J6_267 : Cond.constant RJ6 267 (252645135) ∈ gAll := gAll_of 567 (by decide +kernel) (by decide +kernel)
theorem kcn_X9_243 : Cond.constant RX9 243 (-1000000) ∈ gAll := gAll_of 735 (by decide +kernel) (by decide +kernel)
theorem kcn_X5_44 : Cond.constantLong RX5 44 (10) ∈ gAll := gAll_of 744 (by decide +kernel) (by decide +kernel)
theorem kcn_X5_49 : Cond.constantLong RX5 49 (100) ∈ gAll := gAll_of 753 (by decide +kernel) (by decide +kernel)
theorem kcn_X5_67 : Cond.constantLong RX5 67 (1000) ∈ gAll := gAll_of 759 (by decide +kernel) (by decide +kernel)
theorem kcn_X5_69 : Cond.constantLong RX5 69 (10000) ∈ gAll := gAll_of 764 (by decide +kernel) (by decide +kernel)
theorem kcn_X5_71 : Cond.constantLong RX5 71 (100000) ∈ gAll := gAll_of 769 (by decide +kernel) (by decide +kernel)
theorem kcl_L_10 : Cond.classLink RL 10 RX10 ∈ gAll := gAll_of 790 (by decide +kernel) (by decide +kernel)
theorem kins_X10 : Cond.instantiable RX10 27 ∈ gAll := gAll_of 791 (by decide +kernel) (by decide +kernel)
theorem kf_X10_62 : Cond.fieldLink RX10 62 "AbsentBellsModel" "thrown" "I" ∈ gAll := gAll_of 804 (by decide +kernel) (by decide +kernel)
theorem kf_X10_188 : Cond.fieldLink RX10 188 "AbsentBellsModel" "trace" "J" ∈ gAll := gAll_of 805 (by decide +kernel) (by decide +kernel)
theorem kf_X10_7 : Cond.fieldLink RX10 7 "AbsentBellsModel" "text" "[I" ∈ gAll := gAll_of 806 (by decide +kernel) (by decide +kernel)
theorem kf_X10_70 : Cond.fieldLink RX10 70 "AbsentBellsModel" "typed" "I" ∈ gAll := gAll_of 807 (by decide +kernel) (by decide +kernel)
theorem kf_X10_73 : Cond.fieldLink RX10 73 "AbsentBellsModel" "next" "I" ∈ gAll := gAll_of 808 (by decide +kernel) (by decide +kernel)
theorem kf_X10_83 : Cond.fieldLink RX10 83 "AbsentBellsModel" "token" "I" ∈ gAll := gAll_of 809 (by decide +kernel) (by decide +kernel)
theorem kf_X10_80 : Cond.fieldLink RX10 80 "AbsentBellsModel" "place" "I" ∈ gAll := gAll_of 810 (by decide +kernel) (by decide +kernel)
theorem kf_X10_86 : Cond.fieldLink RX10 86 "AbsentBellsModel" "value" "I" ∈ gAll := gAll_of 811 (by decide +kernel) (by decide +kernel)
theorem kf_X10_93 : Cond.fieldLink RX10 93 "AbsentBellsModel" "fault" "I" ∈ gAll := gAll_of 812 (by decide +kernel) (by decide +kernel)
theorem kf_X10_13 : Cond.fieldLink RX10 13 "AbsentBellsModel" "many" "[I" ∈ gAll := gAll_of 813 (by decide +kernel) (by decide +kernel)
theorem kf_X10_107 : Cond.fieldLink RX10 107 "AbsentBellsModel" "told" "I" ∈ gAll := gAll_of 814 (by decide +kernel) (by decide +kernel)
theorem kf_X10_16 : Cond.fieldLink RX10 16 "AbsentBellsModel" "home" "[I" ∈ gAll := gAll_of 815 (by decide +kernel) (by decide +kernel)
theorem kf_X10_19 : Cond.fieldLink RX10 19 "AbsentBellsModel" "whose" "[I" ∈ gAll := gAll_of 816 (by decide +kernel) (by decide +kernel)
theorem kf_X10_22 : Cond.fieldLink RX10 22 "AbsentBellsModel" "where" "[I" ∈ gAll := gAll_of 817 (by decide +kernel) (by decide +kernel)
theorem kf_X10_25 : Cond.fieldLink RX10 25 "AbsentBellsModel" "from" "[I" ∈ gAll := gAll_of 818 (by decide +kernel) (by decide +kernel)
theorem kf_X10_28 : Cond.fieldLink RX10 28 "AbsentBellsModel" "lasting" "[I" ∈ gAll := gAll_of 819 (by decide +kernel) (by decide +kernel)
theorem kf_X10_31 : Cond.fieldLink RX10 31 "AbsentBellsModel" "s" "[I" ∈ gAll := gAll_of 820 (by decide +kernel) (by decide +kernel)
theorem kf_X10_34 : Cond.fieldLink RX10 34 "AbsentBellsModel" "kept" "[I" ∈ gAll := gAll_of 821 (by decide +kernel) (by decide +kernel)
theorem kf_X10_37 : Cond.fieldLink RX10 37 "AbsentBellsModel" "isKept" "[Z" ∈ gAll := gAll_of 822 (by decide +kernel) (by decide +kernel)
theorem kf_X10_41 : Cond.fieldLink RX10 41 "AbsentBellsModel" "undos" "[I" ∈ gAll := gAll_of 823 (by decide +kernel) (by decide +kernel)
theorem kf_X10_124 : Cond.fieldLink RX10 124 "AbsentBellsModel" "undoMany" "I" ∈ gAll := gAll_of 824 (by decide +kernel) (by decide +kernel)
theorem kf_X10_44 : Cond.fieldLink RX10 44 "AbsentBellsModel" "heardOf" "[I" ∈ gAll := gAll_of 825 (by decide +kernel) (by decide +kernel)
theorem kf_X10_47 : Cond.fieldLink RX10 47 "AbsentBellsModel" "heardAt" "[I" ∈ gAll := gAll_of 826 (by decide +kernel) (by decide +kernel)
theorem kf_X10_50 : Cond.fieldLink RX10 50 "AbsentBellsModel" "heardIs" "[I" ∈ gAll := gAll_of 827 (by decide +kernel) (by decide +kernel)
theorem kf_X10_121 : Cond.fieldLink RX10 121 "AbsentBellsModel" "heard" "I" ∈ gAll := gAll_of 828 (by decide +kernel) (by decide +kernel)
theorem kf_X10_127 : Cond.fieldLink RX10 127 "AbsentBellsModel" "without" "I" ∈ gAll := gAll_of 829 (by decide +kernel) (by decide +kernel)
theorem kf_X10_53 : Cond.fieldLink RX10 53 "AbsentBellsModel" "cost" "[I" ∈ gAll := gAll_of 830 (by decide +kernel) (by decide +kernel)
theorem kcn_X10_177 : Cond.constant RX10 177 (1000000) ∈ gAll := gAll_of 1039 (by decide +kernel) (by decide +kernel)
theorem kcn_X10_187 : Cond.constant RX10 187 (-1000000) ∈ gAll := gAll_of 1075 (by decide +kernel) (by decide +kernel)
theorem kcn_X10_192 : Cond.constantLong RX10 192 (11) ∈ gAll := gAll_of 1076 (by decide +kernel) (by decide +kernel)
theorem kcn_X10_194 : Cond.constantLong RX10 194 (101) ∈ gAll := gAll_of 1077 (by decide +kernel) (by decide +kernel)
theorem kcn_X10_196 : Cond.constantLong RX10 196 (1011) ∈ gAll := gAll_of 1078 (by decide +kernel) (by decide +kernel)
theorem kcn_X10_198 : Cond.constantLong RX10 198 (10101) ∈ gAll := gAll_of 1079 (by decide +kernel) (by decide +kernel)
theorem kcn_X10_200 : Cond.constantLong RX10 200 (100001) ∈ gAll := gAll_of 1080 (by decide +kernel) (by decide +kernel)
theorem kco_X9_init : Cond.code yX9_init cX9_init 2 (none : Option Jvm.ClassFile.FieldType) ∈ gAll := gAll_of 69 (by decide +kernel) (by decide +kernel)
theorem kim_X9_init : Cond.instanceMethod yX9_init ∈ gAll := gAll_of 68 (by decide +kernel) (by decide +kernel)
theorem kml_L_9 : Cond.methodLink RL 9 yX9_init ∈ gAll := gAll_of 67 (by decide +kernel) (by decide +kernel)
theorem kin_oi : Cond.instanceMethod objectInit ∈ gAll := gAll_of 71 (by decide +kernel) (by decide +kernel)
theorem kco_oi : Cond.code objectInit ⟨#[0xb1]⟩ 1 none ∈ gAll := gAll_of 72 (by decide +kernel) (by decide +kernel)
theorem kml_X9_1 : Cond.methodLink RX9 1 objectInit ∈ gAll := gAll_of 70 (by decide +kernel) (by decide +kernel)
theorem kml_X6_3 : Cond.methodLink RX6 3 objectInit ∈ gAll := gAll_of 78 (by decide +kernel) (by decide +kernel)
theorem kml_X4_3 : Cond.methodLink RX4 3 objectInit ∈ gAll := gAll_of 84 (by decide +kernel) (by decide +kernel)
theorem kml_X0_3 : Cond.methodLink RX0 3 objectInit ∈ gAll := gAll_of 189 (by decide +kernel) (by decide +kernel)
theorem kml_X3_3 : Cond.methodLink RX3 3 objectInit ∈ gAll := gAll_of 197 (by decide +kernel) (by decide +kernel)
theorem kco_X2_init : Cond.code yX2_init cX2_init 2 (none : Option Jvm.ClassFile.FieldType) ∈ gAll := gAll_of 256 (by decide +kernel) (by decide +kernel)
theorem kim_X2_init : Cond.instanceMethod yX2_init ∈ gAll := gAll_of 255 (by decide +kernel) (by decide +kernel)
theorem kml_X9_25 : Cond.methodLink RX9 25 yX2_init ∈ gAll := gAll_of 254 (by decide +kernel) (by decide +kernel)
theorem kml_X2_3 : Cond.methodLink RX2 3 objectInit ∈ gAll := gAll_of 257 (by decide +kernel) (by decide +kernel)
theorem kml_X1_3 : Cond.methodLink RX1 3 objectInit ∈ gAll := gAll_of 277 (by decide +kernel) (by decide +kernel)
theorem kml_X8_3 : Cond.methodLink RX8 3 objectInit ∈ gAll := gAll_of 297 (by decide +kernel) (by decide +kernel)
theorem kml_X7_3 : Cond.methodLink RX7 3 objectInit ∈ gAll := gAll_of 313 (by decide +kernel) (by decide +kernel)
theorem kml_X5_1 : Cond.methodLink RX5 1 objectInit ∈ gAll := gAll_of 326 (by decide +kernel) (by decide +kernel)
theorem kco_X9_type : Cond.code yX9_type cX9_type 2 (some .int) ∈ gAll := gAll_of 366 (by decide +kernel) (by decide +kernel)
theorem kim_X9_type : Cond.instanceMethod yX9_type ∈ gAll := gAll_of 364 (by decide +kernel) (by decide +kernel)
theorem kse_X9_type : Cond.selects RX9 yX9_type yX9_type ∈ gAll := gAll_of 365 (by decide +kernel) (by decide +kernel)
theorem kv_L_13 : gVok RL 13 RX9 yX9_type cX9_type 2 (some .int) 1 := gVok_of (gAll_of 363 (by decide +kernel) (by decide +kernel)) kim_X9_type kse_X9_type kini_X9 kco_X9_type (by decide +kernel)
theorem kco_X6_addLetter : Cond.code yX6_addLetter cX6_addLetter 2 (some .boolean) ∈ gAll := gAll_of 370 (by decide +kernel) (by decide +kernel)
theorem kim_X6_addLetter : Cond.instanceMethod yX6_addLetter ∈ gAll := gAll_of 368 (by decide +kernel) (by decide +kernel)
theorem kse_X6_addLetter : Cond.selects RX6 yX6_addLetter yX6_addLetter ∈ gAll := gAll_of 369 (by decide +kernel) (by decide +kernel)
theorem kv_X9_69 : gVok RX9 69 RX6 yX6_addLetter cX6_addLetter 2 (some .boolean) 1 := gVok_of (gAll_of 367 (by decide +kernel) (by decide +kernel)) kim_X6_addLetter kse_X6_addLetter kini_X6 kco_X6_addLetter (by decide +kernel)
theorem kco_X9_clear : Cond.code yX9_clear cX9_clear 1 (some .int) ∈ gAll := gAll_of 374 (by decide +kernel) (by decide +kernel)
theorem kim_X9_clear : Cond.instanceMethod yX9_clear ∈ gAll := gAll_of 372 (by decide +kernel) (by decide +kernel)
theorem kse_X9_clear : Cond.selects RX9 yX9_clear yX9_clear ∈ gAll := gAll_of 373 (by decide +kernel) (by decide +kernel)
theorem kv_L_18 : gVok RL 18 RX9 yX9_clear cX9_clear 1 (some .int) 0 := gVok_of (gAll_of 371 (by decide +kernel) (by decide +kernel)) kim_X9_clear kse_X9_clear kini_X9 kco_X9_clear (by decide +kernel)
theorem kco_X6_dropLetters : Cond.code yX6_dropLetters cX6_dropLetters 2 (some .int) ∈ gAll := gAll_of 378 (by decide +kernel) (by decide +kernel)
theorem kim_X6_dropLetters : Cond.instanceMethod yX6_dropLetters ∈ gAll := gAll_of 376 (by decide +kernel) (by decide +kernel)
theorem kse_X6_dropLetters : Cond.selects RX6 yX6_dropLetters yX6_dropLetters ∈ gAll := gAll_of 377 (by decide +kernel) (by decide +kernel)
theorem kv_X9_77 : gVok RX9 77 RX6 yX6_dropLetters cX6_dropLetters 2 (some .int) 0 := gVok_of (gAll_of 375 (by decide +kernel) (by decide +kernel)) kim_X6_dropLetters kse_X6_dropLetters kini_X6 kco_X6_dropLetters (by decide +kernel)
theorem kco_X9_town : Cond.code yX9_town cX9_town 3 (some .int) ∈ gAll := gAll_of 382 (by decide +kernel) (by decide +kernel)
theorem kim_X9_town : Cond.instanceMethod yX9_town ∈ gAll := gAll_of 380 (by decide +kernel) (by decide +kernel)
theorem kse_X9_town : Cond.selects RX9 yX9_town yX9_town ∈ gAll := gAll_of 381 (by decide +kernel) (by decide +kernel)
theorem kv_L_23 : gVok RL 23 RX9 yX9_town cX9_town 3 (some .int) 0 := gVok_of (gAll_of 379 (by decide +kernel) (by decide +kernel)) kim_X9_town kse_X9_town kini_X9 kco_X9_town (by decide +kernel)
theorem kco_X6_read : Cond.code yX6_read cX6_read 2 (some .int) ∈ gAll := gAll_of 386 (by decide +kernel) (by decide +kernel)
theorem kim_X6_read : Cond.instanceMethod yX6_read ∈ gAll := gAll_of 384 (by decide +kernel) (by decide +kernel)
theorem kse_X6_read : Cond.selects RX6 yX6_read yX6_read ∈ gAll := gAll_of 385 (by decide +kernel) (by decide +kernel)
theorem kv_X9_81 : gVok RX9 81 RX6 yX6_read cX6_read 2 (some .int) 0 := gVok_of (gAll_of 383 (by decide +kernel) (by decide +kernel)) kim_X6_read kse_X6_read kini_X6 kco_X6_read (by decide +kernel)
theorem kco_X4_reset : Cond.code yX4_reset cX4_reset 1 (none : Option Jvm.ClassFile.FieldType) ∈ gAll := gAll_of 390 (by decide +kernel) (by decide +kernel)
theorem kim_X4_reset : Cond.instanceMethod yX4_reset ∈ gAll := gAll_of 388 (by decide +kernel) (by decide +kernel)
theorem kse_X4_reset : Cond.selects RX4 yX4_reset yX4_reset ∈ gAll := gAll_of 389 (by decide +kernel) (by decide +kernel)
theorem kv_X6_29 : gVok RX6 29 RX4 yX4_reset cX4_reset 1 (none : Option Jvm.ClassFile.FieldType) 0 := gVok_of (gAll_of 387 (by decide +kernel) (by decide +kernel)) kim_X4_reset kse_X4_reset kini_X4 kco_X4_reset (by decide +kernel)
theorem kco_X6_nextToken : Cond.code yX6_nextToken cX6_nextToken 2 (none : Option Jvm.ClassFile.FieldType) ∈ gAll := gAll_of 394 (by decide +kernel) (by decide +kernel)
theorem kim_X6_nextToken : Cond.instanceMethod yX6_nextToken ∈ gAll := gAll_of 393 (by decide +kernel) (by decide +kernel)
theorem kse_X6_nextToken : Cond.selects RX6 yX6_nextToken yX6_nextToken ∈ gAll := gAll_of 0 (by decide +kernel) (by decide +kernel)
theorem kv_X6_42 : gVok RX6 42 RX6 yX6_nextToken cX6_nextToken 2 (none : Option Jvm.ClassFile.FieldType) 0 := gVok_of (gAll_of 391 (by decide +kernel) (by decide +kernel)) kim_X6_nextToken kse_X6_nextToken kini_X6 kco_X6_nextToken (by decide +kernel)
theorem kco_X6_isDigit : Cond.code yX6_isDigit cX6_isDigit 1 (some .boolean) ∈ gAll := gAll_of 397 (by decide +kernel) (by decide +kernel)
theorem kst_X6_isDigit : Cond.static yX6_isDigit ∈ gAll := gAll_of 396 (by decide +kernel) (by decide +kernel)
theorem ks_X6_117 : gSok RX6 117 yX6_isDigit cX6_isDigit 1 (some .boolean) 1 := gSok_of (gAll_of 395 (by decide +kernel) (by decide +kernel)) kst_X6_isDigit kini_X6 kco_X6_isDigit (by decide +kernel)
theorem kst_min : Cond.static Lib.Math.min.name ∈ gAll := gAll_of 399 (by decide +kernel) (by decide +kernel)
theorem kco_min : Cond.code Lib.Math.min.name Lib.Math.min.code 2 (some .int) ∈ gAll := gAll_of 400 (by decide +kernel) (by decide +kernel)
theorem kini_Math : Cond.initialized "java/lang/Math" ∈ gAll := gAll_of 62 (by decide +kernel) (by decide +kernel)
theorem kml_X6_121 : Cond.methodLink RX6 121 Lib.Math.min.name ∈ gAll := gAll_of 398 (by decide +kernel) (by decide +kernel)
theorem kco_X6_isWord : Cond.code yX6_isWord cX6_isWord 1 (some .boolean) ∈ gAll := gAll_of 403 (by decide +kernel) (by decide +kernel)
theorem kst_X6_isWord : Cond.static yX6_isWord ∈ gAll := gAll_of 402 (by decide +kernel) (by decide +kernel)
theorem ks_X6_126 : gSok RX6 126 yX6_isWord cX6_isWord 1 (some .boolean) 1 := gSok_of (gAll_of 401 (by decide +kernel) (by decide +kernel)) kst_X6_isWord kini_X6 kco_X6_isWord (by decide +kernel)
theorem kco_X6_hasFault : Cond.code yX6_hasFault cX6_hasFault 1 (some .boolean) ∈ gAll := gAll_of 407 (by decide +kernel) (by decide +kernel)
theorem kim_X6_hasFault : Cond.instanceMethod yX6_hasFault ∈ gAll := gAll_of 405 (by decide +kernel) (by decide +kernel)
theorem kse_X6_hasFault : Cond.selects RX6 yX6_hasFault yX6_hasFault ∈ gAll := gAll_of 406 (by decide +kernel) (by decide +kernel)
theorem kv_X6_48 : gVok RX6 48 RX6 yX6_hasFault cX6_hasFault 1 (some .boolean) 0 := gVok_of (gAll_of 404 (by decide +kernel) (by decide +kernel)) kim_X6_hasFault kse_X6_hasFault kini_X6 kco_X6_hasFault (by decide +kernel)
theorem kco_X6_readItem : Cond.code yX6_readItem cX6_readItem 2 (none : Option Jvm.ClassFile.FieldType) ∈ gAll := gAll_of 411 (by decide +kernel) (by decide +kernel)
theorem kim_X6_readItem : Cond.instanceMethod yX6_readItem ∈ gAll := gAll_of 410 (by decide +kernel) (by decide +kernel)
theorem kse_X6_readItem : Cond.selects RX6 yX6_readItem yX6_readItem ∈ gAll := gAll_of 1 (by decide +kernel) (by decide +kernel)
theorem kv_X6_52 : gVok RX6 52 RX6 yX6_readItem cX6_readItem 2 (none : Option Jvm.ClassFile.FieldType) 1 := gVok_of (gAll_of 408 (by decide +kernel) (by decide +kernel)) kim_X6_readItem kse_X6_readItem kini_X6 kco_X6_readItem (by decide +kernel)
theorem kco_X6_readPlaces : Cond.code yX6_readPlaces cX6_readPlaces 2 (none : Option Jvm.ClassFile.FieldType) ∈ gAll := gAll_of 415 (by decide +kernel) (by decide +kernel)
theorem kim_X6_readPlaces : Cond.instanceMethod yX6_readPlaces ∈ gAll := gAll_of 414 (by decide +kernel) (by decide +kernel)
theorem kse_X6_readPlaces : Cond.selects RX6 yX6_readPlaces yX6_readPlaces ∈ gAll := gAll_of 2 (by decide +kernel) (by decide +kernel)
theorem kv_X6_56 : gVok RX6 56 RX6 yX6_readPlaces cX6_readPlaces 2 (none : Option Jvm.ClassFile.FieldType) 1 := gVok_of (gAll_of 412 (by decide +kernel) (by decide +kernel)) kim_X6_readPlaces kse_X6_readPlaces kini_X6 kco_X6_readPlaces (by decide +kernel)
theorem kco_X6_readWord : Cond.code yX6_readWord cX6_readWord 2 (none : Option Jvm.ClassFile.FieldType) ∈ gAll := gAll_of 419 (by decide +kernel) (by decide +kernel)
theorem kim_X6_readWord : Cond.instanceMethod yX6_readWord ∈ gAll := gAll_of 418 (by decide +kernel) (by decide +kernel)
theorem kse_X6_readWord : Cond.selects RX6 yX6_readWord yX6_readWord ∈ gAll := gAll_of 3 (by decide +kernel) (by decide +kernel)
theorem kv_X6_74 : gVok RX6 74 RX6 yX6_readWord cX6_readWord 2 (none : Option Jvm.ClassFile.FieldType) 1 := gVok_of (gAll_of 416 (by decide +kernel) (by decide +kernel)) kim_X6_readWord kse_X6_readWord kini_X6 kco_X6_readWord (by decide +kernel)
theorem kco_X6_refuseToken : Cond.code yX6_refuseToken cX6_refuseToken 1 (none : Option Jvm.ClassFile.FieldType) ∈ gAll := gAll_of 423 (by decide +kernel) (by decide +kernel)
theorem kim_X6_refuseToken : Cond.instanceMethod yX6_refuseToken ∈ gAll := gAll_of 422 (by decide +kernel) (by decide +kernel)
theorem kse_X6_refuseToken : Cond.selects RX6 yX6_refuseToken yX6_refuseToken ∈ gAll := gAll_of 4 (by decide +kernel) (by decide +kernel)
theorem kv_X6_71 : gVok RX6 71 RX6 yX6_refuseToken cX6_refuseToken 1 (none : Option Jvm.ClassFile.FieldType) 0 := gVok_of (gAll_of 420 (by decide +kernel) (by decide +kernel)) kim_X6_refuseToken kse_X6_refuseToken kini_X6 kco_X6_refuseToken (by decide +kernel)
theorem kco_X6_readNumber : Cond.code yX6_readNumber cX6_readNumber 4 (some .int) ∈ gAll := gAll_of 427 (by decide +kernel) (by decide +kernel)
theorem kim_X6_readNumber : Cond.instanceMethod yX6_readNumber ∈ gAll := gAll_of 426 (by decide +kernel) (by decide +kernel)
theorem kse_X6_readNumber : Cond.selects RX6 yX6_readNumber yX6_readNumber ∈ gAll := gAll_of 5 (by decide +kernel) (by decide +kernel)
theorem kv_X6_77 : gVok RX6 77 RX6 yX6_readNumber cX6_readNumber 4 (some .int) 2 := gVok_of (gAll_of 424 (by decide +kernel) (by decide +kernel)) kim_X6_readNumber kse_X6_readNumber kini_X6 kco_X6_readNumber (by decide +kernel)
theorem kco_X6_readPerson : Cond.code yX6_readPerson cX6_readPerson 2 (none : Option Jvm.ClassFile.FieldType) ∈ gAll := gAll_of 431 (by decide +kernel) (by decide +kernel)
theorem kim_X6_readPerson : Cond.instanceMethod yX6_readPerson ∈ gAll := gAll_of 430 (by decide +kernel) (by decide +kernel)
theorem kse_X6_readPerson : Cond.selects RX6 yX6_readPerson yX6_readPerson ∈ gAll := gAll_of 6 (by decide +kernel) (by decide +kernel)
theorem kv_X6_59 : gVok RX6 59 RX6 yX6_readPerson cX6_readPerson 2 (none : Option Jvm.ClassFile.FieldType) 0 := gVok_of (gAll_of 428 (by decide +kernel) (by decide +kernel)) kim_X6_readPerson kse_X6_readPerson kini_X6 kco_X6_readPerson (by decide +kernel)
theorem kco_X6_readDuty : Cond.code yX6_readDuty cX6_readDuty 5 (none : Option Jvm.ClassFile.FieldType) ∈ gAll := gAll_of 435 (by decide +kernel) (by decide +kernel)
theorem kim_X6_readDuty : Cond.instanceMethod yX6_readDuty ∈ gAll := gAll_of 434 (by decide +kernel) (by decide +kernel)
theorem kse_X6_readDuty : Cond.selects RX6 yX6_readDuty yX6_readDuty ∈ gAll := gAll_of 7 (by decide +kernel) (by decide +kernel)
theorem kv_X6_62 : gVok RX6 62 RX6 yX6_readDuty cX6_readDuty 5 (none : Option Jvm.ClassFile.FieldType) 0 := gVok_of (gAll_of 432 (by decide +kernel) (by decide +kernel)) kim_X6_readDuty kse_X6_readDuty kini_X6 kco_X6_readDuty (by decide +kernel)
theorem kco_X6_readWalk : Cond.code yX6_readWalk cX6_readWalk 1 (none : Option Jvm.ClassFile.FieldType) ∈ gAll := gAll_of 439 (by decide +kernel) (by decide +kernel)
theorem kim_X6_readWalk : Cond.instanceMethod yX6_readWalk ∈ gAll := gAll_of 438 (by decide +kernel) (by decide +kernel)
theorem kse_X6_readWalk : Cond.selects RX6 yX6_readWalk yX6_readWalk ∈ gAll := gAll_of 8 (by decide +kernel) (by decide +kernel)
theorem kv_X6_65 : gVok RX6 65 RX6 yX6_readWalk cX6_readWalk 1 (none : Option Jvm.ClassFile.FieldType) 0 := gVok_of (gAll_of 436 (by decide +kernel) (by decide +kernel)) kim_X6_readWalk kse_X6_readWalk kini_X6 kco_X6_readWalk (by decide +kernel)
theorem kco_X6_readFree : Cond.code yX6_readFree cX6_readFree 1 (none : Option Jvm.ClassFile.FieldType) ∈ gAll := gAll_of 443 (by decide +kernel) (by decide +kernel)
theorem kim_X6_readFree : Cond.instanceMethod yX6_readFree ∈ gAll := gAll_of 442 (by decide +kernel) (by decide +kernel)
theorem kse_X6_readFree : Cond.selects RX6 yX6_readFree yX6_readFree ∈ gAll := gAll_of 9 (by decide +kernel) (by decide +kernel)
theorem kv_X6_68 : gVok RX6 68 RX6 yX6_readFree cX6_readFree 1 (none : Option Jvm.ClassFile.FieldType) 0 := gVok_of (gAll_of 440 (by decide +kernel) (by decide +kernel)) kim_X6_readFree kse_X6_readFree kini_X6 kco_X6_readFree (by decide +kernel)
theorem kv_X9_84 : gVok RX9 84 RX6 yX6_hasFault cX6_hasFault 1 (some .boolean) 0 := gVok_of (gAll_of 444 (by decide +kernel) (by decide +kernel)) kim_X6_hasFault kse_X6_hasFault kini_X6 kco_X6_hasFault (by decide +kernel)
theorem kco_X0_begin : Cond.code yX0_begin cX0_begin 2 (none : Option Jvm.ClassFile.FieldType) ∈ gAll := gAll_of 448 (by decide +kernel) (by decide +kernel)
theorem kim_X0_begin : Cond.instanceMethod yX0_begin ∈ gAll := gAll_of 446 (by decide +kernel) (by decide +kernel)
theorem kse_X0_begin : Cond.selects RX0 yX0_begin yX0_begin ∈ gAll := gAll_of 447 (by decide +kernel) (by decide +kernel)
theorem kv_X9_95 : gVok RX9 95 RX0 yX0_begin cX0_begin 2 (none : Option Jvm.ClassFile.FieldType) 1 := gVok_of (gAll_of 445 (by decide +kernel) (by decide +kernel)) kim_X0_begin kse_X0_begin kini_X0 kco_X0_begin (by decide +kernel)
theorem kco_X4_take : Cond.code yX4_take cX4_take 2 (none : Option Jvm.ClassFile.FieldType) ∈ gAll := gAll_of 452 (by decide +kernel) (by decide +kernel)
theorem kim_X4_take : Cond.instanceMethod yX4_take ∈ gAll := gAll_of 450 (by decide +kernel) (by decide +kernel)
theorem kse_X4_take : Cond.selects RX4 yX4_take yX4_take ∈ gAll := gAll_of 451 (by decide +kernel) (by decide +kernel)
theorem kv_X0_25 : gVok RX0 25 RX4 yX4_take cX4_take 2 (none : Option Jvm.ClassFile.FieldType) 1 := gVok_of (gAll_of 449 (by decide +kernel) (by decide +kernel)) kim_X4_take kse_X4_take kini_X4 kco_X4_take (by decide +kernel)
theorem kna_ac : Cond.native arraycopyName ∈ gAll := gAll_of 455 (by decide +kernel) (by decide +kernel)
theorem kst_ac : Cond.static arraycopyName ∈ gAll := gAll_of 454 (by decide +kernel) (by decide +kernel)
theorem kini_Sys : Cond.initialized "java/lang/System" ∈ gAll := gAll_of 63 (by decide +kernel) (by decide +kernel)
theorem kml_X4_43 : Cond.methodLink RX4 43 arraycopyName ∈ gAll := gAll_of 453 (by decide +kernel) (by decide +kernel)
theorem kco_X3_begin : Cond.code yX3_begin cX3_begin 3 (none : Option Jvm.ClassFile.FieldType) ∈ gAll := gAll_of 459 (by decide +kernel) (by decide +kernel)
theorem kim_X3_begin : Cond.instanceMethod yX3_begin ∈ gAll := gAll_of 457 (by decide +kernel) (by decide +kernel)
theorem kse_X3_begin : Cond.selects RX3 yX3_begin yX3_begin ∈ gAll := gAll_of 458 (by decide +kernel) (by decide +kernel)
theorem kv_X0_29 : gVok RX0 29 RX3 yX3_begin cX3_begin 3 (none : Option Jvm.ClassFile.FieldType) 1 := gVok_of (gAll_of 456 (by decide +kernel) (by decide +kernel)) kim_X3_begin kse_X3_begin kini_X3 kco_X3_begin (by decide +kernel)
theorem kml_X3_39 : Cond.methodLink RX3 39 arraycopyName ∈ gAll := gAll_of 460 (by decide +kernel) (by decide +kernel)
theorem kco_X2_lose : Cond.code yX2_lose cX2_lose 1 (none : Option Jvm.ClassFile.FieldType) ∈ gAll := gAll_of 464 (by decide +kernel) (by decide +kernel)
theorem kim_X2_lose : Cond.instanceMethod yX2_lose ∈ gAll := gAll_of 462 (by decide +kernel) (by decide +kernel)
theorem kse_X2_lose : Cond.selects RX2 yX2_lose yX2_lose ∈ gAll := gAll_of 463 (by decide +kernel) (by decide +kernel)
theorem kv_X9_99 : gVok RX9 99 RX2 yX2_lose cX2_lose 1 (none : Option Jvm.ClassFile.FieldType) 0 := gVok_of (gAll_of 461 (by decide +kernel) (by decide +kernel)) kim_X2_lose kse_X2_lose kini_X2 kco_X2_lose (by decide +kernel)
theorem kco_X1_drop : Cond.code yX1_drop cX1_drop 2 (some .int) ∈ gAll := gAll_of 468 (by decide +kernel) (by decide +kernel)
theorem kim_X1_drop : Cond.instanceMethod yX1_drop ∈ gAll := gAll_of 466 (by decide +kernel) (by decide +kernel)
theorem kse_X1_drop : Cond.selects RX1 yX1_drop yX1_drop ∈ gAll := gAll_of 467 (by decide +kernel) (by decide +kernel)
theorem kv_X9_102 : gVok RX9 102 RX1 yX1_drop cX1_drop 2 (some .int) 0 := gVok_of (gAll_of 465 (by decide +kernel) (by decide +kernel)) kim_X1_drop kse_X1_drop kini_X1 kco_X1_drop (by decide +kernel)
theorem kco_X9_person : Cond.code yX9_person cX9_person 4 (some .int) ∈ gAll := gAll_of 472 (by decide +kernel) (by decide +kernel)
theorem kim_X9_person : Cond.instanceMethod yX9_person ∈ gAll := gAll_of 470 (by decide +kernel) (by decide +kernel)
theorem kse_X9_person : Cond.selects RX9 yX9_person yX9_person ∈ gAll := gAll_of 471 (by decide +kernel) (by decide +kernel)
theorem kv_L_27 : gVok RL 27 RX9 yX9_person cX9_person 4 (some .int) 2 := gVok_of (gAll_of 469 (by decide +kernel) (by decide +kernel)) kim_X9_person kse_X9_person kini_X9 kco_X9_person (by decide +kernel)
theorem kco_X4_isPerson : Cond.code yX4_isPerson cX4_isPerson 2 (some .boolean) ∈ gAll := gAll_of 476 (by decide +kernel) (by decide +kernel)
theorem kim_X4_isPerson : Cond.instanceMethod yX4_isPerson ∈ gAll := gAll_of 474 (by decide +kernel) (by decide +kernel)
theorem kse_X4_isPerson : Cond.selects RX4 yX4_isPerson yX4_isPerson ∈ gAll := gAll_of 475 (by decide +kernel) (by decide +kernel)
theorem kv_X9_108 : gVok RX9 108 RX4 yX4_isPerson cX4_isPerson 2 (some .boolean) 1 := gVok_of (gAll_of 473 (by decide +kernel) (by decide +kernel)) kim_X4_isPerson kse_X4_isPerson kini_X4 kco_X4_isPerson (by decide +kernel)
theorem kco_X0_rung : Cond.code yX0_rung cX0_rung 2 (some .int) ∈ gAll := gAll_of 480 (by decide +kernel) (by decide +kernel)
theorem kim_X0_rung : Cond.instanceMethod yX0_rung ∈ gAll := gAll_of 478 (by decide +kernel) (by decide +kernel)
theorem kse_X0_rung : Cond.selects RX0 yX0_rung yX0_rung ∈ gAll := gAll_of 479 (by decide +kernel) (by decide +kernel)
theorem kv_X9_130 : gVok RX9 130 RX0 yX0_rung cX0_rung 2 (some .int) 1 := gVok_of (gAll_of 477 (by decide +kernel) (by decide +kernel)) kim_X0_rung kse_X0_rung kini_X0 kco_X0_rung (by decide +kernel)
theorem kco_X0_dutiesRung : Cond.code yX0_dutiesRung cX0_dutiesRung 4 (some .int) ∈ gAll := gAll_of 484 (by decide +kernel) (by decide +kernel)
theorem kim_X0_dutiesRung : Cond.instanceMethod yX0_dutiesRung ∈ gAll := gAll_of 482 (by decide +kernel) (by decide +kernel)
theorem kse_X0_dutiesRung : Cond.selects RX0 yX0_dutiesRung yX0_dutiesRung ∈ gAll := gAll_of 483 (by decide +kernel) (by decide +kernel)
theorem kv_X0_82 : gVok RX0 82 RX0 yX0_dutiesRung cX0_dutiesRung 4 (some .int) 1 := gVok_of (gAll_of 481 (by decide +kernel) (by decide +kernel)) kim_X0_dutiesRung kse_X0_dutiesRung kini_X0 kco_X0_dutiesRung (by decide +kernel)
theorem kco_X0_isDue : Cond.code yX0_isDue cX0_isDue 3 (some .boolean) ∈ gAll := gAll_of 488 (by decide +kernel) (by decide +kernel)
theorem kim_X0_isDue : Cond.instanceMethod yX0_isDue ∈ gAll := gAll_of 486 (by decide +kernel) (by decide +kernel)
theorem kse_X0_isDue : Cond.selects RX0 yX0_isDue yX0_isDue ∈ gAll := gAll_of 487 (by decide +kernel) (by decide +kernel)
theorem kv_X0_61 : gVok RX0 61 RX0 yX0_isDue cX0_isDue 3 (some .boolean) 2 := gVok_of (gAll_of 485 (by decide +kernel) (by decide +kernel)) kim_X0_isDue kse_X0_isDue kini_X0 kco_X0_isDue (by decide +kernel)
theorem kml_X0_50 : Cond.methodLink RX0 50 Lib.Math.min.name ∈ gAll := gAll_of 492 (by decide +kernel) (by decide +kernel)
theorem kco_X0_willBeThere : Cond.code yX0_willBeThere cX0_willBeThere 4 (some .boolean) ∈ gAll := gAll_of 496 (by decide +kernel) (by decide +kernel)
theorem kim_X0_willBeThere : Cond.instanceMethod yX0_willBeThere ∈ gAll := gAll_of 495 (by decide +kernel) (by decide +kernel)
theorem kse_X0_willBeThere : Cond.selects RX0 yX0_willBeThere yX0_willBeThere ∈ gAll := gAll_of 10 (by decide +kernel) (by decide +kernel)
theorem kv_X0_71 : gVok RX0 71 RX0 yX0_willBeThere cX0_willBeThere 4 (some .boolean) 3 := gVok_of (gAll_of 493 (by decide +kernel) (by decide +kernel)) kim_X0_willBeThere kse_X0_willBeThere kini_X0 kco_X0_willBeThere (by decide +kernel)
theorem kco_X0_owners : Cond.code yX0_owners cX0_owners 4 (some .int) ∈ gAll := gAll_of 500 (by decide +kernel) (by decide +kernel)
theorem kim_X0_owners : Cond.instanceMethod yX0_owners ∈ gAll := gAll_of 498 (by decide +kernel) (by decide +kernel)
theorem kse_X0_owners : Cond.selects RX0 yX0_owners yX0_owners ∈ gAll := gAll_of 499 (by decide +kernel) (by decide +kernel)
theorem kv_X0_86 : gVok RX0 86 RX0 yX0_owners cX0_owners 4 (some .int) 1 := gVok_of (gAll_of 497 (by decide +kernel) (by decide +kernel)) kim_X0_owners kse_X0_owners kini_X0 kco_X0_owners (by decide +kernel)
theorem kco_X9_bit : Cond.code yX9_bit cX9_bit 2 (some .int) ∈ gAll := gAll_of 491 (by decide +kernel) (by decide +kernel)
theorem kst_X9_bit : Cond.static yX9_bit ∈ gAll := gAll_of 490 (by decide +kernel) (by decide +kernel)
theorem ks_X9_134 : gSok RX9 134 yX9_bit cX9_bit 2 (some .int) 2 := gSok_of (gAll_of 501 (by decide +kernel) (by decide +kernel)) kst_X9_bit kini_X9 kco_X9_bit (by decide +kernel)
theorem kco_X9_duty : Cond.code yX9_duty cX9_duty 3 (some .int) ∈ gAll := gAll_of 505 (by decide +kernel) (by decide +kernel)
theorem kim_X9_duty : Cond.instanceMethod yX9_duty ∈ gAll := gAll_of 503 (by decide +kernel) (by decide +kernel)
theorem kse_X9_duty : Cond.selects RX9 yX9_duty yX9_duty ∈ gAll := gAll_of 504 (by decide +kernel) (by decide +kernel)
theorem kv_L_32 : gVok RL 32 RX9 yX9_duty cX9_duty 3 (some .int) 2 := gVok_of (gAll_of 502 (by decide +kernel) (by decide +kernel)) kim_X9_duty kse_X9_duty kini_X9 kco_X9_duty (by decide +kernel)
theorem kco_X4_isDuty : Cond.code yX4_isDuty cX4_isDuty 2 (some .boolean) ∈ gAll := gAll_of 509 (by decide +kernel) (by decide +kernel)
theorem kim_X4_isDuty : Cond.instanceMethod yX4_isDuty ∈ gAll := gAll_of 507 (by decide +kernel) (by decide +kernel)
theorem kse_X4_isDuty : Cond.selects RX4 yX4_isDuty yX4_isDuty ∈ gAll := gAll_of 508 (by decide +kernel) (by decide +kernel)
theorem kv_X9_141 : gVok RX9 141 RX4 yX4_isDuty cX4_isDuty 2 (some .boolean) 1 := gVok_of (gAll_of 506 (by decide +kernel) (by decide +kernel)) kim_X4_isDuty kse_X4_isDuty kini_X4 kco_X4_isDuty (by decide +kernel)
theorem kco_X9_now : Cond.code yX9_now cX9_now 2 (some .int) ∈ gAll := gAll_of 513 (by decide +kernel) (by decide +kernel)
theorem kim_X9_now : Cond.instanceMethod yX9_now ∈ gAll := gAll_of 511 (by decide +kernel) (by decide +kernel)
theorem kse_X9_now : Cond.selects RX9 yX9_now yX9_now ∈ gAll := gAll_of 512 (by decide +kernel) (by decide +kernel)
theorem kv_L_36 : gVok RL 36 RX9 yX9_now cX9_now 2 (some .int) 1 := gVok_of (gAll_of 510 (by decide +kernel) (by decide +kernel)) kim_X9_now kse_X9_now kini_X9 kco_X9_now (by decide +kernel)
theorem kco_X0_tolledInAll : Cond.code yX0_tolledInAll cX0_tolledInAll 3 (some .int) ∈ gAll := gAll_of 517 (by decide +kernel) (by decide +kernel)
theorem kim_X0_tolledInAll : Cond.instanceMethod yX0_tolledInAll ∈ gAll := gAll_of 515 (by decide +kernel) (by decide +kernel)
theorem kse_X0_tolledInAll : Cond.selects RX0 yX0_tolledInAll yX0_tolledInAll ∈ gAll := gAll_of 516 (by decide +kernel) (by decide +kernel)
theorem kv_X9_157 : gVok RX9 157 RX0 yX0_tolledInAll cX0_tolledInAll 3 (some .int) 0 := gVok_of (gAll_of 514 (by decide +kernel) (by decide +kernel)) kim_X0_tolledInAll kse_X0_tolledInAll kini_X0 kco_X0_tolledInAll (by decide +kernel)
theorem kco_X0_worst : Cond.code yX0_worst cX0_worst 4 (some .int) ∈ gAll := gAll_of 521 (by decide +kernel) (by decide +kernel)
theorem kim_X0_worst : Cond.instanceMethod yX0_worst ∈ gAll := gAll_of 519 (by decide +kernel) (by decide +kernel)
theorem kse_X0_worst : Cond.selects RX0 yX0_worst yX0_worst ∈ gAll := gAll_of 520 (by decide +kernel) (by decide +kernel)
theorem kv_X9_160 : gVok RX9 160 RX0 yX0_worst cX0_worst 4 (some .int) 0 := gVok_of (gAll_of 518 (by decide +kernel) (by decide +kernel)) kim_X0_worst kse_X0_worst kini_X0 kco_X0_worst (by decide +kernel)
theorem kco_X0_nextRung : Cond.code yX0_nextRung cX0_nextRung 2 (some .int) ∈ gAll := gAll_of 525 (by decide +kernel) (by decide +kernel)
theorem kim_X0_nextRung : Cond.instanceMethod yX0_nextRung ∈ gAll := gAll_of 523 (by decide +kernel) (by decide +kernel)
theorem kse_X0_nextRung : Cond.selects RX0 yX0_nextRung yX0_nextRung ∈ gAll := gAll_of 524 (by decide +kernel) (by decide +kernel)
theorem kv_X9_163 : gVok RX9 163 RX0 yX0_nextRung cX0_nextRung 2 (some .int) 0 := gVok_of (gAll_of 522 (by decide +kernel) (by decide +kernel)) kim_X0_nextRung kse_X0_nextRung kini_X0 kco_X0_nextRung (by decide +kernel)
theorem kco_X9_goes : Cond.code yX9_goes cX9_goes 4 (some .int) ∈ gAll := gAll_of 529 (by decide +kernel) (by decide +kernel)
theorem kim_X9_goes : Cond.instanceMethod yX9_goes ∈ gAll := gAll_of 527 (by decide +kernel) (by decide +kernel)
theorem kse_X9_goes : Cond.selects RX9 yX9_goes yX9_goes ∈ gAll := gAll_of 528 (by decide +kernel) (by decide +kernel)
theorem kv_L_40 : gVok RL 40 RX9 yX9_goes cX9_goes 4 (some .int) 2 := gVok_of (gAll_of 526 (by decide +kernel) (by decide +kernel)) kim_X9_goes kse_X9_goes kini_X9 kco_X9_goes (by decide +kernel)
theorem kco_X4_isPlace : Cond.code yX4_isPlace cX4_isPlace 2 (some .boolean) ∈ gAll := gAll_of 533 (by decide +kernel) (by decide +kernel)
theorem kim_X4_isPlace : Cond.instanceMethod yX4_isPlace ∈ gAll := gAll_of 531 (by decide +kernel) (by decide +kernel)
theorem kse_X4_isPlace : Cond.selects RX4 yX4_isPlace yX4_isPlace ∈ gAll := gAll_of 532 (by decide +kernel) (by decide +kernel)
theorem kv_X9_169 : gVok RX9 169 RX4 yX4_isPlace cX4_isPlace 2 (some .boolean) 1 := gVok_of (gAll_of 530 (by decide +kernel) (by decide +kernel)) kim_X4_isPlace kse_X4_isPlace kini_X4 kco_X4_isPlace (by decide +kernel)
theorem kco_X2_remember : Cond.code yX2_remember cX2_remember 2 (none : Option Jvm.ClassFile.FieldType) ∈ gAll := gAll_of 537 (by decide +kernel) (by decide +kernel)
theorem kim_X2_remember : Cond.instanceMethod yX2_remember ∈ gAll := gAll_of 535 (by decide +kernel) (by decide +kernel)
theorem kse_X2_remember : Cond.selects RX2 yX2_remember yX2_remember ∈ gAll := gAll_of 536 (by decide +kernel) (by decide +kernel)
theorem kv_X9_172 : gVok RX9 172 RX2 yX2_remember cX2_remember 2 (none : Option Jvm.ClassFile.FieldType) 1 := gVok_of (gAll_of 534 (by decide +kernel) (by decide +kernel)) kim_X2_remember kse_X2_remember kini_X2 kco_X2_remember (by decide +kernel)
theorem kco_X3_take : Cond.code yX3_take cX3_take 2 (none : Option Jvm.ClassFile.FieldType) ∈ gAll := gAll_of 541 (by decide +kernel) (by decide +kernel)
theorem kim_X3_take : Cond.instanceMethod yX3_take ∈ gAll := gAll_of 539 (by decide +kernel) (by decide +kernel)
theorem kse_X3_take : Cond.selects RX3 yX3_take yX3_take ∈ gAll := gAll_of 540 (by decide +kernel) (by decide +kernel)
theorem kv_X2_22 : gVok RX2 22 RX3 yX3_take cX3_take 2 (none : Option Jvm.ClassFile.FieldType) 1 := gVok_of (gAll_of 538 (by decide +kernel) (by decide +kernel)) kim_X3_take kse_X3_take kini_X3 kco_X3_take (by decide +kernel)
theorem kml_X2_29 : Cond.methodLink RX2 29 Lib.Math.min.name ∈ gAll := gAll_of 542 (by decide +kernel) (by decide +kernel)
theorem kco_X4_minutesBetween : Cond.code yX4_minutesBetween cX4_minutesBetween 3 (some .int) ∈ gAll := gAll_of 546 (by decide +kernel) (by decide +kernel)
theorem kim_X4_minutesBetween : Cond.instanceMethod yX4_minutesBetween ∈ gAll := gAll_of 544 (by decide +kernel) (by decide +kernel)
theorem kse_X4_minutesBetween : Cond.selects RX4 yX4_minutesBetween yX4_minutesBetween ∈ gAll := gAll_of 545 (by decide +kernel) (by decide +kernel)
theorem kv_X9_176 : gVok RX9 176 RX4 yX4_minutesBetween cX4_minutesBetween 3 (some .int) 2 := gVok_of (gAll_of 543 (by decide +kernel) (by decide +kernel)) kim_X4_minutesBetween kse_X4_minutesBetween kini_X4 kco_X4_minutesBetween (by decide +kernel)
theorem kst_abs : Cond.static Lib.Math.abs.name ∈ gAll := gAll_of 548 (by decide +kernel) (by decide +kernel)
theorem kco_abs : Cond.code Lib.Math.abs.name Lib.Math.abs.code 1 (some .int) ∈ gAll := gAll_of 549 (by decide +kernel) (by decide +kernel)
theorem kml_X4_49 : Cond.methodLink RX4 49 Lib.Math.abs.name ∈ gAll := gAll_of 547 (by decide +kernel) (by decide +kernel)
theorem kco_X9_passes : Cond.code yX9_passes cX9_passes 4 (some .int) ∈ gAll := gAll_of 553 (by decide +kernel) (by decide +kernel)
theorem kim_X9_passes : Cond.instanceMethod yX9_passes ∈ gAll := gAll_of 551 (by decide +kernel) (by decide +kernel)
theorem kse_X9_passes : Cond.selects RX9 yX9_passes yX9_passes ∈ gAll := gAll_of 552 (by decide +kernel) (by decide +kernel)
theorem kv_L_44 : gVok RL 44 RX9 yX9_passes cX9_passes 4 (some .int) 1 := gVok_of (gAll_of 550 (by decide +kernel) (by decide +kernel)) kim_X9_passes kse_X9_passes kini_X9 kco_X9_passes (by decide +kernel)
theorem kco_X0_passMinute : Cond.code yX0_passMinute cX0_passMinute 3 (some .int) ∈ gAll := gAll_of 557 (by decide +kernel) (by decide +kernel)
theorem kim_X0_passMinute : Cond.instanceMethod yX0_passMinute ∈ gAll := gAll_of 555 (by decide +kernel) (by decide +kernel)
theorem kse_X0_passMinute : Cond.selects RX0 yX0_passMinute yX0_passMinute ∈ gAll := gAll_of 556 (by decide +kernel) (by decide +kernel)
theorem kv_X9_179 : gVok RX9 179 RX0 yX0_passMinute cX0_passMinute 3 (some .int) 0 := gVok_of (gAll_of 554 (by decide +kernel) (by decide +kernel)) kim_X0_passMinute kse_X0_passMinute kini_X0 kco_X0_passMinute (by decide +kernel)
theorem kv_X0_89 : gVok RX0 89 RX0 yX0_rung cX0_rung 2 (some .int) 1 := gVok_of (gAll_of 558 (by decide +kernel) (by decide +kernel)) kim_X0_rung kse_X0_rung kini_X0 kco_X0_rung (by decide +kernel)
theorem kst_max : Cond.static Lib.Math.max.name ∈ gAll := gAll_of 560 (by decide +kernel) (by decide +kernel)
theorem kco_max : Cond.code Lib.Math.max.name Lib.Math.max.code 2 (some .int) ∈ gAll := gAll_of 561 (by decide +kernel) (by decide +kernel)
theorem kml_X0_98 : Cond.methodLink RX0 98 Lib.Math.max.name ∈ gAll := gAll_of 559 (by decide +kernel) (by decide +kernel)
theorem kco_J6_bitCount_0f7a4 : Cond.code yJ6_bitCount_0f7a4 cJ6_bitCount_0f7a4 1 (some .int) ∈ gAll := gAll_of 564 (by decide +kernel) (by decide +kernel)
theorem kst_J6_bitCount_0f7a4 : Cond.static yJ6_bitCount_0f7a4 ∈ gAll := gAll_of 563 (by decide +kernel) (by decide +kernel)
theorem ks_X0_101 : gSok RX0 101 yJ6_bitCount_0f7a4 cJ6_bitCount_0f7a4 1 (some .int) 1 := gSok_of (gAll_of 562 (by decide +kernel) (by decide +kernel)) kst_J6_bitCount_0f7a4 kini_J6 kco_J6_bitCount_0f7a4 (by decide +kernel)
theorem kco_X9_excuses : Cond.code yX9_excuses cX9_excuses 4 (some .int) ∈ gAll := gAll_of 571 (by decide +kernel) (by decide +kernel)
theorem kim_X9_excuses : Cond.instanceMethod yX9_excuses ∈ gAll := gAll_of 569 (by decide +kernel) (by decide +kernel)
theorem kse_X9_excuses : Cond.selects RX9 yX9_excuses yX9_excuses ∈ gAll := gAll_of 570 (by decide +kernel) (by decide +kernel)
theorem kv_L_48 : gVok RL 48 RX9 yX9_excuses cX9_excuses 4 (some .int) 2 := gVok_of (gAll_of 568 (by decide +kernel) (by decide +kernel)) kim_X9_excuses kse_X9_excuses kini_X9 kco_X9_excuses (by decide +kernel)
theorem kco_X9_isBit : Cond.code yX9_isBit cX9_isBit 1 (some .boolean) ∈ gAll := gAll_of 574 (by decide +kernel) (by decide +kernel)
theorem kst_X9_isBit : Cond.static yX9_isBit ∈ gAll := gAll_of 573 (by decide +kernel) (by decide +kernel)
theorem ks_X9_182 : gSok RX9 182 yX9_isBit cX9_isBit 1 (some .boolean) 1 := gSok_of (gAll_of 572 (by decide +kernel) (by decide +kernel)) kst_X9_isBit kini_X9 kco_X9_isBit (by decide +kernel)
theorem ks_X9_185 : gSok RX9 185 yJ6_bitCount_0f7a4 cJ6_bitCount_0f7a4 1 (some .int) 1 := gSok_of (gAll_of 575 (by decide +kernel) (by decide +kernel)) kst_J6_bitCount_0f7a4 kini_J6 kco_J6_bitCount_0f7a4 (by decide +kernel)
theorem kco_X9_swaps : Cond.code yX9_swaps cX9_swaps 5 (some .int) ∈ gAll := gAll_of 579 (by decide +kernel) (by decide +kernel)
theorem kim_X9_swaps : Cond.instanceMethod yX9_swaps ∈ gAll := gAll_of 577 (by decide +kernel) (by decide +kernel)
theorem kse_X9_swaps : Cond.selects RX9 yX9_swaps yX9_swaps ∈ gAll := gAll_of 578 (by decide +kernel) (by decide +kernel)
theorem kv_L_52 : gVok RL 52 RX9 yX9_swaps cX9_swaps 5 (some .int) 2 := gVok_of (gAll_of 576 (by decide +kernel) (by decide +kernel)) kim_X9_swaps kse_X9_swaps kini_X9 kco_X9_swaps (by decide +kernel)
theorem kco_X9_undo : Cond.code yX9_undo cX9_undo 1 (some .int) ∈ gAll := gAll_of 583 (by decide +kernel) (by decide +kernel)
theorem kim_X9_undo : Cond.instanceMethod yX9_undo ∈ gAll := gAll_of 581 (by decide +kernel) (by decide +kernel)
theorem kse_X9_undo : Cond.selects RX9 yX9_undo yX9_undo ∈ gAll := gAll_of 582 (by decide +kernel) (by decide +kernel)
theorem kv_L_56 : gVok RL 56 RX9 yX9_undo cX9_undo 1 (some .int) 0 := gVok_of (gAll_of 580 (by decide +kernel) (by decide +kernel)) kim_X9_undo kse_X9_undo kini_X9 kco_X9_undo (by decide +kernel)
theorem kco_X2_restore : Cond.code yX2_restore cX2_restore 2 (none : Option Jvm.ClassFile.FieldType) ∈ gAll := gAll_of 587 (by decide +kernel) (by decide +kernel)
theorem kim_X2_restore : Cond.instanceMethod yX2_restore ∈ gAll := gAll_of 585 (by decide +kernel) (by decide +kernel)
theorem kse_X2_restore : Cond.selects RX2 yX2_restore yX2_restore ∈ gAll := gAll_of 586 (by decide +kernel) (by decide +kernel)
theorem kv_X9_190 : gVok RX9 190 RX2 yX2_restore cX2_restore 2 (none : Option Jvm.ClassFile.FieldType) 1 := gVok_of (gAll_of 584 (by decide +kernel) (by decide +kernel)) kim_X2_restore kse_X2_restore kini_X2 kco_X2_restore (by decide +kernel)
theorem kco_X9_rings : Cond.code yX9_rings cX9_rings 2 (some .int) ∈ gAll := gAll_of 591 (by decide +kernel) (by decide +kernel)
theorem kim_X9_rings : Cond.instanceMethod yX9_rings ∈ gAll := gAll_of 589 (by decide +kernel) (by decide +kernel)
theorem kse_X9_rings : Cond.selects RX9 yX9_rings yX9_rings ∈ gAll := gAll_of 590 (by decide +kernel) (by decide +kernel)
theorem kv_L_60 : gVok RL 60 RX9 yX9_rings cX9_rings 2 (some .int) 1 := gVok_of (gAll_of 588 (by decide +kernel) (by decide +kernel)) kim_X9_rings kse_X9_rings kini_X9 kco_X9_rings (by decide +kernel)
theorem kco_X9_chord : Cond.code yX9_chord cX9_chord 3 (some .int) ∈ gAll := gAll_of 595 (by decide +kernel) (by decide +kernel)
theorem kim_X9_chord : Cond.instanceMethod yX9_chord ∈ gAll := gAll_of 593 (by decide +kernel) (by decide +kernel)
theorem kse_X9_chord : Cond.selects RX9 yX9_chord yX9_chord ∈ gAll := gAll_of 594 (by decide +kernel) (by decide +kernel)
theorem kv_L_64 : gVok RL 64 RX9 yX9_chord cX9_chord 3 (some .int) 2 := gVok_of (gAll_of 592 (by decide +kernel) (by decide +kernel)) kim_X9_chord kse_X9_chord kini_X9 kco_X9_chord (by decide +kernel)
theorem kco_X4_isSet : Cond.code yX4_isSet cX4_isSet 2 (some .boolean) ∈ gAll := gAll_of 599 (by decide +kernel) (by decide +kernel)
theorem kim_X4_isSet : Cond.instanceMethod yX4_isSet ∈ gAll := gAll_of 597 (by decide +kernel) (by decide +kernel)
theorem kse_X4_isSet : Cond.selects RX4 yX4_isSet yX4_isSet ∈ gAll := gAll_of 598 (by decide +kernel) (by decide +kernel)
theorem kv_X9_193 : gVok RX9 193 RX4 yX4_isSet cX4_isSet 2 (some .boolean) 1 := gVok_of (gAll_of 596 (by decide +kernel) (by decide +kernel)) kim_X4_isSet kse_X4_isSet kini_X4 kco_X4_isSet (by decide +kernel)
theorem kco_X0_chordMinutes : Cond.code yX0_chordMinutes cX0_chordMinutes 4 (some .int) ∈ gAll := gAll_of 603 (by decide +kernel) (by decide +kernel)
theorem kim_X0_chordMinutes : Cond.instanceMethod yX0_chordMinutes ∈ gAll := gAll_of 601 (by decide +kernel) (by decide +kernel)
theorem kse_X0_chordMinutes : Cond.selects RX0 yX0_chordMinutes yX0_chordMinutes ∈ gAll := gAll_of 602 (by decide +kernel) (by decide +kernel)
theorem kv_X9_196 : gVok RX9 196 RX0 yX0_chordMinutes cX0_chordMinutes 4 (some .int) 1 := gVok_of (gAll_of 600 (by decide +kernel) (by decide +kernel)) kim_X0_chordMinutes kse_X0_chordMinutes kini_X0 kco_X0_chordMinutes (by decide +kernel)
theorem kco_X0_chordFirst : Cond.code yX0_chordFirst cX0_chordFirst 3 (some .int) ∈ gAll := gAll_of 607 (by decide +kernel) (by decide +kernel)
theorem kim_X0_chordFirst : Cond.instanceMethod yX0_chordFirst ∈ gAll := gAll_of 605 (by decide +kernel) (by decide +kernel)
theorem kse_X0_chordFirst : Cond.selects RX0 yX0_chordFirst yX0_chordFirst ∈ gAll := gAll_of 606 (by decide +kernel) (by decide +kernel)
theorem kv_X9_199 : gVok RX9 199 RX0 yX0_chordFirst cX0_chordFirst 3 (some .int) 1 := gVok_of (gAll_of 604 (by decide +kernel) (by decide +kernel)) kim_X0_chordFirst kse_X0_chordFirst kini_X0 kco_X0_chordFirst (by decide +kernel)
theorem kco_X9_silence : Cond.code yX9_silence cX9_silence 2 (some .int) ∈ gAll := gAll_of 611 (by decide +kernel) (by decide +kernel)
theorem kim_X9_silence : Cond.instanceMethod yX9_silence ∈ gAll := gAll_of 609 (by decide +kernel) (by decide +kernel)
theorem kse_X9_silence : Cond.selects RX9 yX9_silence yX9_silence ∈ gAll := gAll_of 610 (by decide +kernel) (by decide +kernel)
theorem kv_L_68 : gVok RL 68 RX9 yX9_silence cX9_silence 2 (some .int) 1 := gVok_of (gAll_of 608 (by decide +kernel) (by decide +kernel)) kim_X9_silence kse_X9_silence kini_X9 kco_X9_silence (by decide +kernel)
theorem kco_X7_fewest : Cond.code yX7_fewest cX7_fewest 7 (some .int) ∈ gAll := gAll_of 615 (by decide +kernel) (by decide +kernel)
theorem kim_X7_fewest : Cond.instanceMethod yX7_fewest ∈ gAll := gAll_of 613 (by decide +kernel) (by decide +kernel)
theorem kse_X7_fewest : Cond.selects RX7 yX7_fewest yX7_fewest ∈ gAll := gAll_of 614 (by decide +kernel) (by decide +kernel)
theorem kv_X9_202 : gVok RX9 202 RX7 yX7_fewest cX7_fewest 7 (some .int) 2 := gVok_of (gAll_of 612 (by decide +kernel) (by decide +kernel)) kim_X7_fewest kse_X7_fewest kini_X7 kco_X7_fewest (by decide +kernel)
theorem kco_X7_dutiesOfSet : Cond.code yX7_dutiesOfSet cX7_dutiesOfSet 5 (some .int) ∈ gAll := gAll_of 619 (by decide +kernel) (by decide +kernel)
theorem kim_X7_dutiesOfSet : Cond.instanceMethod yX7_dutiesOfSet ∈ gAll := gAll_of 618 (by decide +kernel) (by decide +kernel)
theorem kse_X7_dutiesOfSet : Cond.selects RX7 yX7_dutiesOfSet yX7_dutiesOfSet ∈ gAll := gAll_of 11 (by decide +kernel) (by decide +kernel)
theorem kv_X7_15 : gVok RX7 15 RX7 yX7_dutiesOfSet cX7_dutiesOfSet 5 (some .int) 2 := gVok_of (gAll_of 616 (by decide +kernel) (by decide +kernel)) kim_X7_dutiesOfSet kse_X7_dutiesOfSet kini_X7 kco_X7_dutiesOfSet (by decide +kernel)
theorem kco_X0_dutiesOf : Cond.code yX0_dutiesOf cX0_dutiesOf 4 (some .int) ∈ gAll := gAll_of 624 (by decide +kernel) (by decide +kernel)
theorem kim_X0_dutiesOf : Cond.instanceMethod yX0_dutiesOf ∈ gAll := gAll_of 622 (by decide +kernel) (by decide +kernel)
theorem kse_X0_dutiesOf : Cond.selects RX0 yX0_dutiesOf yX0_dutiesOf ∈ gAll := gAll_of 623 (by decide +kernel) (by decide +kernel)
theorem kv_X7_49 : gVok RX7 49 RX0 yX0_dutiesOf cX0_dutiesOf 4 (some .int) 1 := gVok_of (gAll_of 621 (by decide +kernel) (by decide +kernel)) kim_X0_dutiesOf kse_X0_dutiesOf kini_X0 kco_X0_dutiesOf (by decide +kernel)
theorem kco_X7_noteMinutes : Cond.code yX7_noteMinutes cX7_noteMinutes 7 (none : Option Jvm.ClassFile.FieldType) ∈ gAll := gAll_of 628 (by decide +kernel) (by decide +kernel)
theorem kim_X7_noteMinutes : Cond.instanceMethod yX7_noteMinutes ∈ gAll := gAll_of 627 (by decide +kernel) (by decide +kernel)
theorem kse_X7_noteMinutes : Cond.selects RX7 yX7_noteMinutes yX7_noteMinutes ∈ gAll := gAll_of 12 (by decide +kernel) (by decide +kernel)
theorem kv_X7_19 : gVok RX7 19 RX7 yX7_noteMinutes cX7_noteMinutes 7 (none : Option Jvm.ClassFile.FieldType) 3 := gVok_of (gAll_of 625 (by decide +kernel) (by decide +kernel)) kim_X7_noteMinutes kse_X7_noteMinutes kini_X7 kco_X7_noteMinutes (by decide +kernel)
theorem kv_X7_64 : gVok RX7 64 RX0 yX0_dutiesRung cX0_dutiesRung 4 (some .int) 1 := gVok_of (gAll_of 629 (by decide +kernel) (by decide +kernel)) kim_X0_dutiesRung kse_X0_dutiesRung kini_X0 kco_X0_dutiesRung (by decide +kernel)
theorem kco_X7_silences : Cond.code yX7_silences cX7_silences 5 (some .boolean) ∈ gAll := gAll_of 633 (by decide +kernel) (by decide +kernel)
theorem kim_X7_silences : Cond.instanceMethod yX7_silences ∈ gAll := gAll_of 632 (by decide +kernel) (by decide +kernel)
theorem kse_X7_silences : Cond.selects RX7 yX7_silences yX7_silences ∈ gAll := gAll_of 13 (by decide +kernel) (by decide +kernel)
theorem kv_X7_67 : gVok RX7 67 RX7 yX7_silences cX7_silences 5 (some .boolean) 4 := gVok_of (gAll_of 630 (by decide +kernel) (by decide +kernel)) kim_X7_silences kse_X7_silences kini_X7 kco_X7_silences (by decide +kernel)
theorem kv_X7_71 : gVok RX7 71 RX0 yX0_owners cX0_owners 4 (some .int) 1 := gVok_of (gAll_of 634 (by decide +kernel) (by decide +kernel)) kim_X0_owners kse_X0_owners kini_X0 kco_X0_owners (by decide +kernel)
theorem ks_X7_23 : gSok RX7 23 yJ6_bitCount_0f7a4 cJ6_bitCount_0f7a4 1 (some .int) 1 := gSok_of (gAll_of 635 (by decide +kernel) (by decide +kernel)) kst_J6_bitCount_0f7a4 kini_J6 kco_J6_bitCount_0f7a4 (by decide +kernel)
theorem kco_X7_silencesAll : Cond.code yX7_silencesAll cX7_silencesAll 5 (some .boolean) ∈ gAll := gAll_of 639 (by decide +kernel) (by decide +kernel)
theorem kim_X7_silencesAll : Cond.instanceMethod yX7_silencesAll ∈ gAll := gAll_of 638 (by decide +kernel) (by decide +kernel)
theorem kse_X7_silencesAll : Cond.selects RX7 yX7_silencesAll yX7_silencesAll ∈ gAll := gAll_of 14 (by decide +kernel) (by decide +kernel)
theorem kv_X7_29 : gVok RX7 29 RX7 yX7_silencesAll cX7_silencesAll 5 (some .boolean) 3 := gVok_of (gAll_of 636 (by decide +kernel) (by decide +kernel)) kim_X7_silencesAll kse_X7_silencesAll kini_X7 kco_X7_silencesAll (by decide +kernel)
theorem kco_X9_least : Cond.code yX9_least cX9_least 3 (some .int) ∈ gAll := gAll_of 643 (by decide +kernel) (by decide +kernel)
theorem kim_X9_least : Cond.instanceMethod yX9_least ∈ gAll := gAll_of 641 (by decide +kernel) (by decide +kernel)
theorem kse_X9_least : Cond.selects RX9 yX9_least yX9_least ∈ gAll := gAll_of 642 (by decide +kernel) (by decide +kernel)
theorem kv_L_72 : gVok RL 72 RX9 yX9_least cX9_least 3 (some .int) 2 := gVok_of (gAll_of 640 (by decide +kernel) (by decide +kernel)) kim_X9_least kse_X9_least kini_X9 kco_X9_least (by decide +kernel)
theorem kco_X8_weigh : Cond.code yX8_weigh cX8_weigh 5 (none : Option Jvm.ClassFile.FieldType) ∈ gAll := gAll_of 647 (by decide +kernel) (by decide +kernel)
theorem kim_X8_weigh : Cond.instanceMethod yX8_weigh ∈ gAll := gAll_of 645 (by decide +kernel) (by decide +kernel)
theorem kse_X8_weigh : Cond.selects RX8 yX8_weigh yX8_weigh ∈ gAll := gAll_of 646 (by decide +kernel) (by decide +kernel)
theorem kv_X9_206 : gVok RX9 206 RX8 yX8_weigh cX8_weigh 5 (none : Option Jvm.ClassFile.FieldType) 2 := gVok_of (gAll_of 644 (by decide +kernel) (by decide +kernel)) kim_X8_weigh kse_X8_weigh kini_X8 kco_X8_weigh (by decide +kernel)
theorem kco_X0_dueAt : Cond.code yX0_dueAt cX0_dueAt 5 (some .int) ∈ gAll := gAll_of 651 (by decide +kernel) (by decide +kernel)
theorem kim_X0_dueAt : Cond.instanceMethod yX0_dueAt ∈ gAll := gAll_of 649 (by decide +kernel) (by decide +kernel)
theorem kse_X0_dueAt : Cond.selects RX0 yX0_dueAt yX0_dueAt ∈ gAll := gAll_of 650 (by decide +kernel) (by decide +kernel)
theorem kv_X8_33 : gVok RX8 33 RX0 yX0_dueAt cX0_dueAt 5 (some .int) 2 := gVok_of (gAll_of 648 (by decide +kernel) (by decide +kernel)) kim_X0_dueAt kse_X0_dueAt kini_X0 kco_X0_dueAt (by decide +kernel)
theorem kco_X8_fewestFrom : Cond.code yX8_fewestFrom cX8_fewestFrom 5 (some .int) ∈ gAll := gAll_of 655 (by decide +kernel) (by decide +kernel)
theorem kim_X8_fewestFrom : Cond.instanceMethod yX8_fewestFrom ∈ gAll := gAll_of 654 (by decide +kernel) (by decide +kernel)
theorem kse_X8_fewestFrom : Cond.selects RX8 yX8_fewestFrom yX8_fewestFrom ∈ gAll := gAll_of 15 (by decide +kernel) (by decide +kernel)
theorem kv_X8_46 : gVok RX8 46 RX8 yX8_fewestFrom cX8_fewestFrom 5 (some .int) 3 := gVok_of (gAll_of 652 (by decide +kernel) (by decide +kernel)) kim_X8_fewestFrom kse_X8_fewestFrom kini_X8 kco_X8_fewestFrom (by decide +kernel)
theorem kco_X8_tolls : Cond.code yX8_tolls cX8_tolls 6 (some .int) ∈ gAll := gAll_of 659 (by decide +kernel) (by decide +kernel)
theorem kim_X8_tolls : Cond.instanceMethod yX8_tolls ∈ gAll := gAll_of 658 (by decide +kernel) (by decide +kernel)
theorem kse_X8_tolls : Cond.selects RX8 yX8_tolls yX8_tolls ∈ gAll := gAll_of 16 (by decide +kernel) (by decide +kernel)
theorem kv_X8_50 : gVok RX8 50 RX8 yX8_tolls cX8_tolls 6 (some .int) 4 := gVok_of (gAll_of 656 (by decide +kernel) (by decide +kernel)) kim_X8_tolls kse_X8_tolls kini_X8 kco_X8_tolls (by decide +kernel)
theorem kv_X8_59 : gVok RX8 59 RX4 yX4_minutesBetween cX4_minutesBetween 3 (some .int) 2 := gVok_of (gAll_of 660 (by decide +kernel) (by decide +kernel)) kim_X4_minutesBetween kse_X4_minutesBetween kini_X4 kco_X4_minutesBetween (by decide +kernel)
theorem kco_X8_tollsArriving : Cond.code yX8_tollsArriving cX8_tollsArriving 5 (some .int) ∈ gAll := gAll_of 664 (by decide +kernel) (by decide +kernel)
theorem kim_X8_tollsArriving : Cond.instanceMethod yX8_tollsArriving ∈ gAll := gAll_of 663 (by decide +kernel) (by decide +kernel)
theorem kse_X8_tollsArriving : Cond.selects RX8 yX8_tollsArriving yX8_tollsArriving ∈ gAll := gAll_of 17 (by decide +kernel) (by decide +kernel)
theorem kv_X8_62 : gVok RX8 62 RX8 yX8_tollsArriving cX8_tollsArriving 5 (some .int) 3 := gVok_of (gAll_of 661 (by decide +kernel) (by decide +kernel)) kim_X8_tollsArriving kse_X8_tollsArriving kini_X8 kco_X8_tollsArriving (by decide +kernel)
theorem kml_X8_54 : Cond.methodLink RX8 54 Lib.Math.min.name ∈ gAll := gAll_of 665 (by decide +kernel) (by decide +kernel)
theorem kco_X8_fewestTolls : Cond.code yX8_fewestTolls cX8_fewestTolls 3 (some .int) ∈ gAll := gAll_of 669 (by decide +kernel) (by decide +kernel)
theorem kim_X8_fewestTolls : Cond.instanceMethod yX8_fewestTolls ∈ gAll := gAll_of 667 (by decide +kernel) (by decide +kernel)
theorem kse_X8_fewestTolls : Cond.selects RX8 yX8_fewestTolls yX8_fewestTolls ∈ gAll := gAll_of 668 (by decide +kernel) (by decide +kernel)
theorem kv_X9_210 : gVok RX9 210 RX8 yX8_fewestTolls cX8_fewestTolls 3 (some .int) 2 := gVok_of (gAll_of 666 (by decide +kernel) (by decide +kernel)) kim_X8_fewestTolls kse_X8_fewestTolls kini_X8 kco_X8_fewestTolls (by decide +kernel)
theorem kco_X8_bestPlace : Cond.code yX8_bestPlace cX8_bestPlace 7 (some .int) ∈ gAll := gAll_of 673 (by decide +kernel) (by decide +kernel)
theorem kim_X8_bestPlace : Cond.instanceMethod yX8_bestPlace ∈ gAll := gAll_of 671 (by decide +kernel) (by decide +kernel)
theorem kse_X8_bestPlace : Cond.selects RX8 yX8_bestPlace yX8_bestPlace ∈ gAll := gAll_of 672 (by decide +kernel) (by decide +kernel)
theorem kv_X9_214 : gVok RX9 214 RX8 yX8_bestPlace cX8_bestPlace 7 (some .int) 2 := gVok_of (gAll_of 670 (by decide +kernel) (by decide +kernel)) kim_X8_bestPlace kse_X8_bestPlace kini_X8 kco_X8_bestPlace (by decide +kernel)
theorem kv_X8_72 : gVok RX8 72 RX8 yX8_fewestTolls cX8_fewestTolls 3 (some .int) 2 := gVok_of (gAll_of 674 (by decide +kernel) (by decide +kernel)) kim_X8_fewestTolls kse_X8_fewestTolls kini_X8 kco_X8_fewestTolls (by decide +kernel)
theorem kco_X9_hears : Cond.code yX9_hears cX9_hears 4 (some .int) ∈ gAll := gAll_of 678 (by decide +kernel) (by decide +kernel)
theorem kim_X9_hears : Cond.instanceMethod yX9_hears ∈ gAll := gAll_of 676 (by decide +kernel) (by decide +kernel)
theorem kse_X9_hears : Cond.selects RX9 yX9_hears yX9_hears ∈ gAll := gAll_of 677 (by decide +kernel) (by decide +kernel)
theorem kv_L_76 : gVok RL 76 RX9 yX9_hears cX9_hears 4 (some .int) 3 := gVok_of (gAll_of 675 (by decide +kernel) (by decide +kernel)) kim_X9_hears kse_X9_hears kini_X9 kco_X9_hears (by decide +kernel)
theorem kco_X9_isMinute : Cond.code yX9_isMinute cX9_isMinute 1 (some .boolean) ∈ gAll := gAll_of 681 (by decide +kernel) (by decide +kernel)
theorem kst_X9_isMinute : Cond.static yX9_isMinute ∈ gAll := gAll_of 680 (by decide +kernel) (by decide +kernel)
theorem ks_X9_217 : gSok RX9 217 yX9_isMinute cX9_isMinute 1 (some .boolean) 1 := gSok_of (gAll_of 679 (by decide +kernel) (by decide +kernel)) kst_X9_isMinute kini_X9 kco_X9_isMinute (by decide +kernel)
theorem kco_X1_add : Cond.code yX1_add cX1_add 4 (some .boolean) ∈ gAll := gAll_of 685 (by decide +kernel) (by decide +kernel)
theorem kim_X1_add : Cond.instanceMethod yX1_add ∈ gAll := gAll_of 683 (by decide +kernel) (by decide +kernel)
theorem kse_X1_add : Cond.selects RX1 yX1_add yX1_add ∈ gAll := gAll_of 684 (by decide +kernel) (by decide +kernel)
theorem kv_X9_220 : gVok RX9 220 RX1 yX1_add cX1_add 4 (some .boolean) 3 := gVok_of (gAll_of 682 (by decide +kernel) (by decide +kernel)) kim_X1_add kse_X1_add kini_X1 kco_X1_add (by decide +kernel)
theorem kco_X9_forget : Cond.code yX9_forget cX9_forget 1 (some .int) ∈ gAll := gAll_of 689 (by decide +kernel) (by decide +kernel)
theorem kim_X9_forget : Cond.instanceMethod yX9_forget ∈ gAll := gAll_of 687 (by decide +kernel) (by decide +kernel)
theorem kse_X9_forget : Cond.selects RX9 yX9_forget yX9_forget ∈ gAll := gAll_of 688 (by decide +kernel) (by decide +kernel)
theorem kv_L_81 : gVok RL 81 RX9 yX9_forget cX9_forget 1 (some .int) 0 := gVok_of (gAll_of 686 (by decide +kernel) (by decide +kernel)) kim_X9_forget kse_X9_forget kini_X9 kco_X9_forget (by decide +kernel)
theorem kco_X9_can : Cond.code yX9_can cX9_can 2 (some .int) ∈ gAll := gAll_of 693 (by decide +kernel) (by decide +kernel)
theorem kim_X9_can : Cond.instanceMethod yX9_can ∈ gAll := gAll_of 691 (by decide +kernel) (by decide +kernel)
theorem kse_X9_can : Cond.selects RX9 yX9_can yX9_can ∈ gAll := gAll_of 692 (by decide +kernel) (by decide +kernel)
theorem kv_L_85 : gVok RL 85 RX9 yX9_can cX9_can 2 (some .int) 1 := gVok_of (gAll_of 690 (by decide +kernel) (by decide +kernel)) kim_X9_can kse_X9_can kini_X9 kco_X9_can (by decide +kernel)
theorem kco_X1_placesFor : Cond.code yX1_placesFor cX1_placesFor 5 (some .int) ∈ gAll := gAll_of 697 (by decide +kernel) (by decide +kernel)
theorem kim_X1_placesFor : Cond.instanceMethod yX1_placesFor ∈ gAll := gAll_of 695 (by decide +kernel) (by decide +kernel)
theorem kse_X1_placesFor : Cond.selects RX1 yX1_placesFor yX1_placesFor ∈ gAll := gAll_of 696 (by decide +kernel) (by decide +kernel)
theorem kv_X9_227 : gVok RX9 227 RX1 yX1_placesFor cX1_placesFor 5 (some .int) 2 := gVok_of (gAll_of 694 (by decide +kernel) (by decide +kernel)) kim_X1_placesFor kse_X1_placesFor kini_X1 kco_X1_placesFor (by decide +kernel)
theorem kco_X1_fits : Cond.code yX1_fits cX1_fits 5 (some .boolean) ∈ gAll := gAll_of 701 (by decide +kernel) (by decide +kernel)
theorem kim_X1_fits : Cond.instanceMethod yX1_fits ∈ gAll := gAll_of 700 (by decide +kernel) (by decide +kernel)
theorem kse_X1_fits : Cond.selects RX1 yX1_fits yX1_fits ∈ gAll := gAll_of 18 (by decide +kernel) (by decide +kernel)
theorem kv_X1_36 : gVok RX1 36 RX1 yX1_fits cX1_fits 5 (some .boolean) 3 := gVok_of (gAll_of 698 (by decide +kernel) (by decide +kernel)) kim_X1_fits kse_X1_fits kini_X1 kco_X1_fits (by decide +kernel)
theorem kco_X0_isRungAt : Cond.code yX0_isRungAt cX0_isRungAt 4 (some .boolean) ∈ gAll := gAll_of 705 (by decide +kernel) (by decide +kernel)
theorem kim_X0_isRungAt : Cond.instanceMethod yX0_isRungAt ∈ gAll := gAll_of 703 (by decide +kernel) (by decide +kernel)
theorem kse_X0_isRungAt : Cond.selects RX0 yX0_isRungAt yX0_isRungAt ∈ gAll := gAll_of 704 (by decide +kernel) (by decide +kernel)
theorem kv_X1_40 : gVok RX1 40 RX0 yX0_isRungAt cX0_isRungAt 4 (some .boolean) 3 := gVok_of (gAll_of 702 (by decide +kernel) (by decide +kernel)) kim_X0_isRungAt kse_X0_isRungAt kini_X0 kco_X0_isRungAt (by decide +kernel)
theorem kv_X0_68 : gVok RX0 68 RX0 yX0_dueAt cX0_dueAt 5 (some .int) 2 := gVok_of (gAll_of 706 (by decide +kernel) (by decide +kernel)) kim_X0_dueAt kse_X0_dueAt kini_X0 kco_X0_dueAt (by decide +kernel)
theorem kco_X9_tells : Cond.code yX9_tells cX9_tells 4 (some .int) ∈ gAll := gAll_of 710 (by decide +kernel) (by decide +kernel)
theorem kim_X9_tells : Cond.instanceMethod yX9_tells ∈ gAll := gAll_of 708 (by decide +kernel) (by decide +kernel)
theorem kse_X9_tells : Cond.selects RX9 yX9_tells yX9_tells ∈ gAll := gAll_of 709 (by decide +kernel) (by decide +kernel)
theorem kv_L_89 : gVok RL 89 RX9 yX9_tells cX9_tells 4 (some .int) 3 := gVok_of (gAll_of 707 (by decide +kernel) (by decide +kernel)) kim_X9_tells kse_X9_tells kini_X9 kco_X9_tells (by decide +kernel)
theorem kco_X0_firstUnlike : Cond.code yX0_firstUnlike cX0_firstUnlike 5 (some .int) ∈ gAll := gAll_of 714 (by decide +kernel) (by decide +kernel)
theorem kim_X0_firstUnlike : Cond.instanceMethod yX0_firstUnlike ∈ gAll := gAll_of 712 (by decide +kernel) (by decide +kernel)
theorem kse_X0_firstUnlike : Cond.selects RX0 yX0_firstUnlike yX0_firstUnlike ∈ gAll := gAll_of 713 (by decide +kernel) (by decide +kernel)
theorem kv_X9_230 : gVok RX9 230 RX0 yX0_firstUnlike cX0_firstUnlike 5 (some .int) 3 := gVok_of (gAll_of 711 (by decide +kernel) (by decide +kernel)) kim_X0_firstUnlike kse_X0_firstUnlike kini_X0 kco_X0_firstUnlike (by decide +kernel)
theorem kv_X0_106 : gVok RX0 106 RX0 yX0_isRungAt cX0_isRungAt 4 (some .boolean) 3 := gVok_of (gAll_of 715 (by decide +kernel) (by decide +kernel)) kim_X0_isRungAt kse_X0_isRungAt kini_X0 kco_X0_isRungAt (by decide +kernel)
theorem kco_X9_odds : Cond.code yX9_odds cX9_odds 9 (some .int) ∈ gAll := gAll_of 719 (by decide +kernel) (by decide +kernel)
theorem kim_X9_odds : Cond.instanceMethod yX9_odds ∈ gAll := gAll_of 717 (by decide +kernel) (by decide +kernel)
theorem kse_X9_odds : Cond.selects RX9 yX9_odds yX9_odds ∈ gAll := gAll_of 718 (by decide +kernel) (by decide +kernel)
theorem kv_L_93 : gVok RL 93 RX9 yX9_odds cX9_odds 9 (some .int) 4 := gVok_of (gAll_of 716 (by decide +kernel) (by decide +kernel)) kim_X9_odds kse_X9_odds kini_X9 kco_X9_odds (by decide +kernel)
theorem kco_X0_missedAtHome : Cond.code yX0_missedAtHome cX0_missedAtHome 5 (some .int) ∈ gAll := gAll_of 723 (by decide +kernel) (by decide +kernel)
theorem kim_X0_missedAtHome : Cond.instanceMethod yX0_missedAtHome ∈ gAll := gAll_of 721 (by decide +kernel) (by decide +kernel)
theorem kse_X0_missedAtHome : Cond.selects RX0 yX0_missedAtHome yX0_missedAtHome ∈ gAll := gAll_of 722 (by decide +kernel) (by decide +kernel)
theorem kv_X9_234 : gVok RX9 234 RX0 yX0_missedAtHome cX0_missedAtHome 5 (some .int) 2 := gVok_of (gAll_of 720 (by decide +kernel) (by decide +kernel)) kim_X0_missedAtHome kse_X0_missedAtHome kini_X0 kco_X0_missedAtHome (by decide +kernel)
theorem kco_X9_power : Cond.code yX9_power cX9_power 4 (some .int) ∈ gAll := gAll_of 726 (by decide +kernel) (by decide +kernel)
theorem kst_X9_power : Cond.static yX9_power ∈ gAll := gAll_of 725 (by decide +kernel) (by decide +kernel)
theorem ks_X9_237 : gSok RX9 237 yX9_power cX9_power 4 (some .int) 2 := gSok_of (gAll_of 724 (by decide +kernel) (by decide +kernel)) kst_X9_power kini_X9 kco_X9_power (by decide +kernel)
theorem kco_X9_greatestDivisor : Cond.code yX9_greatestDivisor cX9_greatestDivisor 6 (some .int) ∈ gAll := gAll_of 729 (by decide +kernel) (by decide +kernel)
theorem kst_X9_greatestDivisor : Cond.static yX9_greatestDivisor ∈ gAll := gAll_of 728 (by decide +kernel) (by decide +kernel)
theorem ks_X9_240 : gSok RX9 240 yX9_greatestDivisor cX9_greatestDivisor 6 (some .int) 2 := gSok_of (gAll_of 727 (by decide +kernel) (by decide +kernel)) kst_X9_greatestDivisor kini_X9 kco_X9_greatestDivisor (by decide +kernel)
theorem kml_X9_273 : Cond.methodLink RX9 273 Lib.Math.max.name ∈ gAll := gAll_of 730 (by decide +kernel) (by decide +kernel)
theorem kco_X9_rate : Cond.code yX9_rate cX9_rate 3 (some .int) ∈ gAll := gAll_of 734 (by decide +kernel) (by decide +kernel)
theorem kim_X9_rate : Cond.instanceMethod yX9_rate ∈ gAll := gAll_of 732 (by decide +kernel) (by decide +kernel)
theorem kse_X9_rate : Cond.selects RX9 yX9_rate yX9_rate ∈ gAll := gAll_of 733 (by decide +kernel) (by decide +kernel)
theorem kv_L_98 : gVok RL 98 RX9 yX9_rate cX9_rate 3 (some .int) 2 := gVok_of (gAll_of 731 (by decide +kernel) (by decide +kernel)) kim_X9_rate kse_X9_rate kini_X9 kco_X9_rate (by decide +kernel)
theorem kco_X5_as : Cond.code yX5_as cX5_as 4 (some .int) ∈ gAll := gAll_of 739 (by decide +kernel) (by decide +kernel)
theorem kim_X5_as : Cond.instanceMethod yX5_as ∈ gAll := gAll_of 737 (by decide +kernel) (by decide +kernel)
theorem kse_X5_as : Cond.selects RX5 yX5_as yX5_as ∈ gAll := gAll_of 738 (by decide +kernel) (by decide +kernel)
theorem kv_X9_244 : gVok RX9 244 RX5 yX5_as cX5_as 4 (some .int) 3 := gVok_of (gAll_of 736 (by decide +kernel) (by decide +kernel)) kim_X5_as kse_X5_as kini_X5 kco_X5_as (by decide +kernel)
theorem kco_X5_asWatch : Cond.code yX5_asWatch cX5_asWatch 3 (some .int) ∈ gAll := gAll_of 743 (by decide +kernel) (by decide +kernel)
theorem kim_X5_asWatch : Cond.instanceMethod yX5_asWatch ∈ gAll := gAll_of 742 (by decide +kernel) (by decide +kernel)
theorem kse_X5_asWatch : Cond.selects RX5 yX5_asWatch yX5_asWatch ∈ gAll := gAll_of 19 (by decide +kernel) (by decide +kernel)
theorem kv_X5_7 : gVok RX5 7 RX5 yX5_asWatch cX5_asWatch 3 (some .int) 2 := gVok_of (gAll_of 740 (by decide +kernel) (by decide +kernel)) kim_X5_asWatch kse_X5_asWatch kini_X5 kco_X5_asWatch (by decide +kernel)
theorem kco_X5_asDuty : Cond.code yX5_asDuty cX5_asDuty 3 (some .int) ∈ gAll := gAll_of 748 (by decide +kernel) (by decide +kernel)
theorem kim_X5_asDuty : Cond.instanceMethod yX5_asDuty ∈ gAll := gAll_of 747 (by decide +kernel) (by decide +kernel)
theorem kse_X5_asDuty : Cond.selects RX5 yX5_asDuty yX5_asDuty ∈ gAll := gAll_of 20 (by decide +kernel) (by decide +kernel)
theorem kv_X5_25 : gVok RX5 25 RX5 yX5_asDuty cX5_asDuty 3 (some .int) 2 := gVok_of (gAll_of 745 (by decide +kernel) (by decide +kernel)) kim_X5_asDuty kse_X5_asDuty kini_X5 kco_X5_asDuty (by decide +kernel)
theorem kco_X5_asSchool : Cond.code yX5_asSchool cX5_asSchool 4 (some .int) ∈ gAll := gAll_of 752 (by decide +kernel) (by decide +kernel)
theorem kim_X5_asSchool : Cond.instanceMethod yX5_asSchool ∈ gAll := gAll_of 751 (by decide +kernel) (by decide +kernel)
theorem kse_X5_asSchool : Cond.selects RX5 yX5_asSchool yX5_asSchool ∈ gAll := gAll_of 21 (by decide +kernel) (by decide +kernel)
theorem kv_X5_13 : gVok RX5 13 RX5 yX5_asSchool cX5_asSchool 4 (some .int) 2 := gVok_of (gAll_of 749 (by decide +kernel) (by decide +kernel)) kim_X5_asSchool kse_X5_asSchool kini_X5 kco_X5_asSchool (by decide +kernel)
theorem kco_X5_asChurch : Cond.code yX5_asChurch cX5_asChurch 3 (some .int) ∈ gAll := gAll_of 758 (by decide +kernel) (by decide +kernel)
theorem kim_X5_asChurch : Cond.instanceMethod yX5_asChurch ∈ gAll := gAll_of 757 (by decide +kernel) (by decide +kernel)
theorem kse_X5_asChurch : Cond.selects RX5 yX5_asChurch yX5_asChurch ∈ gAll := gAll_of 22 (by decide +kernel) (by decide +kernel)
theorem kv_X5_16 : gVok RX5 16 RX5 yX5_asChurch cX5_asChurch 3 (some .int) 2 := gVok_of (gAll_of 755 (by decide +kernel) (by decide +kernel)) kim_X5_asChurch kse_X5_asChurch kini_X5 kco_X5_asChurch (by decide +kernel)
theorem kco_X5_asHearth : Cond.code yX5_asHearth cX5_asHearth 3 (some .int) ∈ gAll := gAll_of 763 (by decide +kernel) (by decide +kernel)
theorem kim_X5_asHearth : Cond.instanceMethod yX5_asHearth ∈ gAll := gAll_of 762 (by decide +kernel) (by decide +kernel)
theorem kse_X5_asHearth : Cond.selects RX5 yX5_asHearth yX5_asHearth ∈ gAll := gAll_of 23 (by decide +kernel) (by decide +kernel)
theorem kv_X5_19 : gVok RX5 19 RX5 yX5_asHearth cX5_asHearth 3 (some .int) 2 := gVok_of (gAll_of 760 (by decide +kernel) (by decide +kernel)) kim_X5_asHearth kse_X5_asHearth kini_X5 kco_X5_asHearth (by decide +kernel)
theorem kco_X5_asMarket : Cond.code yX5_asMarket cX5_asMarket 3 (some .int) ∈ gAll := gAll_of 768 (by decide +kernel) (by decide +kernel)
theorem kim_X5_asMarket : Cond.instanceMethod yX5_asMarket ∈ gAll := gAll_of 767 (by decide +kernel) (by decide +kernel)
theorem kse_X5_asMarket : Cond.selects RX5 yX5_asMarket yX5_asMarket ∈ gAll := gAll_of 24 (by decide +kernel) (by decide +kernel)
theorem kv_X5_22 : gVok RX5 22 RX5 yX5_asMarket cX5_asMarket 3 (some .int) 2 := gVok_of (gAll_of 765 (by decide +kernel) (by decide +kernel)) kim_X5_asMarket kse_X5_asMarket kini_X5 kco_X5_asMarket (by decide +kernel)
theorem kco_X9_keep : Cond.code yX9_keep cX9_keep 2 (some .int) ∈ gAll := gAll_of 773 (by decide +kernel) (by decide +kernel)
theorem kim_X9_keep : Cond.instanceMethod yX9_keep ∈ gAll := gAll_of 771 (by decide +kernel) (by decide +kernel)
theorem kse_X9_keep : Cond.selects RX9 yX9_keep yX9_keep ∈ gAll := gAll_of 772 (by decide +kernel) (by decide +kernel)
theorem kv_L_102 : gVok RL 102 RX9 yX9_keep cX9_keep 2 (some .int) 1 := gVok_of (gAll_of 770 (by decide +kernel) (by decide +kernel)) kim_X9_keep kse_X9_keep kini_X9 kco_X9_keep (by decide +kernel)
theorem kco_X9_isImage : Cond.code yX9_isImage cX9_isImage 1 (some .boolean) ∈ gAll := gAll_of 776 (by decide +kernel) (by decide +kernel)
theorem kst_X9_isImage : Cond.static yX9_isImage ∈ gAll := gAll_of 775 (by decide +kernel) (by decide +kernel)
theorem ks_X9_248 : gSok RX9 248 yX9_isImage cX9_isImage 1 (some .boolean) 1 := gSok_of (gAll_of 774 (by decide +kernel) (by decide +kernel)) kst_X9_isImage kini_X9 kco_X9_isImage (by decide +kernel)
theorem kv_X9_251 : gVok RX9 251 RX3 yX3_take cX3_take 2 (none : Option Jvm.ClassFile.FieldType) 1 := gVok_of (gAll_of 777 (by decide +kernel) (by decide +kernel)) kim_X3_take kse_X3_take kini_X3 kco_X3_take (by decide +kernel)
theorem kco_X9_back : Cond.code yX9_back cX9_back 2 (some .int) ∈ gAll := gAll_of 781 (by decide +kernel) (by decide +kernel)
theorem kim_X9_back : Cond.instanceMethod yX9_back ∈ gAll := gAll_of 779 (by decide +kernel) (by decide +kernel)
theorem kse_X9_back : Cond.selects RX9 yX9_back yX9_back ∈ gAll := gAll_of 780 (by decide +kernel) (by decide +kernel)
theorem kv_L_106 : gVok RL 106 RX9 yX9_back cX9_back 2 (some .int) 1 := gVok_of (gAll_of 778 (by decide +kernel) (by decide +kernel)) kim_X9_back kse_X9_back kini_X9 kco_X9_back (by decide +kernel)
theorem kco_X9_count : Cond.code yX9_count cX9_count 2 (some .int) ∈ gAll := gAll_of 785 (by decide +kernel) (by decide +kernel)
theorem kim_X9_count : Cond.instanceMethod yX9_count ∈ gAll := gAll_of 783 (by decide +kernel) (by decide +kernel)
theorem kse_X9_count : Cond.selects RX9 yX9_count yX9_count ∈ gAll := gAll_of 784 (by decide +kernel) (by decide +kernel)
theorem kv_L_110 : gVok RL 110 RX9 yX9_count cX9_count 2 (some .int) 1 := gVok_of (gAll_of 782 (by decide +kernel) (by decide +kernel)) kim_X9_count kse_X9_count kini_X9 kco_X9_count (by decide +kernel)
theorem kco_X9_trace : Cond.code yX9_trace cX9_trace 1 (some .long) ∈ gAll := gAll_of 789 (by decide +kernel) (by decide +kernel)
theorem kim_X9_trace : Cond.instanceMethod yX9_trace ∈ gAll := gAll_of 787 (by decide +kernel) (by decide +kernel)
theorem kse_X9_trace : Cond.selects RX9 yX9_trace yX9_trace ∈ gAll := gAll_of 788 (by decide +kernel) (by decide +kernel)
theorem kv_L_114 : gVok RL 114 RX9 yX9_trace cX9_trace 1 (some .long) 0 := gVok_of (gAll_of 786 (by decide +kernel) (by decide +kernel)) kim_X9_trace kse_X9_trace kini_X9 kco_X9_trace (by decide +kernel)
theorem kco_X10_init : Cond.code yX10_init cX10_init 1 (none : Option Jvm.ClassFile.FieldType) ∈ gAll := gAll_of 794 (by decide +kernel) (by decide +kernel)
theorem kim_X10_init : Cond.instanceMethod yX10_init ∈ gAll := gAll_of 793 (by decide +kernel) (by decide +kernel)
theorem kml_L_12 : Cond.methodLink RL 12 yX10_init ∈ gAll := gAll_of 792 (by decide +kernel) (by decide +kernel)
theorem kml_X10_1 : Cond.methodLink RX10 1 objectInit ∈ gAll := gAll_of 795 (by decide +kernel) (by decide +kernel)
theorem kco_X10_begins : Cond.code yX10_begins cX10_begins 1 (none : Option Jvm.ClassFile.FieldType) ∈ gAll := gAll_of 799 (by decide +kernel) (by decide +kernel)
theorem kim_X10_begins : Cond.instanceMethod yX10_begins ∈ gAll := gAll_of 798 (by decide +kernel) (by decide +kernel)
theorem kse_X10_begins : Cond.selects RX10 yX10_begins yX10_begins ∈ gAll := gAll_of 25 (by decide +kernel) (by decide +kernel)
theorem kv_X10_56 : gVok RX10 56 RX10 yX10_begins cX10_begins 1 (none : Option Jvm.ClassFile.FieldType) 0 := gVok_of (gAll_of 796 (by decide +kernel) (by decide +kernel)) kim_X10_begins kse_X10_begins kini_X10 kco_X10_begins (by decide +kernel)
theorem kco_X10_settles : Cond.code yX10_settles cX10_settles 2 (none : Option Jvm.ClassFile.FieldType) ∈ gAll := gAll_of 803 (by decide +kernel) (by decide +kernel)
theorem kim_X10_settles : Cond.instanceMethod yX10_settles ∈ gAll := gAll_of 802 (by decide +kernel) (by decide +kernel)
theorem kse_X10_settles : Cond.selects RX10 yX10_settles yX10_settles ∈ gAll := gAll_of 26 (by decide +kernel) (by decide +kernel)
theorem kv_X10_59 : gVok RX10 59 RX10 yX10_settles cX10_settles 2 (none : Option Jvm.ClassFile.FieldType) 0 := gVok_of (gAll_of 800 (by decide +kernel) (by decide +kernel)) kim_X10_settles kse_X10_settles kini_X10 kco_X10_settles (by decide +kernel)
theorem kco_X10_type : Cond.code yX10_type cX10_type 2 (some .int) ∈ gAll := gAll_of 889 (by decide +kernel) (by decide +kernel)
theorem kim_X10_type : Cond.instanceMethod yX10_type ∈ gAll := gAll_of 887 (by decide +kernel) (by decide +kernel)
theorem kse_X10_type : Cond.selects RX10 yX10_type yX10_type ∈ gAll := gAll_of 888 (by decide +kernel) (by decide +kernel)
theorem kv_L_17 : gVok RL 17 RX10 yX10_type cX10_type 2 (some .int) 1 := gVok_of (gAll_of 886 (by decide +kernel) (by decide +kernel)) kim_X10_type kse_X10_type kini_X10 kco_X10_type (by decide +kernel)
theorem kco_X10_in : Cond.code yX10_in cX10_in 3 (some .boolean) ∈ gAll := gAll_of 892 (by decide +kernel) (by decide +kernel)
theorem kst_X10_in : Cond.static yX10_in ∈ gAll := gAll_of 891 (by decide +kernel) (by decide +kernel)
theorem ks_X10_66 : gSok RX10 66 yX10_in cX10_in 3 (some .boolean) 3 := gSok_of (gAll_of 890 (by decide +kernel) (by decide +kernel)) kst_X10_in kini_X10 kco_X10_in (by decide +kernel)
theorem kco_X10_clear : Cond.code yX10_clear cX10_clear 2 (some .int) ∈ gAll := gAll_of 896 (by decide +kernel) (by decide +kernel)
theorem kim_X10_clear : Cond.instanceMethod yX10_clear ∈ gAll := gAll_of 894 (by decide +kernel) (by decide +kernel)
theorem kse_X10_clear : Cond.selects RX10 yX10_clear yX10_clear ∈ gAll := gAll_of 895 (by decide +kernel) (by decide +kernel)
theorem kv_L_22 : gVok RL 22 RX10 yX10_clear cX10_clear 2 (some .int) 0 := gVok_of (gAll_of 893 (by decide +kernel) (by decide +kernel)) kim_X10_clear kse_X10_clear kini_X10 kco_X10_clear (by decide +kernel)
theorem kco_X10_town : Cond.code yX10_town cX10_town 3 (some .int) ∈ gAll := gAll_of 900 (by decide +kernel) (by decide +kernel)
theorem kim_X10_town : Cond.instanceMethod yX10_town ∈ gAll := gAll_of 898 (by decide +kernel) (by decide +kernel)
theorem kse_X10_town : Cond.selects RX10 yX10_town yX10_town ∈ gAll := gAll_of 899 (by decide +kernel) (by decide +kernel)
theorem kv_L_26 : gVok RL 26 RX10 yX10_town cX10_town 3 (some .int) 0 := gVok_of (gAll_of 897 (by decide +kernel) (by decide +kernel)) kim_X10_town kse_X10_town kini_X10 kco_X10_town (by decide +kernel)
theorem kco_X10_advances : Cond.code yX10_advances cX10_advances 2 (none : Option Jvm.ClassFile.FieldType) ∈ gAll := gAll_of 904 (by decide +kernel) (by decide +kernel)
theorem kim_X10_advances : Cond.instanceMethod yX10_advances ∈ gAll := gAll_of 903 (by decide +kernel) (by decide +kernel)
theorem kse_X10_advances : Cond.selects RX10 yX10_advances yX10_advances ∈ gAll := gAll_of 27 (by decide +kernel) (by decide +kernel)
theorem kv_X10_100 : gVok RX10 100 RX10 yX10_advances cX10_advances 2 (none : Option Jvm.ClassFile.FieldType) 0 := gVok_of (gAll_of 901 (by decide +kernel) (by decide +kernel)) kim_X10_advances kse_X10_advances kini_X10 kco_X10_advances (by decide +kernel)
theorem kco_X10_letterAt : Cond.code yX10_letterAt cX10_letterAt 2 (some .int) ∈ gAll := gAll_of 908 (by decide +kernel) (by decide +kernel)
theorem kim_X10_letterAt : Cond.instanceMethod yX10_letterAt ∈ gAll := gAll_of 907 (by decide +kernel) (by decide +kernel)
theorem kse_X10_letterAt : Cond.selects RX10 yX10_letterAt yX10_letterAt ∈ gAll := gAll_of 28 (by decide +kernel) (by decide +kernel)
theorem kv_X10_76 : gVok RX10 76 RX10 yX10_letterAt cX10_letterAt 2 (some .int) 1 := gVok_of (gAll_of 905 (by decide +kernel) (by decide +kernel)) kim_X10_letterAt kse_X10_letterAt kini_X10 kco_X10_letterAt (by decide +kernel)
theorem kco_X10_isLetter : Cond.code yX10_isLetter cX10_isLetter 1 (some .boolean) ∈ gAll := gAll_of 911 (by decide +kernel) (by decide +kernel)
theorem kst_X10_isLetter : Cond.static yX10_isLetter ∈ gAll := gAll_of 910 (by decide +kernel) (by decide +kernel)
theorem ks_X10_89 : gSok RX10 89 yX10_isLetter cX10_isLetter 1 (some .boolean) 1 := gSok_of (gAll_of 909 (by decide +kernel) (by decide +kernel)) kst_X10_isLetter kini_X10 kco_X10_isLetter (by decide +kernel)
theorem kco_X10_isWell : Cond.code yX10_isWell cX10_isWell 1 (some .boolean) ∈ gAll := gAll_of 915 (by decide +kernel) (by decide +kernel)
theorem kim_X10_isWell : Cond.instanceMethod yX10_isWell ∈ gAll := gAll_of 914 (by decide +kernel) (by decide +kernel)
theorem kse_X10_isWell : Cond.selects RX10 yX10_isWell yX10_isWell ∈ gAll := gAll_of 29 (by decide +kernel) (by decide +kernel)
theorem kv_X10_96 : gVok RX10 96 RX10 yX10_isWell cX10_isWell 1 (some .boolean) 0 := gVok_of (gAll_of 912 (by decide +kernel) (by decide +kernel)) kim_X10_isWell kse_X10_isWell kini_X10 kco_X10_isWell (by decide +kernel)
theorem kco_X10_mayBegin : Cond.code yX10_mayBegin cX10_mayBegin 2 (some .boolean) ∈ gAll := gAll_of 919 (by decide +kernel) (by decide +kernel)
theorem kim_X10_mayBegin : Cond.instanceMethod yX10_mayBegin ∈ gAll := gAll_of 918 (by decide +kernel) (by decide +kernel)
theorem kse_X10_mayBegin : Cond.selects RX10 yX10_mayBegin yX10_mayBegin ∈ gAll := gAll_of 30 (by decide +kernel) (by decide +kernel)
theorem kv_X10_114 : gVok RX10 114 RX10 yX10_mayBegin cX10_mayBegin 2 (some .boolean) 1 := gVok_of (gAll_of 916 (by decide +kernel) (by decide +kernel)) kim_X10_mayBegin kse_X10_mayBegin kini_X10 kco_X10_mayBegin (by decide +kernel)
theorem kco_X10_takes : Cond.code yX10_takes cX10_takes 3 (some .int) ∈ gAll := gAll_of 923 (by decide +kernel) (by decide +kernel)
theorem kim_X10_takes : Cond.instanceMethod yX10_takes ∈ gAll := gAll_of 922 (by decide +kernel) (by decide +kernel)
theorem kse_X10_takes : Cond.selects RX10 yX10_takes yX10_takes ∈ gAll := gAll_of 31 (by decide +kernel) (by decide +kernel)
theorem kv_X10_103 : gVok RX10 103 RX10 yX10_takes cX10_takes 3 (some .int) 1 := gVok_of (gAll_of 920 (by decide +kernel) (by decide +kernel)) kim_X10_takes kse_X10_takes kini_X10 kco_X10_takes (by decide +kernel)
theorem kco_X10_readsItem : Cond.code yX10_readsItem cX10_readsItem 4 (none : Option Jvm.ClassFile.FieldType) ∈ gAll := gAll_of 927 (by decide +kernel) (by decide +kernel)
theorem kim_X10_readsItem : Cond.instanceMethod yX10_readsItem ∈ gAll := gAll_of 926 (by decide +kernel) (by decide +kernel)
theorem kse_X10_readsItem : Cond.selects RX10 yX10_readsItem yX10_readsItem ∈ gAll := gAll_of 32 (by decide +kernel) (by decide +kernel)
theorem kv_X10_117 : gVok RX10 117 RX10 yX10_readsItem cX10_readsItem 4 (none : Option Jvm.ClassFile.FieldType) 1 := gVok_of (gAll_of 924 (by decide +kernel) (by decide +kernel)) kim_X10_readsItem kse_X10_readsItem kini_X10 kco_X10_readsItem (by decide +kernel)
theorem kco_X10_number : Cond.code yX10_number cX10_number 3 (some .int) ∈ gAll := gAll_of 931 (by decide +kernel) (by decide +kernel)
theorem kim_X10_number : Cond.instanceMethod yX10_number ∈ gAll := gAll_of 930 (by decide +kernel) (by decide +kernel)
theorem kse_X10_number : Cond.selects RX10 yX10_number yX10_number ∈ gAll := gAll_of 33 (by decide +kernel) (by decide +kernel)
theorem kv_X10_110 : gVok RX10 110 RX10 yX10_number cX10_number 3 (some .int) 2 := gVok_of (gAll_of 928 (by decide +kernel) (by decide +kernel)) kim_X10_number kse_X10_number kini_X10 kco_X10_number (by decide +kernel)
theorem kco_X10_person : Cond.code yX10_person cX10_person 3 (some .int) ∈ gAll := gAll_of 935 (by decide +kernel) (by decide +kernel)
theorem kim_X10_person : Cond.instanceMethod yX10_person ∈ gAll := gAll_of 933 (by decide +kernel) (by decide +kernel)
theorem kse_X10_person : Cond.selects RX10 yX10_person yX10_person ∈ gAll := gAll_of 934 (by decide +kernel) (by decide +kernel)
theorem kv_L_31 : gVok RL 31 RX10 yX10_person cX10_person 3 (some .int) 2 := gVok_of (gAll_of 932 (by decide +kernel) (by decide +kernel)) kim_X10_person kse_X10_person kini_X10 kco_X10_person (by decide +kernel)
theorem kco_X10_isPerson : Cond.code yX10_isPerson cX10_isPerson 2 (some .boolean) ∈ gAll := gAll_of 939 (by decide +kernel) (by decide +kernel)
theorem kim_X10_isPerson : Cond.instanceMethod yX10_isPerson ∈ gAll := gAll_of 938 (by decide +kernel) (by decide +kernel)
theorem kse_X10_isPerson : Cond.selects RX10 yX10_isPerson yX10_isPerson ∈ gAll := gAll_of 34 (by decide +kernel) (by decide +kernel)
theorem kv_X10_136 : gVok RX10 136 RX10 yX10_isPerson cX10_isPerson 2 (some .boolean) 1 := gVok_of (gAll_of 936 (by decide +kernel) (by decide +kernel)) kim_X10_isPerson kse_X10_isPerson kini_X10 kco_X10_isPerson (by decide +kernel)
theorem kco_X10_asNow : Cond.code yX10_asNow cX10_asNow 1 (none : Option Jvm.ClassFile.FieldType) ∈ gAll := gAll_of 943 (by decide +kernel) (by decide +kernel)
theorem kim_X10_asNow : Cond.instanceMethod yX10_asNow ∈ gAll := gAll_of 942 (by decide +kernel) (by decide +kernel)
theorem kse_X10_asNow : Cond.selects RX10 yX10_asNow yX10_asNow ∈ gAll := gAll_of 35 (by decide +kernel) (by decide +kernel)
theorem kv_X10_139 : gVok RX10 139 RX10 yX10_asNow cX10_asNow 1 (none : Option Jvm.ClassFile.FieldType) 0 := gVok_of (gAll_of 940 (by decide +kernel) (by decide +kernel)) kim_X10_asNow kse_X10_asNow kini_X10 kco_X10_asNow (by decide +kernel)
theorem kco_X10_placeIn : Cond.code yX10_placeIn cX10_placeIn 3 (some .int) ∈ gAll := gAll_of 947 (by decide +kernel) (by decide +kernel)
theorem kim_X10_placeIn : Cond.instanceMethod yX10_placeIn ∈ gAll := gAll_of 946 (by decide +kernel) (by decide +kernel)
theorem kse_X10_placeIn : Cond.selects RX10 yX10_placeIn yX10_placeIn ∈ gAll := gAll_of 36 (by decide +kernel) (by decide +kernel)
theorem kv_X10_130 : gVok RX10 130 RX10 yX10_placeIn cX10_placeIn 3 (some .int) 2 := gVok_of (gAll_of 944 (by decide +kernel) (by decide +kernel)) kim_X10_placeIn kse_X10_placeIn kini_X10 kco_X10_placeIn (by decide +kernel)
theorem kco_X10_isRung : Cond.code yX10_isRung cX10_isRung 7 (some .boolean) ∈ gAll := gAll_of 951 (by decide +kernel) (by decide +kernel)
theorem kim_X10_isRung : Cond.instanceMethod yX10_isRung ∈ gAll := gAll_of 950 (by decide +kernel) (by decide +kernel)
theorem kse_X10_isRung : Cond.selects RX10 yX10_isRung yX10_isRung ∈ gAll := gAll_of 37 (by decide +kernel) (by decide +kernel)
theorem kv_X10_133 : gVok RX10 133 RX10 yX10_isRung cX10_isRung 7 (some .boolean) 3 := gVok_of (gAll_of 948 (by decide +kernel) (by decide +kernel)) kim_X10_isRung kse_X10_isRung kini_X10 kco_X10_isRung (by decide +kernel)
theorem kco_X10_duty : Cond.code yX10_duty cX10_duty 3 (some .int) ∈ gAll := gAll_of 955 (by decide +kernel) (by decide +kernel)
theorem kim_X10_duty : Cond.instanceMethod yX10_duty ∈ gAll := gAll_of 953 (by decide +kernel) (by decide +kernel)
theorem kse_X10_duty : Cond.selects RX10 yX10_duty yX10_duty ∈ gAll := gAll_of 954 (by decide +kernel) (by decide +kernel)
theorem kv_L_35 : gVok RL 35 RX10 yX10_duty cX10_duty 3 (some .int) 2 := gVok_of (gAll_of 952 (by decide +kernel) (by decide +kernel)) kim_X10_duty kse_X10_duty kini_X10 kco_X10_duty (by decide +kernel)
theorem kco_X10_isDuty : Cond.code yX10_isDuty cX10_isDuty 2 (some .boolean) ∈ gAll := gAll_of 959 (by decide +kernel) (by decide +kernel)
theorem kim_X10_isDuty : Cond.instanceMethod yX10_isDuty ∈ gAll := gAll_of 958 (by decide +kernel) (by decide +kernel)
theorem kse_X10_isDuty : Cond.selects RX10 yX10_isDuty yX10_isDuty ∈ gAll := gAll_of 38 (by decide +kernel) (by decide +kernel)
theorem kv_X10_142 : gVok RX10 142 RX10 yX10_isDuty cX10_isDuty 2 (some .boolean) 1 := gVok_of (gAll_of 956 (by decide +kernel) (by decide +kernel)) kim_X10_isDuty kse_X10_isDuty kini_X10 kco_X10_isDuty (by decide +kernel)
theorem kco_X10_now : Cond.code yX10_now cX10_now 4 (some .int) ∈ gAll := gAll_of 963 (by decide +kernel) (by decide +kernel)
theorem kim_X10_now : Cond.instanceMethod yX10_now ∈ gAll := gAll_of 961 (by decide +kernel) (by decide +kernel)
theorem kse_X10_now : Cond.selects RX10 yX10_now yX10_now ∈ gAll := gAll_of 962 (by decide +kernel) (by decide +kernel)
theorem kv_L_39 : gVok RL 39 RX10 yX10_now cX10_now 4 (some .int) 1 := gVok_of (gAll_of 960 (by decide +kernel) (by decide +kernel)) kim_X10_now kse_X10_now kini_X10 kco_X10_now (by decide +kernel)
theorem kco_X10_worst : Cond.code yX10_worst cX10_worst 3 (some .int) ∈ gAll := gAll_of 967 (by decide +kernel) (by decide +kernel)
theorem kim_X10_worst : Cond.instanceMethod yX10_worst ∈ gAll := gAll_of 966 (by decide +kernel) (by decide +kernel)
theorem kse_X10_worst : Cond.selects RX10 yX10_worst yX10_worst ∈ gAll := gAll_of 39 (by decide +kernel) (by decide +kernel)
theorem kv_X10_148 : gVok RX10 148 RX10 yX10_worst cX10_worst 3 (some .int) 0 := gVok_of (gAll_of 964 (by decide +kernel) (by decide +kernel)) kim_X10_worst kse_X10_worst kini_X10 kco_X10_worst (by decide +kernel)
theorem kco_X10_firstRung : Cond.code yX10_firstRung cX10_firstRung 2 (some .int) ∈ gAll := gAll_of 971 (by decide +kernel) (by decide +kernel)
theorem kim_X10_firstRung : Cond.instanceMethod yX10_firstRung ∈ gAll := gAll_of 970 (by decide +kernel) (by decide +kernel)
theorem kse_X10_firstRung : Cond.selects RX10 yX10_firstRung yX10_firstRung ∈ gAll := gAll_of 40 (by decide +kernel) (by decide +kernel)
theorem kv_X10_152 : gVok RX10 152 RX10 yX10_firstRung cX10_firstRung 2 (some .int) 0 := gVok_of (gAll_of 968 (by decide +kernel) (by decide +kernel)) kim_X10_firstRung kse_X10_firstRung kini_X10 kco_X10_firstRung (by decide +kernel)
theorem kco_X10_ringsIn : Cond.code yX10_ringsIn cX10_ringsIn 4 (some .int) ∈ gAll := gAll_of 975 (by decide +kernel) (by decide +kernel)
theorem kim_X10_ringsIn : Cond.instanceMethod yX10_ringsIn ∈ gAll := gAll_of 974 (by decide +kernel) (by decide +kernel)
theorem kse_X10_ringsIn : Cond.selects RX10 yX10_ringsIn yX10_ringsIn ∈ gAll := gAll_of 41 (by decide +kernel) (by decide +kernel)
theorem kv_X10_145 : gVok RX10 145 RX10 yX10_ringsIn cX10_ringsIn 4 (some .int) 1 := gVok_of (gAll_of 972 (by decide +kernel) (by decide +kernel)) kim_X10_ringsIn kse_X10_ringsIn kini_X10 kco_X10_ringsIn (by decide +kernel)
theorem kco_X10_goes : Cond.code yX10_goes cX10_goes 3 (some .int) ∈ gAll := gAll_of 979 (by decide +kernel) (by decide +kernel)
theorem kim_X10_goes : Cond.instanceMethod yX10_goes ∈ gAll := gAll_of 977 (by decide +kernel) (by decide +kernel)
theorem kse_X10_goes : Cond.selects RX10 yX10_goes yX10_goes ∈ gAll := gAll_of 978 (by decide +kernel) (by decide +kernel)
theorem kv_L_43 : gVok RL 43 RX10 yX10_goes cX10_goes 3 (some .int) 2 := gVok_of (gAll_of 976 (by decide +kernel) (by decide +kernel)) kim_X10_goes kse_X10_goes kini_X10 kco_X10_goes (by decide +kernel)
theorem kco_X10_isPlace : Cond.code yX10_isPlace cX10_isPlace 2 (some .boolean) ∈ gAll := gAll_of 983 (by decide +kernel) (by decide +kernel)
theorem kim_X10_isPlace : Cond.instanceMethod yX10_isPlace ∈ gAll := gAll_of 982 (by decide +kernel) (by decide +kernel)
theorem kse_X10_isPlace : Cond.selects RX10 yX10_isPlace yX10_isPlace ∈ gAll := gAll_of 42 (by decide +kernel) (by decide +kernel)
theorem kv_X10_155 : gVok RX10 155 RX10 yX10_isPlace cX10_isPlace 2 (some .boolean) 1 := gVok_of (gAll_of 980 (by decide +kernel) (by decide +kernel)) kim_X10_isPlace kse_X10_isPlace kini_X10 kco_X10_isPlace (by decide +kernel)
theorem kco_X10_notes : Cond.code yX10_notes cX10_notes 2 (none : Option Jvm.ClassFile.FieldType) ∈ gAll := gAll_of 987 (by decide +kernel) (by decide +kernel)
theorem kim_X10_notes : Cond.instanceMethod yX10_notes ∈ gAll := gAll_of 986 (by decide +kernel) (by decide +kernel)
theorem kse_X10_notes : Cond.selects RX10 yX10_notes yX10_notes ∈ gAll := gAll_of 43 (by decide +kernel) (by decide +kernel)
theorem kv_X10_158 : gVok RX10 158 RX10 yX10_notes cX10_notes 2 (none : Option Jvm.ClassFile.FieldType) 0 := gVok_of (gAll_of 984 (by decide +kernel) (by decide +kernel)) kim_X10_notes kse_X10_notes kini_X10 kco_X10_notes (by decide +kernel)
theorem kco_X10_walk : Cond.code yX10_walk cX10_walk 3 (some .int) ∈ gAll := gAll_of 991 (by decide +kernel) (by decide +kernel)
theorem kim_X10_walk : Cond.instanceMethod yX10_walk ∈ gAll := gAll_of 990 (by decide +kernel) (by decide +kernel)
theorem kse_X10_walk : Cond.selects RX10 yX10_walk yX10_walk ∈ gAll := gAll_of 44 (by decide +kernel) (by decide +kernel)
theorem kv_X10_161 : gVok RX10 161 RX10 yX10_walk cX10_walk 3 (some .int) 2 := gVok_of (gAll_of 988 (by decide +kernel) (by decide +kernel)) kim_X10_walk kse_X10_walk kini_X10 kco_X10_walk (by decide +kernel)
theorem kco_X10_passes : Cond.code yX10_passes cX10_passes 6 (some .int) ∈ gAll := gAll_of 995 (by decide +kernel) (by decide +kernel)
theorem kim_X10_passes : Cond.instanceMethod yX10_passes ∈ gAll := gAll_of 993 (by decide +kernel) (by decide +kernel)
theorem kse_X10_passes : Cond.selects RX10 yX10_passes yX10_passes ∈ gAll := gAll_of 994 (by decide +kernel) (by decide +kernel)
theorem kv_L_47 : gVok RL 47 RX10 yX10_passes cX10_passes 6 (some .int) 1 := gVok_of (gAll_of 992 (by decide +kernel) (by decide +kernel)) kim_X10_passes kse_X10_passes kini_X10 kco_X10_passes (by decide +kernel)
theorem kco_X10_ones : Cond.code yX10_ones cX10_ones 3 (some .int) ∈ gAll := gAll_of 998 (by decide +kernel) (by decide +kernel)
theorem kst_X10_ones : Cond.static yX10_ones ∈ gAll := gAll_of 997 (by decide +kernel) (by decide +kernel)
theorem ks_X10_164 : gSok RX10 164 yX10_ones cX10_ones 3 (some .int) 1 := gSok_of (gAll_of 996 (by decide +kernel) (by decide +kernel)) kst_X10_ones kini_X10 kco_X10_ones (by decide +kernel)
theorem kco_X10_excuses : Cond.code yX10_excuses cX10_excuses 3 (some .int) ∈ gAll := gAll_of 1002 (by decide +kernel) (by decide +kernel)
theorem kim_X10_excuses : Cond.instanceMethod yX10_excuses ∈ gAll := gAll_of 1000 (by decide +kernel) (by decide +kernel)
theorem kse_X10_excuses : Cond.selects RX10 yX10_excuses yX10_excuses ∈ gAll := gAll_of 1001 (by decide +kernel) (by decide +kernel)
theorem kv_L_51 : gVok RL 51 RX10 yX10_excuses cX10_excuses 3 (some .int) 2 := gVok_of (gAll_of 999 (by decide +kernel) (by decide +kernel)) kim_X10_excuses kse_X10_excuses kini_X10 kco_X10_excuses (by decide +kernel)
theorem kco_X10_swaps : Cond.code yX10_swaps cX10_swaps 4 (some .int) ∈ gAll := gAll_of 1006 (by decide +kernel) (by decide +kernel)
theorem kim_X10_swaps : Cond.instanceMethod yX10_swaps ∈ gAll := gAll_of 1004 (by decide +kernel) (by decide +kernel)
theorem kse_X10_swaps : Cond.selects RX10 yX10_swaps yX10_swaps ∈ gAll := gAll_of 1005 (by decide +kernel) (by decide +kernel)
theorem kv_L_55 : gVok RL 55 RX10 yX10_swaps cX10_swaps 4 (some .int) 2 := gVok_of (gAll_of 1003 (by decide +kernel) (by decide +kernel)) kim_X10_swaps kse_X10_swaps kini_X10 kco_X10_swaps (by decide +kernel)
theorem kco_X10_undo : Cond.code yX10_undo cX10_undo 2 (some .int) ∈ gAll := gAll_of 1010 (by decide +kernel) (by decide +kernel)
theorem kim_X10_undo : Cond.instanceMethod yX10_undo ∈ gAll := gAll_of 1008 (by decide +kernel) (by decide +kernel)
theorem kse_X10_undo : Cond.selects RX10 yX10_undo yX10_undo ∈ gAll := gAll_of 1009 (by decide +kernel) (by decide +kernel)
theorem kv_L_59 : gVok RL 59 RX10 yX10_undo cX10_undo 2 (some .int) 0 := gVok_of (gAll_of 1007 (by decide +kernel) (by decide +kernel)) kim_X10_undo kse_X10_undo kini_X10 kco_X10_undo (by decide +kernel)
theorem kco_X10_rings : Cond.code yX10_rings cX10_rings 2 (some .int) ∈ gAll := gAll_of 1014 (by decide +kernel) (by decide +kernel)
theorem kim_X10_rings : Cond.instanceMethod yX10_rings ∈ gAll := gAll_of 1012 (by decide +kernel) (by decide +kernel)
theorem kse_X10_rings : Cond.selects RX10 yX10_rings yX10_rings ∈ gAll := gAll_of 1013 (by decide +kernel) (by decide +kernel)
theorem kv_L_63 : gVok RL 63 RX10 yX10_rings cX10_rings 2 (some .int) 1 := gVok_of (gAll_of 1011 (by decide +kernel) (by decide +kernel)) kim_X10_rings kse_X10_rings kini_X10 kco_X10_rings (by decide +kernel)
theorem kco_X10_chord : Cond.code yX10_chord cX10_chord 6 (some .int) ∈ gAll := gAll_of 1018 (by decide +kernel) (by decide +kernel)
theorem kim_X10_chord : Cond.instanceMethod yX10_chord ∈ gAll := gAll_of 1016 (by decide +kernel) (by decide +kernel)
theorem kse_X10_chord : Cond.selects RX10 yX10_chord yX10_chord ∈ gAll := gAll_of 1017 (by decide +kernel) (by decide +kernel)
theorem kv_L_67 : gVok RL 67 RX10 yX10_chord cX10_chord 6 (some .int) 2 := gVok_of (gAll_of 1015 (by decide +kernel) (by decide +kernel)) kim_X10_chord kse_X10_chord kini_X10 kco_X10_chord (by decide +kernel)
theorem kco_X10_isSet : Cond.code yX10_isSet cX10_isSet 2 (some .boolean) ∈ gAll := gAll_of 1022 (by decide +kernel) (by decide +kernel)
theorem kim_X10_isSet : Cond.instanceMethod yX10_isSet ∈ gAll := gAll_of 1021 (by decide +kernel) (by decide +kernel)
theorem kse_X10_isSet : Cond.selects RX10 yX10_isSet yX10_isSet ∈ gAll := gAll_of 45 (by decide +kernel) (by decide +kernel)
theorem kv_X10_167 : gVok RX10 167 RX10 yX10_isSet cX10_isSet 2 (some .boolean) 1 := gVok_of (gAll_of 1019 (by decide +kernel) (by decide +kernel)) kim_X10_isSet kse_X10_isSet kini_X10 kco_X10_isSet (by decide +kernel)
theorem kco_X10_silence : Cond.code yX10_silence cX10_silence 4 (some .int) ∈ gAll := gAll_of 1026 (by decide +kernel) (by decide +kernel)
theorem kim_X10_silence : Cond.instanceMethod yX10_silence ∈ gAll := gAll_of 1024 (by decide +kernel) (by decide +kernel)
theorem kse_X10_silence : Cond.selects RX10 yX10_silence yX10_silence ∈ gAll := gAll_of 1025 (by decide +kernel) (by decide +kernel)
theorem kv_L_71 : gVok RL 71 RX10 yX10_silence cX10_silence 4 (some .int) 1 := gVok_of (gAll_of 1023 (by decide +kernel) (by decide +kernel)) kim_X10_silence kse_X10_silence kini_X10 kco_X10_silence (by decide +kernel)
theorem kco_X10_isSilent : Cond.code yX10_isSilent cX10_isSilent 3 (some .boolean) ∈ gAll := gAll_of 1030 (by decide +kernel) (by decide +kernel)
theorem kim_X10_isSilent : Cond.instanceMethod yX10_isSilent ∈ gAll := gAll_of 1029 (by decide +kernel) (by decide +kernel)
theorem kse_X10_isSilent : Cond.selects RX10 yX10_isSilent yX10_isSilent ∈ gAll := gAll_of 46 (by decide +kernel) (by decide +kernel)
theorem kv_X10_170 : gVok RX10 170 RX10 yX10_isSilent cX10_isSilent 3 (some .boolean) 1 := gVok_of (gAll_of 1027 (by decide +kernel) (by decide +kernel)) kim_X10_isSilent kse_X10_isSilent kini_X10 kco_X10_isSilent (by decide +kernel)
theorem kco_X10_least : Cond.code yX10_least cX10_least 5 (some .int) ∈ gAll := gAll_of 1034 (by decide +kernel) (by decide +kernel)
theorem kim_X10_least : Cond.instanceMethod yX10_least ∈ gAll := gAll_of 1032 (by decide +kernel) (by decide +kernel)
theorem kse_X10_least : Cond.selects RX10 yX10_least yX10_least ∈ gAll := gAll_of 1033 (by decide +kernel) (by decide +kernel)
theorem kv_L_75 : gVok RL 75 RX10 yX10_least cX10_least 5 (some .int) 2 := gVok_of (gAll_of 1031 (by decide +kernel) (by decide +kernel)) kim_X10_least kse_X10_least kini_X10 kco_X10_least (by decide +kernel)
theorem kco_X10_measures : Cond.code yX10_measures cX10_measures 7 (none : Option Jvm.ClassFile.FieldType) ∈ gAll := gAll_of 1038 (by decide +kernel) (by decide +kernel)
theorem kim_X10_measures : Cond.instanceMethod yX10_measures ∈ gAll := gAll_of 1037 (by decide +kernel) (by decide +kernel)
theorem kse_X10_measures : Cond.selects RX10 yX10_measures yX10_measures ∈ gAll := gAll_of 47 (by decide +kernel) (by decide +kernel)
theorem kv_X10_181 : gVok RX10 181 RX10 yX10_measures cX10_measures 7 (none : Option Jvm.ClassFile.FieldType) 1 := gVok_of (gAll_of 1035 (by decide +kernel) (by decide +kernel)) kim_X10_measures kse_X10_measures kini_X10 kco_X10_measures (by decide +kernel)
theorem kco_X10_costBy : Cond.code yX10_costBy cX10_costBy 5 (some .int) ∈ gAll := gAll_of 1043 (by decide +kernel) (by decide +kernel)
theorem kim_X10_costBy : Cond.instanceMethod yX10_costBy ∈ gAll := gAll_of 1042 (by decide +kernel) (by decide +kernel)
theorem kse_X10_costBy : Cond.selects RX10 yX10_costBy yX10_costBy ∈ gAll := gAll_of 48 (by decide +kernel) (by decide +kernel)
theorem kv_X10_178 : gVok RX10 178 RX10 yX10_costBy cX10_costBy 5 (some .int) 4 := gVok_of (gAll_of 1040 (by decide +kernel) (by decide +kernel)) kim_X10_costBy kse_X10_costBy kini_X10 kco_X10_costBy (by decide +kernel)
theorem kco_X10_onWay : Cond.code yX10_onWay cX10_onWay 7 (some .int) ∈ gAll := gAll_of 1047 (by decide +kernel) (by decide +kernel)
theorem kim_X10_onWay : Cond.instanceMethod yX10_onWay ∈ gAll := gAll_of 1046 (by decide +kernel) (by decide +kernel)
theorem kse_X10_onWay : Cond.selects RX10 yX10_onWay yX10_onWay ∈ gAll := gAll_of 49 (by decide +kernel) (by decide +kernel)
theorem kv_X10_173 : gVok RX10 173 RX10 yX10_onWay cX10_onWay 7 (some .int) 4 := gVok_of (gAll_of 1044 (by decide +kernel) (by decide +kernel)) kim_X10_onWay kse_X10_onWay kini_X10 kco_X10_onWay (by decide +kernel)
theorem kco_X10_hears : Cond.code yX10_hears cX10_hears 4 (some .int) ∈ gAll := gAll_of 1051 (by decide +kernel) (by decide +kernel)
theorem kim_X10_hears : Cond.instanceMethod yX10_hears ∈ gAll := gAll_of 1049 (by decide +kernel) (by decide +kernel)
theorem kse_X10_hears : Cond.selects RX10 yX10_hears yX10_hears ∈ gAll := gAll_of 1050 (by decide +kernel) (by decide +kernel)
theorem kv_L_80 : gVok RL 80 RX10 yX10_hears cX10_hears 4 (some .int) 3 := gVok_of (gAll_of 1048 (by decide +kernel) (by decide +kernel)) kim_X10_hears kse_X10_hears kini_X10 kco_X10_hears (by decide +kernel)
theorem kco_X10_forget : Cond.code yX10_forget cX10_forget 2 (some .int) ∈ gAll := gAll_of 1055 (by decide +kernel) (by decide +kernel)
theorem kim_X10_forget : Cond.instanceMethod yX10_forget ∈ gAll := gAll_of 1053 (by decide +kernel) (by decide +kernel)
theorem kse_X10_forget : Cond.selects RX10 yX10_forget yX10_forget ∈ gAll := gAll_of 1054 (by decide +kernel) (by decide +kernel)
theorem kv_L_84 : gVok RL 84 RX10 yX10_forget cX10_forget 2 (some .int) 0 := gVok_of (gAll_of 1052 (by decide +kernel) (by decide +kernel)) kim_X10_forget kse_X10_forget kini_X10 kco_X10_forget (by decide +kernel)
theorem kco_X10_can : Cond.code yX10_can cX10_can 6 (some .int) ∈ gAll := gAll_of 1059 (by decide +kernel) (by decide +kernel)
theorem kim_X10_can : Cond.instanceMethod yX10_can ∈ gAll := gAll_of 1057 (by decide +kernel) (by decide +kernel)
theorem kse_X10_can : Cond.selects RX10 yX10_can yX10_can ∈ gAll := gAll_of 1058 (by decide +kernel) (by decide +kernel)
theorem kv_L_88 : gVok RL 88 RX10 yX10_can cX10_can 6 (some .int) 1 := gVok_of (gAll_of 1056 (by decide +kernel) (by decide +kernel)) kim_X10_can kse_X10_can kini_X10 kco_X10_can (by decide +kernel)
theorem kco_X10_tells : Cond.code yX10_tells cX10_tells 5 (some .int) ∈ gAll := gAll_of 1063 (by decide +kernel) (by decide +kernel)
theorem kim_X10_tells : Cond.instanceMethod yX10_tells ∈ gAll := gAll_of 1061 (by decide +kernel) (by decide +kernel)
theorem kse_X10_tells : Cond.selects RX10 yX10_tells yX10_tells ∈ gAll := gAll_of 1062 (by decide +kernel) (by decide +kernel)
theorem kv_L_92 : gVok RL 92 RX10 yX10_tells cX10_tells 5 (some .int) 3 := gVok_of (gAll_of 1060 (by decide +kernel) (by decide +kernel)) kim_X10_tells kse_X10_tells kini_X10 kco_X10_tells (by decide +kernel)
theorem kco_X10_odds : Cond.code yX10_odds cX10_odds 8 (some .int) ∈ gAll := gAll_of 1067 (by decide +kernel) (by decide +kernel)
theorem kim_X10_odds : Cond.instanceMethod yX10_odds ∈ gAll := gAll_of 1065 (by decide +kernel) (by decide +kernel)
theorem kse_X10_odds : Cond.selects RX10 yX10_odds yX10_odds ∈ gAll := gAll_of 1066 (by decide +kernel) (by decide +kernel)
theorem kv_L_97 : gVok RL 97 RX10 yX10_odds cX10_odds 8 (some .int) 4 := gVok_of (gAll_of 1064 (by decide +kernel) (by decide +kernel)) kim_X10_odds kse_X10_odds kini_X10 kco_X10_odds (by decide +kernel)
theorem kco_X10_gcd : Cond.code yX10_gcd cX10_gcd 5 (some .int) ∈ gAll := gAll_of 1070 (by decide +kernel) (by decide +kernel)
theorem kst_X10_gcd : Cond.static yX10_gcd ∈ gAll := gAll_of 1069 (by decide +kernel) (by decide +kernel)
theorem ks_X10_184 : gSok RX10 184 yX10_gcd cX10_gcd 5 (some .int) 2 := gSok_of (gAll_of 1068 (by decide +kernel) (by decide +kernel)) kst_X10_gcd kini_X10 kco_X10_gcd (by decide +kernel)
theorem kco_X10_rate : Cond.code yX10_rate cX10_rate 6 (some .int) ∈ gAll := gAll_of 1074 (by decide +kernel) (by decide +kernel)
theorem kim_X10_rate : Cond.instanceMethod yX10_rate ∈ gAll := gAll_of 1072 (by decide +kernel) (by decide +kernel)
theorem kse_X10_rate : Cond.selects RX10 yX10_rate yX10_rate ∈ gAll := gAll_of 1073 (by decide +kernel) (by decide +kernel)
theorem kv_L_101 : gVok RL 101 RX10 yX10_rate cX10_rate 6 (some .int) 2 := gVok_of (gAll_of 1071 (by decide +kernel) (by decide +kernel)) kim_X10_rate kse_X10_rate kini_X10 kco_X10_rate (by decide +kernel)
theorem kco_X10_keep : Cond.code yX10_keep cX10_keep 3 (some .int) ∈ gAll := gAll_of 1084 (by decide +kernel) (by decide +kernel)
theorem kim_X10_keep : Cond.instanceMethod yX10_keep ∈ gAll := gAll_of 1082 (by decide +kernel) (by decide +kernel)
theorem kse_X10_keep : Cond.selects RX10 yX10_keep yX10_keep ∈ gAll := gAll_of 1083 (by decide +kernel) (by decide +kernel)
theorem kv_L_105 : gVok RL 105 RX10 yX10_keep cX10_keep 3 (some .int) 1 := gVok_of (gAll_of 1081 (by decide +kernel) (by decide +kernel)) kim_X10_keep kse_X10_keep kini_X10 kco_X10_keep (by decide +kernel)
theorem kco_X10_back : Cond.code yX10_back cX10_back 3 (some .int) ∈ gAll := gAll_of 1088 (by decide +kernel) (by decide +kernel)
theorem kim_X10_back : Cond.instanceMethod yX10_back ∈ gAll := gAll_of 1086 (by decide +kernel) (by decide +kernel)
theorem kse_X10_back : Cond.selects RX10 yX10_back yX10_back ∈ gAll := gAll_of 1087 (by decide +kernel) (by decide +kernel)
theorem kv_L_109 : gVok RL 109 RX10 yX10_back cX10_back 3 (some .int) 1 := gVok_of (gAll_of 1085 (by decide +kernel) (by decide +kernel)) kim_X10_back kse_X10_back kini_X10 kco_X10_back (by decide +kernel)
theorem kco_X10_count : Cond.code yX10_count cX10_count 2 (some .int) ∈ gAll := gAll_of 1092 (by decide +kernel) (by decide +kernel)
theorem kim_X10_count : Cond.instanceMethod yX10_count ∈ gAll := gAll_of 1090 (by decide +kernel) (by decide +kernel)
theorem kse_X10_count : Cond.selects RX10 yX10_count yX10_count ∈ gAll := gAll_of 1091 (by decide +kernel) (by decide +kernel)
theorem kv_L_113 : gVok RL 113 RX10 yX10_count cX10_count 2 (some .int) 1 := gVok_of (gAll_of 1089 (by decide +kernel) (by decide +kernel)) kim_X10_count kse_X10_count kini_X10 kco_X10_count (by decide +kernel)
theorem kco_X10_trace : Cond.code yX10_trace cX10_trace 1 (some .long) ∈ gAll := gAll_of 1096 (by decide +kernel) (by decide +kernel)
theorem kim_X10_trace : Cond.instanceMethod yX10_trace ∈ gAll := gAll_of 1094 (by decide +kernel) (by decide +kernel)
theorem kse_X10_trace : Cond.selects RX10 yX10_trace yX10_trace ∈ gAll := gAll_of 1095 (by decide +kernel) (by decide +kernel)
theorem kv_L_118 : gVok RL 118 RX10 yX10_trace cX10_trace 1 (some .long) 0 := gVok_of (gAll_of 1093 (by decide +kernel) (by decide +kernel)) kim_X10_trace kse_X10_trace kini_X10 kco_X10_trace (by decide +kernel)
theorem kco_X6_init : Cond.code yX6_init cX6_init 1 (none : Option Jvm.ClassFile.FieldType) ∈ gAll := gAll_of 77 (by decide +kernel) (by decide +kernel)
theorem knl_X9_9 : Cond.methodLinkNest RX9 9 yX6_init RX9 ∈ lw_tbl := List.mem_of_getElem? (i := 75) (by decide +kernel)
theorem kim_X6_init : Cond.instanceMethod yX6_init ∈ gAll := gAll_of 76 (by decide +kernel) (by decide +kernel)
theorem kco_X4_init : Cond.code yX4_init cX4_init 1 (none : Option Jvm.ClassFile.FieldType) ∈ gAll := gAll_of 83 (by decide +kernel) (by decide +kernel)
theorem knl_X6_17 : Cond.methodLinkNest RX6 17 yX4_init RX9 ∈ lw_tbl := List.mem_of_getElem? (i := 81) (by decide +kernel)
theorem kim_X4_init : Cond.instanceMethod yX4_init ∈ gAll := gAll_of 82 (by decide +kernel) (by decide +kernel)
theorem kco_X0_init : Cond.code yX0_init cX0_init 1 (none : Option Jvm.ClassFile.FieldType) ∈ gAll := gAll_of 188 (by decide +kernel) (by decide +kernel)
theorem knl_X9_18 : Cond.methodLinkNest RX9 18 yX0_init RX9 ∈ lw_tbl := List.mem_of_getElem? (i := 186) (by decide +kernel)
theorem kim_X0_init : Cond.instanceMethod yX0_init ∈ gAll := gAll_of 187 (by decide +kernel) (by decide +kernel)
theorem knl_X0_11 : Cond.methodLinkNest RX0 11 yX4_init RX9 ∈ lw_tbl := List.mem_of_getElem? (i := 191) (by decide +kernel)
theorem kco_X3_init : Cond.code yX3_init cX3_init 1 (none : Option Jvm.ClassFile.FieldType) ∈ gAll := gAll_of 196 (by decide +kernel) (by decide +kernel)
theorem knl_X0_20 : Cond.methodLinkNest RX0 20 yX3_init RX9 ∈ lw_tbl := List.mem_of_getElem? (i := 194) (by decide +kernel)
theorem kim_X3_init : Cond.instanceMethod yX3_init ∈ gAll := gAll_of 195 (by decide +kernel) (by decide +kernel)
theorem knl_X2_17 : Cond.methodLinkNest RX2 17 yX3_init RX9 ∈ lw_tbl := List.mem_of_getElem? (i := 260) (by decide +kernel)
theorem kco_X1_init : Cond.code yX1_init cX1_init 1 (none : Option Jvm.ClassFile.FieldType) ∈ gAll := gAll_of 276 (by decide +kernel) (by decide +kernel)
theorem knl_X9_32 : Cond.methodLinkNest RX9 32 yX1_init RX9 ∈ lw_tbl := List.mem_of_getElem? (i := 274) (by decide +kernel)
theorem kim_X1_init : Cond.instanceMethod yX1_init ∈ gAll := gAll_of 275 (by decide +kernel) (by decide +kernel)
theorem kco_X8_init : Cond.code yX8_init cX8_init 1 (none : Option Jvm.ClassFile.FieldType) ∈ gAll := gAll_of 296 (by decide +kernel) (by decide +kernel)
theorem knl_X9_39 : Cond.methodLinkNest RX9 39 yX8_init RX9 ∈ lw_tbl := List.mem_of_getElem? (i := 294) (by decide +kernel)
theorem kim_X8_init : Cond.instanceMethod yX8_init ∈ gAll := gAll_of 295 (by decide +kernel) (by decide +kernel)
theorem kco_X7_init : Cond.code yX7_init cX7_init 1 (none : Option Jvm.ClassFile.FieldType) ∈ gAll := gAll_of 312 (by decide +kernel) (by decide +kernel)
theorem knl_X9_46 : Cond.methodLinkNest RX9 46 yX7_init RX9 ∈ lw_tbl := List.mem_of_getElem? (i := 310) (by decide +kernel)
theorem kim_X7_init : Cond.instanceMethod yX7_init ∈ gAll := gAll_of 311 (by decide +kernel) (by decide +kernel)
theorem kco_X5_init : Cond.code yX5_init cX5_init 1 (none : Option Jvm.ClassFile.FieldType) ∈ gAll := gAll_of 325 (by decide +kernel) (by decide +kernel)
theorem knl_X9_53 : Cond.methodLinkNest RX9 53 yX5_init RX9 ∈ lw_tbl := List.mem_of_getElem? (i := 323) (by decide +kernel)
theorem kim_X5_init : Cond.instanceMethod yX5_init ∈ gAll := gAll_of 324 (by decide +kernel) (by decide +kernel)
theorem knl_X9_64 : Cond.methodLinkNest RX9 64 yX3_init RX9 ∈ lw_tbl := List.mem_of_getElem? (i := 333) (by decide +kernel)
theorem knl_X0_36 : Cond.methodLinkNest RX0 36 yX9_bit RX9 ∈ lw_tbl := List.mem_of_getElem? (i := 489) (by decide +kernel)
theorem kn_X9_bit : gNok yX9_bit cX9_bit 2 (some .int) 2 := gNok_of kst_X9_bit kini_X9 kco_X9_bit (by decide +kernel)
theorem knl_X7_45 : Cond.methodLinkNest RX7 45 yX9_bit RX9 ∈ lw_tbl := List.mem_of_getElem? (i := 620) (by decide +kernel)
theorem knl_X5_61 : Cond.methodLinkNest RX5 61 yX9_bit RX9 ∈ lw_tbl := List.mem_of_getElem? (i := 754) (by decide +kernel)
end
section
theorem dX0_init_0 : decode cX0_init 0 = .ok (.aload_n 0, 1) := by decide +kernel
theorem dX0_init_1 : decode cX0_init 1 = .ok (.invokespecial 3, 3) := by decide +kernel
theorem dX0_init_4 : decode cX0_init 4 = .ok (.aload_n 0, 1) := by decide +kernel
theorem dX0_init_5 : decode cX0_init 5 = .ok (.new 9, 3) := by decide +kernel
theorem dX0_init_8 : decode cX0_init 8 = .ok (.dup, 1) := by decide +kernel
theorem dX0_init_9 : decode cX0_init 9 = .ok (.invokespecial 11, 3) := by decide +kernel
theorem dX0_init_12 : decode cX0_init 12 = .ok (.putfield 12, 3) := by decide +kernel
theorem dX0_init_15 : decode cX0_init 15 = .ok (.aload_n 0, 1) := by decide +kernel
theorem dX0_init_16 : decode cX0_init 16 = .ok (.new 18, 3) := by decide +kernel
theorem dX0_init_19 : decode cX0_init 19 = .ok (.dup, 1) := by decide +kernel
theorem dX0_init_20 : decode cX0_init 20 = .ok (.invokespecial 20, 3) := by decide +kernel
theorem dX0_init_23 : decode cX0_init 23 = .ok (.putfield 21, 3) := by decide +kernel
theorem dX0_init_26 : decode cX0_init 26 = .ok (.return_, 1) := by decide +kernel
theorem dX0_begin_0 : decode cX0_begin 0 = .ok (.aload_n 0, 1) := by decide +kernel
theorem dX0_begin_1 : decode cX0_begin 1 = .ok (.getfield 12, 3) := by decide +kernel
theorem dX0_begin_4 : decode cX0_begin 4 = .ok (.aload_n 1, 1) := by decide +kernel
theorem dX0_begin_5 : decode cX0_begin 5 = .ok (.invokevirtual 25, 3) := by decide +kernel
theorem dX0_begin_8 : decode cX0_begin 8 = .ok (.aload_n 0, 1) := by decide +kernel
theorem dX0_begin_9 : decode cX0_begin 9 = .ok (.getfield 21, 3) := by decide +kernel
theorem dX0_begin_12 : decode cX0_begin 12 = .ok (.aload_n 0, 1) := by decide +kernel
theorem dX0_begin_13 : decode cX0_begin 13 = .ok (.getfield 12, 3) := by decide +kernel
theorem dX0_begin_16 : decode cX0_begin 16 = .ok (.invokevirtual 29, 3) := by decide +kernel
theorem dX0_begin_19 : decode cX0_begin 19 = .ok (.return_, 1) := by decide +kernel
theorem dX0_isDue_0 : decode cX0_isDue 0 = .ok (.aload_n 0, 1) := by decide +kernel
theorem dX0_isDue_1 : decode cX0_isDue 1 = .ok (.getfield 21, 3) := by decide +kernel
theorem dX0_isDue_4 : decode cX0_isDue 4 = .ok (.getfield 32, 3) := by decide +kernel
theorem dX0_isDue_7 : decode cX0_isDue 7 = .ok (.iload_n 1, 1) := by decide +kernel
theorem dX0_isDue_8 : decode cX0_isDue 8 = .ok (.invokestatic 36, 3) := by decide +kernel
theorem dX0_isDue_11 : decode cX0_isDue 11 = .ok (.ifCond .ne 57, 3) := by decide +kernel
theorem dX0_isDue_14 : decode cX0_isDue 14 = .ok (.iload_n 2, 1) := by decide +kernel
theorem dX0_isDue_15 : decode cX0_isDue 15 = .ok (.aload_n 0, 1) := by decide +kernel
theorem dX0_isDue_16 : decode cX0_isDue 16 = .ok (.getfield 12, 3) := by decide +kernel
theorem dX0_isDue_19 : decode cX0_isDue 19 = .ok (.getfield 40, 3) := by decide +kernel
theorem dX0_isDue_22 : decode cX0_isDue 22 = .ok (.iload_n 1, 1) := by decide +kernel
theorem dX0_isDue_23 : decode cX0_isDue 23 = .ok (.iaload, 1) := by decide +kernel
theorem dX0_isDue_24 : decode cX0_isDue 24 = .ok (.aload_n 0, 1) := by decide +kernel
theorem dX0_isDue_25 : decode cX0_isDue 25 = .ok (.getfield 12, 3) := by decide +kernel
theorem dX0_isDue_28 : decode cX0_isDue 28 = .ok (.getfield 44, 3) := by decide +kernel
theorem dX0_isDue_31 : decode cX0_isDue 31 = .ok (.iadd, 1) := by decide +kernel
theorem dX0_isDue_32 : decode cX0_isDue 32 = .ok (.if_icmp .lt 36, 3) := by decide +kernel
theorem dX0_isDue_35 : decode cX0_isDue 35 = .ok (.iload_n 2, 1) := by decide +kernel
theorem dX0_isDue_36 : decode cX0_isDue 36 = .ok (.sipush 240, 3) := by decide +kernel
theorem dX0_isDue_39 : decode cX0_isDue 39 = .ok (.aload_n 0, 1) := by decide +kernel
theorem dX0_isDue_40 : decode cX0_isDue 40 = .ok (.getfield 12, 3) := by decide +kernel
theorem dX0_isDue_43 : decode cX0_isDue 43 = .ok (.getfield 40, 3) := by decide +kernel
theorem dX0_isDue_46 : decode cX0_isDue 46 = .ok (.iload_n 1, 1) := by decide +kernel
theorem dX0_isDue_47 : decode cX0_isDue 47 = .ok (.iaload, 1) := by decide +kernel
theorem dX0_isDue_48 : decode cX0_isDue 48 = .ok (.aload_n 0, 1) := by decide +kernel
theorem dX0_isDue_49 : decode cX0_isDue 49 = .ok (.getfield 12, 3) := by decide +kernel
theorem dX0_isDue_52 : decode cX0_isDue 52 = .ok (.getfield 47, 3) := by decide +kernel
theorem dX0_isDue_55 : decode cX0_isDue 55 = .ok (.iload_n 1, 1) := by decide +kernel
theorem dX0_isDue_56 : decode cX0_isDue 56 = .ok (.iaload, 1) := by decide +kernel
theorem dX0_isDue_57 : decode cX0_isDue 57 = .ok (.iadd, 1) := by decide +kernel
theorem dX0_isDue_58 : decode cX0_isDue 58 = .ok (.invokestatic 50, 3) := by decide +kernel
theorem dX0_isDue_61 : decode cX0_isDue 61 = .ok (.if_icmp .ge 7, 3) := by decide +kernel
theorem dX0_isDue_64 : decode cX0_isDue 64 = .ok (.iconst 1, 1) := by decide +kernel
theorem dX0_isDue_65 : decode cX0_isDue 65 = .ok (.goto 4, 3) := by decide +kernel
theorem dX0_isDue_68 : decode cX0_isDue 68 = .ok (.iconst 0, 1) := by decide +kernel
theorem dX0_isDue_69 : decode cX0_isDue 69 = .ok (.ireturn, 1) := by decide +kernel
theorem dX0_dueAt_0 : decode cX0_dueAt 0 = .ok (.iconst 0, 1) := by decide +kernel
theorem dX0_dueAt_1 : decode cX0_dueAt 1 = .ok (.istore_n 3, 1) := by decide +kernel
theorem dX0_dueAt_2 : decode cX0_dueAt 2 = .ok (.iconst 0, 1) := by decide +kernel
theorem dX0_dueAt_3 : decode cX0_dueAt 3 = .ok (.istore 4, 2) := by decide +kernel
theorem dX0_dueAt_5 : decode cX0_dueAt 5 = .ok (.iload 4, 2) := by decide +kernel
theorem dX0_dueAt_7 : decode cX0_dueAt 7 = .ok (.aload_n 0, 1) := by decide +kernel
theorem dX0_dueAt_8 : decode cX0_dueAt 8 = .ok (.getfield 12, 3) := by decide +kernel
theorem dX0_dueAt_11 : decode cX0_dueAt 11 = .ok (.getfield 55, 3) := by decide +kernel
theorem dX0_dueAt_14 : decode cX0_dueAt 14 = .ok (.if_icmp .ge 48, 3) := by decide +kernel
theorem dX0_dueAt_17 : decode cX0_dueAt 17 = .ok (.aload_n 0, 1) := by decide +kernel
theorem dX0_dueAt_18 : decode cX0_dueAt 18 = .ok (.getfield 21, 3) := by decide +kernel
theorem dX0_dueAt_21 : decode cX0_dueAt 21 = .ok (.getfield 58, 3) := by decide +kernel
theorem dX0_dueAt_24 : decode cX0_dueAt 24 = .ok (.iload 4, 2) := by decide +kernel
theorem dX0_dueAt_26 : decode cX0_dueAt 26 = .ok (.iaload, 1) := by decide +kernel
theorem dX0_dueAt_27 : decode cX0_dueAt 27 = .ok (.iload_n 1, 1) := by decide +kernel
theorem dX0_dueAt_28 : decode cX0_dueAt 28 = .ok (.if_icmp .ne 28, 3) := by decide +kernel
theorem dX0_dueAt_31 : decode cX0_dueAt 31 = .ok (.aload_n 0, 1) := by decide +kernel
theorem dX0_dueAt_32 : decode cX0_dueAt 32 = .ok (.iload 4, 2) := by decide +kernel
theorem dX0_dueAt_34 : decode cX0_dueAt 34 = .ok (.iload_n 2, 1) := by decide +kernel
theorem dX0_dueAt_35 : decode cX0_dueAt 35 = .ok (.invokevirtual 61, 3) := by decide +kernel
theorem dX0_dueAt_38 : decode cX0_dueAt 38 = .ok (.ifCond .eq 18, 3) := by decide +kernel
theorem dX0_dueAt_41 : decode cX0_dueAt 41 = .ok (.iload_n 3, 1) := by decide +kernel
theorem dX0_dueAt_42 : decode cX0_dueAt 42 = .ok (.iconst 1, 1) := by decide +kernel
theorem dX0_dueAt_43 : decode cX0_dueAt 43 = .ok (.aload_n 0, 1) := by decide +kernel
theorem dX0_dueAt_44 : decode cX0_dueAt 44 = .ok (.getfield 12, 3) := by decide +kernel
theorem dX0_dueAt_47 : decode cX0_dueAt 47 = .ok (.getfield 65, 3) := by decide +kernel
theorem dX0_dueAt_50 : decode cX0_dueAt 50 = .ok (.iload 4, 2) := by decide +kernel
theorem dX0_dueAt_52 : decode cX0_dueAt 52 = .ok (.iaload, 1) := by decide +kernel
theorem dX0_dueAt_53 : decode cX0_dueAt 53 = .ok (.ishl, 1) := by decide +kernel
theorem dX0_dueAt_54 : decode cX0_dueAt 54 = .ok (.ior, 1) := by decide +kernel
theorem dX0_dueAt_55 : decode cX0_dueAt 55 = .ok (.istore_n 3, 1) := by decide +kernel
theorem dX0_dueAt_56 : decode cX0_dueAt 56 = .ok (.iinc 4 1, 3) := by decide +kernel
theorem dX0_dueAt_59 : decode cX0_dueAt 59 = .ok (.goto (-54), 3) := by decide +kernel
theorem dX0_dueAt_62 : decode cX0_dueAt 62 = .ok (.iload_n 3, 1) := by decide +kernel
theorem dX0_dueAt_63 : decode cX0_dueAt 63 = .ok (.ireturn, 1) := by decide +kernel
theorem dX0_isRungAt_0 : decode cX0_isRungAt 0 = .ok (.aload_n 0, 1) := by decide +kernel
theorem dX0_isRungAt_1 : decode cX0_isRungAt 1 = .ok (.iload_n 2, 1) := by decide +kernel
theorem dX0_isRungAt_2 : decode cX0_isRungAt 2 = .ok (.iload_n 3, 1) := by decide +kernel
theorem dX0_isRungAt_3 : decode cX0_isRungAt 3 = .ok (.invokevirtual 68, 3) := by decide +kernel
theorem dX0_isRungAt_6 : decode cX0_isRungAt 6 = .ok (.iconst 1, 1) := by decide +kernel
theorem dX0_isRungAt_7 : decode cX0_isRungAt 7 = .ok (.iload_n 1, 1) := by decide +kernel
theorem dX0_isRungAt_8 : decode cX0_isRungAt 8 = .ok (.ishl, 1) := by decide +kernel
theorem dX0_isRungAt_9 : decode cX0_isRungAt 9 = .ok (.iconst (-1), 1) := by decide +kernel
theorem dX0_isRungAt_10 : decode cX0_isRungAt 10 = .ok (.ixor, 1) := by decide +kernel
theorem dX0_isRungAt_11 : decode cX0_isRungAt 11 = .ok (.iand, 1) := by decide +kernel
theorem dX0_isRungAt_12 : decode cX0_isRungAt 12 = .ok (.ifCond .eq 7, 3) := by decide +kernel
theorem dX0_isRungAt_15 : decode cX0_isRungAt 15 = .ok (.iconst 1, 1) := by decide +kernel
theorem dX0_isRungAt_16 : decode cX0_isRungAt 16 = .ok (.goto 4, 3) := by decide +kernel
theorem dX0_isRungAt_19 : decode cX0_isRungAt 19 = .ok (.iconst 0, 1) := by decide +kernel
theorem dX0_isRungAt_20 : decode cX0_isRungAt 20 = .ok (.ireturn, 1) := by decide +kernel
theorem dX0_dutiesRung_0 : decode cX0_dutiesRung 0 = .ok (.iconst 0, 1) := by decide +kernel
theorem dX0_dutiesRung_1 : decode cX0_dutiesRung 1 = .ok (.istore_n 2, 1) := by decide +kernel
theorem dX0_dutiesRung_2 : decode cX0_dutiesRung 2 = .ok (.iconst 0, 1) := by decide +kernel
theorem dX0_dutiesRung_3 : decode cX0_dutiesRung 3 = .ok (.istore_n 3, 1) := by decide +kernel
theorem dX0_dutiesRung_4 : decode cX0_dutiesRung 4 = .ok (.iload_n 3, 1) := by decide +kernel
theorem dX0_dutiesRung_5 : decode cX0_dutiesRung 5 = .ok (.aload_n 0, 1) := by decide +kernel
theorem dX0_dutiesRung_6 : decode cX0_dutiesRung 6 = .ok (.getfield 12, 3) := by decide +kernel
theorem dX0_dutiesRung_9 : decode cX0_dutiesRung 9 = .ok (.getfield 55, 3) := by decide +kernel
theorem dX0_dutiesRung_12 : decode cX0_dutiesRung 12 = .ok (.if_icmp .ge 50, 3) := by decide +kernel
theorem dX0_dutiesRung_15 : decode cX0_dutiesRung 15 = .ok (.aload_n 0, 1) := by decide +kernel
theorem dX0_dutiesRung_16 : decode cX0_dutiesRung 16 = .ok (.iload_n 3, 1) := by decide +kernel
theorem dX0_dutiesRung_17 : decode cX0_dutiesRung 17 = .ok (.iload_n 1, 1) := by decide +kernel
theorem dX0_dutiesRung_18 : decode cX0_dutiesRung 18 = .ok (.invokevirtual 61, 3) := by decide +kernel
theorem dX0_dutiesRung_21 : decode cX0_dutiesRung 21 = .ok (.ifCond .eq 35, 3) := by decide +kernel
theorem dX0_dutiesRung_24 : decode cX0_dutiesRung 24 = .ok (.aload_n 0, 1) := by decide +kernel
theorem dX0_dutiesRung_25 : decode cX0_dutiesRung 25 = .ok (.aload_n 0, 1) := by decide +kernel
theorem dX0_dutiesRung_26 : decode cX0_dutiesRung 26 = .ok (.getfield 21, 3) := by decide +kernel
theorem dX0_dutiesRung_29 : decode cX0_dutiesRung 29 = .ok (.getfield 58, 3) := by decide +kernel
theorem dX0_dutiesRung_32 : decode cX0_dutiesRung 32 = .ok (.iload_n 3, 1) := by decide +kernel
theorem dX0_dutiesRung_33 : decode cX0_dutiesRung 33 = .ok (.iaload, 1) := by decide +kernel
theorem dX0_dutiesRung_34 : decode cX0_dutiesRung 34 = .ok (.aload_n 0, 1) := by decide +kernel
theorem dX0_dutiesRung_35 : decode cX0_dutiesRung 35 = .ok (.getfield 12, 3) := by decide +kernel
theorem dX0_dutiesRung_38 : decode cX0_dutiesRung 38 = .ok (.getfield 65, 3) := by decide +kernel
theorem dX0_dutiesRung_41 : decode cX0_dutiesRung 41 = .ok (.iload_n 3, 1) := by decide +kernel
theorem dX0_dutiesRung_42 : decode cX0_dutiesRung 42 = .ok (.iaload, 1) := by decide +kernel
theorem dX0_dutiesRung_43 : decode cX0_dutiesRung 43 = .ok (.iload_n 1, 1) := by decide +kernel
theorem dX0_dutiesRung_44 : decode cX0_dutiesRung 44 = .ok (.invokevirtual 71, 3) := by decide +kernel
theorem dX0_dutiesRung_47 : decode cX0_dutiesRung 47 = .ok (.ifCond .ne 9, 3) := by decide +kernel
theorem dX0_dutiesRung_50 : decode cX0_dutiesRung 50 = .ok (.iload_n 2, 1) := by decide +kernel
theorem dX0_dutiesRung_51 : decode cX0_dutiesRung 51 = .ok (.iconst 1, 1) := by decide +kernel
theorem dX0_dutiesRung_52 : decode cX0_dutiesRung 52 = .ok (.iload_n 3, 1) := by decide +kernel
theorem dX0_dutiesRung_53 : decode cX0_dutiesRung 53 = .ok (.ishl, 1) := by decide +kernel
theorem dX0_dutiesRung_54 : decode cX0_dutiesRung 54 = .ok (.ior, 1) := by decide +kernel
theorem dX0_dutiesRung_55 : decode cX0_dutiesRung 55 = .ok (.istore_n 2, 1) := by decide +kernel
theorem dX0_dutiesRung_56 : decode cX0_dutiesRung 56 = .ok (.iinc 3 1, 3) := by decide +kernel
theorem dX0_dutiesRung_59 : decode cX0_dutiesRung 59 = .ok (.goto (-55), 3) := by decide +kernel
theorem dX0_dutiesRung_62 : decode cX0_dutiesRung 62 = .ok (.iload_n 2, 1) := by decide +kernel
theorem dX0_dutiesRung_63 : decode cX0_dutiesRung 63 = .ok (.ireturn, 1) := by decide +kernel
theorem dX0_willBeThere_0 : decode cX0_willBeThere 0 = .ok (.aload_n 0, 1) := by decide +kernel
theorem dX0_willBeThere_1 : decode cX0_willBeThere 1 = .ok (.getfield 21, 3) := by decide +kernel
theorem dX0_willBeThere_4 : decode cX0_willBeThere 4 = .ok (.getfield 75, 3) := by decide +kernel
theorem dX0_willBeThere_7 : decode cX0_willBeThere 7 = .ok (.iload_n 1, 1) := by decide +kernel
theorem dX0_willBeThere_8 : decode cX0_willBeThere 8 = .ok (.iaload, 1) := by decide +kernel
theorem dX0_willBeThere_9 : decode cX0_willBeThere 9 = .ok (.iload_n 2, 1) := by decide +kernel
theorem dX0_willBeThere_10 : decode cX0_willBeThere 10 = .ok (.if_icmp .ne 28, 3) := by decide +kernel
theorem dX0_willBeThere_13 : decode cX0_willBeThere 13 = .ok (.iload_n 3, 1) := by decide +kernel
theorem dX0_willBeThere_14 : decode cX0_willBeThere 14 = .ok (.aload_n 0, 1) := by decide +kernel
theorem dX0_willBeThere_15 : decode cX0_willBeThere 15 = .ok (.getfield 21, 3) := by decide +kernel
theorem dX0_willBeThere_18 : decode cX0_willBeThere 18 = .ok (.getfield 76, 3) := by decide +kernel
theorem dX0_willBeThere_21 : decode cX0_willBeThere 21 = .ok (.aload_n 0, 1) := by decide +kernel
theorem dX0_willBeThere_22 : decode cX0_willBeThere 22 = .ok (.getfield 21, 3) := by decide +kernel
theorem dX0_willBeThere_25 : decode cX0_willBeThere 25 = .ok (.getfield 79, 3) := by decide +kernel
theorem dX0_willBeThere_28 : decode cX0_willBeThere 28 = .ok (.iload_n 1, 1) := by decide +kernel
theorem dX0_willBeThere_29 : decode cX0_willBeThere 29 = .ok (.iaload, 1) := by decide +kernel
theorem dX0_willBeThere_30 : decode cX0_willBeThere 30 = .ok (.iadd, 1) := by decide +kernel
theorem dX0_willBeThere_31 : decode cX0_willBeThere 31 = .ok (.if_icmp .lt 7, 3) := by decide +kernel
theorem dX0_willBeThere_34 : decode cX0_willBeThere 34 = .ok (.iconst 1, 1) := by decide +kernel
theorem dX0_willBeThere_35 : decode cX0_willBeThere 35 = .ok (.goto 4, 3) := by decide +kernel
theorem dX0_willBeThere_38 : decode cX0_willBeThere 38 = .ok (.iconst 0, 1) := by decide +kernel
theorem dX0_willBeThere_39 : decode cX0_willBeThere 39 = .ok (.ireturn, 1) := by decide +kernel
theorem dX0_rung_0 : decode cX0_rung 0 = .ok (.aload_n 0, 1) := by decide +kernel
theorem dX0_rung_1 : decode cX0_rung 1 = .ok (.aload_n 0, 1) := by decide +kernel
theorem dX0_rung_2 : decode cX0_rung 2 = .ok (.iload_n 1, 1) := by decide +kernel
theorem dX0_rung_3 : decode cX0_rung 3 = .ok (.invokevirtual 82, 3) := by decide +kernel
theorem dX0_rung_6 : decode cX0_rung 6 = .ok (.invokevirtual 86, 3) := by decide +kernel
theorem dX0_rung_9 : decode cX0_rung 9 = .ok (.ireturn, 1) := by decide +kernel
theorem dX0_owners_0 : decode cX0_owners 0 = .ok (.iconst 0, 1) := by decide +kernel
theorem dX0_owners_1 : decode cX0_owners 1 = .ok (.istore_n 2, 1) := by decide +kernel
theorem dX0_owners_2 : decode cX0_owners 2 = .ok (.iconst 0, 1) := by decide +kernel
theorem dX0_owners_3 : decode cX0_owners 3 = .ok (.istore_n 3, 1) := by decide +kernel
theorem dX0_owners_4 : decode cX0_owners 4 = .ok (.iload_n 3, 1) := by decide +kernel
theorem dX0_owners_5 : decode cX0_owners 5 = .ok (.aload_n 0, 1) := by decide +kernel
theorem dX0_owners_6 : decode cX0_owners 6 = .ok (.getfield 12, 3) := by decide +kernel
theorem dX0_owners_9 : decode cX0_owners 9 = .ok (.getfield 55, 3) := by decide +kernel
theorem dX0_owners_12 : decode cX0_owners 12 = .ok (.if_icmp .ge 32, 3) := by decide +kernel
theorem dX0_owners_15 : decode cX0_owners 15 = .ok (.iload_n 1, 1) := by decide +kernel
theorem dX0_owners_16 : decode cX0_owners 16 = .ok (.iload_n 3, 1) := by decide +kernel
theorem dX0_owners_17 : decode cX0_owners 17 = .ok (.invokestatic 36, 3) := by decide +kernel
theorem dX0_owners_20 : decode cX0_owners 20 = .ok (.iconst 1, 1) := by decide +kernel
theorem dX0_owners_21 : decode cX0_owners 21 = .ok (.if_icmp .ne 17, 3) := by decide +kernel
theorem dX0_owners_24 : decode cX0_owners 24 = .ok (.iload_n 2, 1) := by decide +kernel
theorem dX0_owners_25 : decode cX0_owners 25 = .ok (.iconst 1, 1) := by decide +kernel
theorem dX0_owners_26 : decode cX0_owners 26 = .ok (.aload_n 0, 1) := by decide +kernel
theorem dX0_owners_27 : decode cX0_owners 27 = .ok (.getfield 21, 3) := by decide +kernel
theorem dX0_owners_30 : decode cX0_owners 30 = .ok (.getfield 58, 3) := by decide +kernel
theorem dX0_owners_33 : decode cX0_owners 33 = .ok (.iload_n 3, 1) := by decide +kernel
theorem dX0_owners_34 : decode cX0_owners 34 = .ok (.iaload, 1) := by decide +kernel
theorem dX0_owners_35 : decode cX0_owners 35 = .ok (.ishl, 1) := by decide +kernel
theorem dX0_owners_36 : decode cX0_owners 36 = .ok (.ior, 1) := by decide +kernel
theorem dX0_owners_37 : decode cX0_owners 37 = .ok (.istore_n 2, 1) := by decide +kernel
theorem dX0_owners_38 : decode cX0_owners 38 = .ok (.iinc 3 1, 3) := by decide +kernel
theorem dX0_owners_41 : decode cX0_owners 41 = .ok (.goto (-37), 3) := by decide +kernel
theorem dX0_owners_44 : decode cX0_owners 44 = .ok (.iload_n 2, 1) := by decide +kernel
theorem dX0_owners_45 : decode cX0_owners 45 = .ok (.ireturn, 1) := by decide +kernel
theorem dX0_dutiesOf_0 : decode cX0_dutiesOf 0 = .ok (.iconst 0, 1) := by decide +kernel
theorem dX0_dutiesOf_1 : decode cX0_dutiesOf 1 = .ok (.istore_n 2, 1) := by decide +kernel
theorem dX0_dutiesOf_2 : decode cX0_dutiesOf 2 = .ok (.iconst 0, 1) := by decide +kernel
theorem dX0_dutiesOf_3 : decode cX0_dutiesOf 3 = .ok (.istore_n 3, 1) := by decide +kernel
theorem dX0_dutiesOf_4 : decode cX0_dutiesOf 4 = .ok (.iload_n 3, 1) := by decide +kernel
theorem dX0_dutiesOf_5 : decode cX0_dutiesOf 5 = .ok (.aload_n 0, 1) := by decide +kernel
theorem dX0_dutiesOf_6 : decode cX0_dutiesOf 6 = .ok (.getfield 12, 3) := by decide +kernel
theorem dX0_dutiesOf_9 : decode cX0_dutiesOf 9 = .ok (.getfield 55, 3) := by decide +kernel
theorem dX0_dutiesOf_12 : decode cX0_dutiesOf 12 = .ok (.if_icmp .ge 28, 3) := by decide +kernel
theorem dX0_dutiesOf_15 : decode cX0_dutiesOf 15 = .ok (.aload_n 0, 1) := by decide +kernel
theorem dX0_dutiesOf_16 : decode cX0_dutiesOf 16 = .ok (.getfield 21, 3) := by decide +kernel
theorem dX0_dutiesOf_19 : decode cX0_dutiesOf 19 = .ok (.getfield 58, 3) := by decide +kernel
theorem dX0_dutiesOf_22 : decode cX0_dutiesOf 22 = .ok (.iload_n 3, 1) := by decide +kernel
theorem dX0_dutiesOf_23 : decode cX0_dutiesOf 23 = .ok (.iaload, 1) := by decide +kernel
theorem dX0_dutiesOf_24 : decode cX0_dutiesOf 24 = .ok (.iload_n 1, 1) := by decide +kernel
theorem dX0_dutiesOf_25 : decode cX0_dutiesOf 25 = .ok (.if_icmp .ne 9, 3) := by decide +kernel
theorem dX0_dutiesOf_28 : decode cX0_dutiesOf 28 = .ok (.iload_n 2, 1) := by decide +kernel
theorem dX0_dutiesOf_29 : decode cX0_dutiesOf 29 = .ok (.iconst 1, 1) := by decide +kernel
theorem dX0_dutiesOf_30 : decode cX0_dutiesOf 30 = .ok (.iload_n 3, 1) := by decide +kernel
theorem dX0_dutiesOf_31 : decode cX0_dutiesOf 31 = .ok (.ishl, 1) := by decide +kernel
theorem dX0_dutiesOf_32 : decode cX0_dutiesOf 32 = .ok (.ior, 1) := by decide +kernel
theorem dX0_dutiesOf_33 : decode cX0_dutiesOf 33 = .ok (.istore_n 2, 1) := by decide +kernel
theorem dX0_dutiesOf_34 : decode cX0_dutiesOf 34 = .ok (.iinc 3 1, 3) := by decide +kernel
theorem dX0_dutiesOf_37 : decode cX0_dutiesOf 37 = .ok (.goto (-33), 3) := by decide +kernel
theorem dX0_dutiesOf_40 : decode cX0_dutiesOf 40 = .ok (.iload_n 2, 1) := by decide +kernel
theorem dX0_dutiesOf_41 : decode cX0_dutiesOf 41 = .ok (.ireturn, 1) := by decide +kernel
theorem dX0_passMinute_0 : decode cX0_passMinute 0 = .ok (.aload_n 0, 1) := by decide +kernel
theorem dX0_passMinute_1 : decode cX0_passMinute 1 = .ok (.aload_n 0, 1) := by decide +kernel
theorem dX0_passMinute_2 : decode cX0_passMinute 2 = .ok (.getfield 21, 3) := by decide +kernel
theorem dX0_passMinute_5 : decode cX0_passMinute 5 = .ok (.getfield 76, 3) := by decide +kernel
theorem dX0_passMinute_8 : decode cX0_passMinute 8 = .ok (.invokevirtual 89, 3) := by decide +kernel
theorem dX0_passMinute_11 : decode cX0_passMinute 11 = .ok (.istore_n 1, 1) := by decide +kernel
theorem dX0_passMinute_12 : decode cX0_passMinute 12 = .ok (.iconst 0, 1) := by decide +kernel
theorem dX0_passMinute_13 : decode cX0_passMinute 13 = .ok (.istore_n 2, 1) := by decide +kernel
theorem dX0_passMinute_14 : decode cX0_passMinute 14 = .ok (.iload_n 2, 1) := by decide +kernel
theorem dX0_passMinute_15 : decode cX0_passMinute 15 = .ok (.aload_n 0, 1) := by decide +kernel
theorem dX0_passMinute_16 : decode cX0_passMinute 16 = .ok (.getfield 12, 3) := by decide +kernel
theorem dX0_passMinute_19 : decode cX0_passMinute 19 = .ok (.getfield 92, 3) := by decide +kernel
theorem dX0_passMinute_22 : decode cX0_passMinute 22 = .ok (.if_icmp .ge 50, 3) := by decide +kernel
theorem dX0_passMinute_25 : decode cX0_passMinute 25 = .ok (.aload_n 0, 1) := by decide +kernel
theorem dX0_passMinute_26 : decode cX0_passMinute 26 = .ok (.getfield 21, 3) := by decide +kernel
theorem dX0_passMinute_29 : decode cX0_passMinute 29 = .ok (.getfield 95, 3) := by decide +kernel
theorem dX0_passMinute_32 : decode cX0_passMinute 32 = .ok (.iload_n 2, 1) := by decide +kernel
theorem dX0_passMinute_33 : decode cX0_passMinute 33 = .ok (.dup2, 1) := by decide +kernel
theorem dX0_passMinute_34 : decode cX0_passMinute 34 = .ok (.iaload, 1) := by decide +kernel
theorem dX0_passMinute_35 : decode cX0_passMinute 35 = .ok (.iload_n 1, 1) := by decide +kernel
theorem dX0_passMinute_36 : decode cX0_passMinute 36 = .ok (.iload_n 2, 1) := by decide +kernel
theorem dX0_passMinute_37 : decode cX0_passMinute 37 = .ok (.invokestatic 36, 3) := by decide +kernel
theorem dX0_passMinute_40 : decode cX0_passMinute 40 = .ok (.iadd, 1) := by decide +kernel
theorem dX0_passMinute_41 : decode cX0_passMinute 41 = .ok (.iastore, 1) := by decide +kernel
theorem dX0_passMinute_42 : decode cX0_passMinute 42 = .ok (.aload_n 0, 1) := by decide +kernel
theorem dX0_passMinute_43 : decode cX0_passMinute 43 = .ok (.getfield 21, 3) := by decide +kernel
theorem dX0_passMinute_46 : decode cX0_passMinute 46 = .ok (.getfield 79, 3) := by decide +kernel
theorem dX0_passMinute_49 : decode cX0_passMinute 49 = .ok (.iload_n 2, 1) := by decide +kernel
theorem dX0_passMinute_50 : decode cX0_passMinute 50 = .ok (.iconst 0, 1) := by decide +kernel
theorem dX0_passMinute_51 : decode cX0_passMinute 51 = .ok (.aload_n 0, 1) := by decide +kernel
theorem dX0_passMinute_52 : decode cX0_passMinute 52 = .ok (.getfield 21, 3) := by decide +kernel
theorem dX0_passMinute_55 : decode cX0_passMinute 55 = .ok (.getfield 79, 3) := by decide +kernel
theorem dX0_passMinute_58 : decode cX0_passMinute 58 = .ok (.iload_n 2, 1) := by decide +kernel
theorem dX0_passMinute_59 : decode cX0_passMinute 59 = .ok (.iaload, 1) := by decide +kernel
theorem dX0_passMinute_60 : decode cX0_passMinute 60 = .ok (.iconst 1, 1) := by decide +kernel
theorem dX0_passMinute_61 : decode cX0_passMinute 61 = .ok (.isub, 1) := by decide +kernel
theorem dX0_passMinute_62 : decode cX0_passMinute 62 = .ok (.invokestatic 98, 3) := by decide +kernel
theorem dX0_passMinute_65 : decode cX0_passMinute 65 = .ok (.iastore, 1) := by decide +kernel
theorem dX0_passMinute_66 : decode cX0_passMinute 66 = .ok (.iinc 2 1, 3) := by decide +kernel
theorem dX0_passMinute_69 : decode cX0_passMinute 69 = .ok (.goto (-55), 3) := by decide +kernel
theorem dX0_passMinute_72 : decode cX0_passMinute 72 = .ok (.aload_n 0, 1) := by decide +kernel
theorem dX0_passMinute_73 : decode cX0_passMinute 73 = .ok (.getfield 21, 3) := by decide +kernel
theorem dX0_passMinute_76 : decode cX0_passMinute 76 = .ok (.dup, 1) := by decide +kernel
theorem dX0_passMinute_77 : decode cX0_passMinute 77 = .ok (.getfield 76, 3) := by decide +kernel
theorem dX0_passMinute_80 : decode cX0_passMinute 80 = .ok (.iconst 1, 1) := by decide +kernel
theorem dX0_passMinute_81 : decode cX0_passMinute 81 = .ok (.iadd, 1) := by decide +kernel
theorem dX0_passMinute_82 : decode cX0_passMinute 82 = .ok (.putfield 76, 3) := by decide +kernel
theorem dX0_passMinute_85 : decode cX0_passMinute 85 = .ok (.iload_n 1, 1) := by decide +kernel
theorem dX0_passMinute_86 : decode cX0_passMinute 86 = .ok (.invokestatic 101, 3) := by decide +kernel
theorem dX0_passMinute_89 : decode cX0_passMinute 89 = .ok (.ireturn, 1) := by decide +kernel
theorem dX0_tolledInAll_0 : decode cX0_tolledInAll 0 = .ok (.iconst 0, 1) := by decide +kernel
theorem dX0_tolledInAll_1 : decode cX0_tolledInAll 1 = .ok (.istore_n 1, 1) := by decide +kernel
theorem dX0_tolledInAll_2 : decode cX0_tolledInAll 2 = .ok (.iconst 0, 1) := by decide +kernel
theorem dX0_tolledInAll_3 : decode cX0_tolledInAll 3 = .ok (.istore_n 2, 1) := by decide +kernel
theorem dX0_tolledInAll_4 : decode cX0_tolledInAll 4 = .ok (.iload_n 2, 1) := by decide +kernel
theorem dX0_tolledInAll_5 : decode cX0_tolledInAll 5 = .ok (.aload_n 0, 1) := by decide +kernel
theorem dX0_tolledInAll_6 : decode cX0_tolledInAll 6 = .ok (.getfield 12, 3) := by decide +kernel
theorem dX0_tolledInAll_9 : decode cX0_tolledInAll 9 = .ok (.getfield 92, 3) := by decide +kernel
theorem dX0_tolledInAll_12 : decode cX0_tolledInAll 12 = .ok (.if_icmp .ge 21, 3) := by decide +kernel
theorem dX0_tolledInAll_15 : decode cX0_tolledInAll 15 = .ok (.iload_n 1, 1) := by decide +kernel
theorem dX0_tolledInAll_16 : decode cX0_tolledInAll 16 = .ok (.aload_n 0, 1) := by decide +kernel
theorem dX0_tolledInAll_17 : decode cX0_tolledInAll 17 = .ok (.getfield 21, 3) := by decide +kernel
theorem dX0_tolledInAll_20 : decode cX0_tolledInAll 20 = .ok (.getfield 95, 3) := by decide +kernel
theorem dX0_tolledInAll_23 : decode cX0_tolledInAll 23 = .ok (.iload_n 2, 1) := by decide +kernel
theorem dX0_tolledInAll_24 : decode cX0_tolledInAll 24 = .ok (.iaload, 1) := by decide +kernel
theorem dX0_tolledInAll_25 : decode cX0_tolledInAll 25 = .ok (.iadd, 1) := by decide +kernel
theorem dX0_tolledInAll_26 : decode cX0_tolledInAll 26 = .ok (.istore_n 1, 1) := by decide +kernel
theorem dX0_tolledInAll_27 : decode cX0_tolledInAll 27 = .ok (.iinc 2 1, 3) := by decide +kernel
theorem dX0_tolledInAll_30 : decode cX0_tolledInAll 30 = .ok (.goto (-26), 3) := by decide +kernel
theorem dX0_tolledInAll_33 : decode cX0_tolledInAll 33 = .ok (.iload_n 1, 1) := by decide +kernel
theorem dX0_tolledInAll_34 : decode cX0_tolledInAll 34 = .ok (.ireturn, 1) := by decide +kernel
theorem dX0_worst_0 : decode cX0_worst 0 = .ok (.iconst 0, 1) := by decide +kernel
theorem dX0_worst_1 : decode cX0_worst 1 = .ok (.istore_n 1, 1) := by decide +kernel
theorem dX0_worst_2 : decode cX0_worst 2 = .ok (.bipush (-9), 2) := by decide +kernel
theorem dX0_worst_4 : decode cX0_worst 4 = .ok (.istore_n 2, 1) := by decide +kernel
theorem dX0_worst_5 : decode cX0_worst 5 = .ok (.iconst 0, 1) := by decide +kernel
theorem dX0_worst_6 : decode cX0_worst 6 = .ok (.istore_n 3, 1) := by decide +kernel
theorem dX0_worst_7 : decode cX0_worst 7 = .ok (.iload_n 3, 1) := by decide +kernel
theorem dX0_worst_8 : decode cX0_worst 8 = .ok (.aload_n 0, 1) := by decide +kernel
theorem dX0_worst_9 : decode cX0_worst 9 = .ok (.getfield 12, 3) := by decide +kernel
theorem dX0_worst_12 : decode cX0_worst 12 = .ok (.getfield 92, 3) := by decide +kernel
theorem dX0_worst_15 : decode cX0_worst 15 = .ok (.if_icmp .ge 34, 3) := by decide +kernel
theorem dX0_worst_18 : decode cX0_worst 18 = .ok (.aload_n 0, 1) := by decide +kernel
theorem dX0_worst_19 : decode cX0_worst 19 = .ok (.getfield 21, 3) := by decide +kernel
theorem dX0_worst_22 : decode cX0_worst 22 = .ok (.getfield 95, 3) := by decide +kernel
theorem dX0_worst_25 : decode cX0_worst 25 = .ok (.iload_n 3, 1) := by decide +kernel
theorem dX0_worst_26 : decode cX0_worst 26 = .ok (.iaload, 1) := by decide +kernel
theorem dX0_worst_27 : decode cX0_worst 27 = .ok (.iload_n 1, 1) := by decide +kernel
theorem dX0_worst_28 : decode cX0_worst 28 = .ok (.if_icmp .le 15, 3) := by decide +kernel
theorem dX0_worst_31 : decode cX0_worst 31 = .ok (.aload_n 0, 1) := by decide +kernel
theorem dX0_worst_32 : decode cX0_worst 32 = .ok (.getfield 21, 3) := by decide +kernel
theorem dX0_worst_35 : decode cX0_worst 35 = .ok (.getfield 95, 3) := by decide +kernel
theorem dX0_worst_38 : decode cX0_worst 38 = .ok (.iload_n 3, 1) := by decide +kernel
theorem dX0_worst_39 : decode cX0_worst 39 = .ok (.iaload, 1) := by decide +kernel
theorem dX0_worst_40 : decode cX0_worst 40 = .ok (.istore_n 1, 1) := by decide +kernel
theorem dX0_worst_41 : decode cX0_worst 41 = .ok (.iload_n 3, 1) := by decide +kernel
theorem dX0_worst_42 : decode cX0_worst 42 = .ok (.istore_n 2, 1) := by decide +kernel
theorem dX0_worst_43 : decode cX0_worst 43 = .ok (.iinc 3 1, 3) := by decide +kernel
theorem dX0_worst_46 : decode cX0_worst 46 = .ok (.goto (-39), 3) := by decide +kernel
theorem dX0_worst_49 : decode cX0_worst 49 = .ok (.iload_n 2, 1) := by decide +kernel
theorem dX0_worst_50 : decode cX0_worst 50 = .ok (.ireturn, 1) := by decide +kernel
theorem dX0_nextRung_0 : decode cX0_nextRung 0 = .ok (.aload_n 0, 1) := by decide +kernel
theorem dX0_nextRung_1 : decode cX0_nextRung 1 = .ok (.getfield 21, 3) := by decide +kernel
theorem dX0_nextRung_4 : decode cX0_nextRung 4 = .ok (.getfield 76, 3) := by decide +kernel
theorem dX0_nextRung_7 : decode cX0_nextRung 7 = .ok (.istore_n 1, 1) := by decide +kernel
theorem dX0_nextRung_8 : decode cX0_nextRung 8 = .ok (.iload_n 1, 1) := by decide +kernel
theorem dX0_nextRung_9 : decode cX0_nextRung 9 = .ok (.sipush 240, 3) := by decide +kernel
theorem dX0_nextRung_12 : decode cX0_nextRung 12 = .ok (.if_icmp .ge 19, 3) := by decide +kernel
theorem dX0_nextRung_15 : decode cX0_nextRung 15 = .ok (.aload_n 0, 1) := by decide +kernel
theorem dX0_nextRung_16 : decode cX0_nextRung 16 = .ok (.iload_n 1, 1) := by decide +kernel
theorem dX0_nextRung_17 : decode cX0_nextRung 17 = .ok (.invokevirtual 82, 3) := by decide +kernel
theorem dX0_nextRung_20 : decode cX0_nextRung 20 = .ok (.ifCond .eq 5, 3) := by decide +kernel
theorem dX0_nextRung_23 : decode cX0_nextRung 23 = .ok (.iload_n 1, 1) := by decide +kernel
theorem dX0_nextRung_24 : decode cX0_nextRung 24 = .ok (.ireturn, 1) := by decide +kernel
theorem dX0_nextRung_25 : decode cX0_nextRung 25 = .ok (.iinc 1 1, 3) := by decide +kernel
theorem dX0_nextRung_28 : decode cX0_nextRung 28 = .ok (.goto (-20), 3) := by decide +kernel
theorem dX0_nextRung_31 : decode cX0_nextRung 31 = .ok (.bipush (-9), 2) := by decide +kernel
theorem dX0_nextRung_33 : decode cX0_nextRung 33 = .ok (.ireturn, 1) := by decide +kernel
theorem dX0_chordMinutes_0 : decode cX0_chordMinutes 0 = .ok (.iconst 0, 1) := by decide +kernel
theorem dX0_chordMinutes_1 : decode cX0_chordMinutes 1 = .ok (.istore_n 2, 1) := by decide +kernel
theorem dX0_chordMinutes_2 : decode cX0_chordMinutes 2 = .ok (.aload_n 0, 1) := by decide +kernel
theorem dX0_chordMinutes_3 : decode cX0_chordMinutes 3 = .ok (.getfield 21, 3) := by decide +kernel
theorem dX0_chordMinutes_6 : decode cX0_chordMinutes 6 = .ok (.getfield 76, 3) := by decide +kernel
theorem dX0_chordMinutes_9 : decode cX0_chordMinutes 9 = .ok (.istore_n 3, 1) := by decide +kernel
theorem dX0_chordMinutes_10 : decode cX0_chordMinutes 10 = .ok (.iload_n 3, 1) := by decide +kernel
theorem dX0_chordMinutes_11 : decode cX0_chordMinutes 11 = .ok (.sipush 240, 3) := by decide +kernel
theorem dX0_chordMinutes_14 : decode cX0_chordMinutes 14 = .ok (.if_icmp .ge 21, 3) := by decide +kernel
theorem dX0_chordMinutes_17 : decode cX0_chordMinutes 17 = .ok (.aload_n 0, 1) := by decide +kernel
theorem dX0_chordMinutes_18 : decode cX0_chordMinutes 18 = .ok (.iload_n 3, 1) := by decide +kernel
theorem dX0_chordMinutes_19 : decode cX0_chordMinutes 19 = .ok (.invokevirtual 89, 3) := by decide +kernel
theorem dX0_chordMinutes_22 : decode cX0_chordMinutes 22 = .ok (.iload_n 1, 1) := by decide +kernel
theorem dX0_chordMinutes_23 : decode cX0_chordMinutes 23 = .ok (.if_icmp .ne 6, 3) := by decide +kernel
theorem dX0_chordMinutes_26 : decode cX0_chordMinutes 26 = .ok (.iinc 2 1, 3) := by decide +kernel
theorem dX0_chordMinutes_29 : decode cX0_chordMinutes 29 = .ok (.iinc 3 1, 3) := by decide +kernel
theorem dX0_chordMinutes_32 : decode cX0_chordMinutes 32 = .ok (.goto (-22), 3) := by decide +kernel
theorem dX0_chordMinutes_35 : decode cX0_chordMinutes 35 = .ok (.iload_n 2, 1) := by decide +kernel
theorem dX0_chordMinutes_36 : decode cX0_chordMinutes 36 = .ok (.ireturn, 1) := by decide +kernel
theorem dX0_chordFirst_0 : decode cX0_chordFirst 0 = .ok (.aload_n 0, 1) := by decide +kernel
theorem dX0_chordFirst_1 : decode cX0_chordFirst 1 = .ok (.getfield 21, 3) := by decide +kernel
theorem dX0_chordFirst_4 : decode cX0_chordFirst 4 = .ok (.getfield 76, 3) := by decide +kernel
theorem dX0_chordFirst_7 : decode cX0_chordFirst 7 = .ok (.istore_n 2, 1) := by decide +kernel
theorem dX0_chordFirst_8 : decode cX0_chordFirst 8 = .ok (.iload_n 2, 1) := by decide +kernel
theorem dX0_chordFirst_9 : decode cX0_chordFirst 9 = .ok (.sipush 240, 3) := by decide +kernel
theorem dX0_chordFirst_12 : decode cX0_chordFirst 12 = .ok (.if_icmp .ge 20, 3) := by decide +kernel
theorem dX0_chordFirst_15 : decode cX0_chordFirst 15 = .ok (.aload_n 0, 1) := by decide +kernel
theorem dX0_chordFirst_16 : decode cX0_chordFirst 16 = .ok (.iload_n 2, 1) := by decide +kernel
theorem dX0_chordFirst_17 : decode cX0_chordFirst 17 = .ok (.invokevirtual 89, 3) := by decide +kernel
theorem dX0_chordFirst_20 : decode cX0_chordFirst 20 = .ok (.iload_n 1, 1) := by decide +kernel
theorem dX0_chordFirst_21 : decode cX0_chordFirst 21 = .ok (.if_icmp .ne 5, 3) := by decide +kernel
theorem dX0_chordFirst_24 : decode cX0_chordFirst 24 = .ok (.iload_n 2, 1) := by decide +kernel
theorem dX0_chordFirst_25 : decode cX0_chordFirst 25 = .ok (.ireturn, 1) := by decide +kernel
theorem dX0_chordFirst_26 : decode cX0_chordFirst 26 = .ok (.iinc 2 1, 3) := by decide +kernel
theorem dX0_chordFirst_29 : decode cX0_chordFirst 29 = .ok (.goto (-21), 3) := by decide +kernel
theorem dX0_chordFirst_32 : decode cX0_chordFirst 32 = .ok (.bipush (-9), 2) := by decide +kernel
theorem dX0_chordFirst_34 : decode cX0_chordFirst 34 = .ok (.ireturn, 1) := by decide +kernel
theorem dX0_firstUnlike_0 : decode cX0_firstUnlike 0 = .ok (.iconst 0, 1) := by decide +kernel
theorem dX0_firstUnlike_1 : decode cX0_firstUnlike 1 = .ok (.istore 4, 2) := by decide +kernel
theorem dX0_firstUnlike_3 : decode cX0_firstUnlike 3 = .ok (.iload 4, 2) := by decide +kernel
theorem dX0_firstUnlike_5 : decode cX0_firstUnlike 5 = .ok (.sipush 240, 3) := by decide +kernel
theorem dX0_firstUnlike_8 : decode cX0_firstUnlike 8 = .ok (.if_icmp .ge 31, 3) := by decide +kernel
theorem dX0_firstUnlike_11 : decode cX0_firstUnlike 11 = .ok (.aload_n 0, 1) := by decide +kernel
theorem dX0_firstUnlike_12 : decode cX0_firstUnlike 12 = .ok (.iload_n 2, 1) := by decide +kernel
theorem dX0_firstUnlike_13 : decode cX0_firstUnlike 13 = .ok (.iload_n 1, 1) := by decide +kernel
theorem dX0_firstUnlike_14 : decode cX0_firstUnlike 14 = .ok (.iload 4, 2) := by decide +kernel
theorem dX0_firstUnlike_16 : decode cX0_firstUnlike 16 = .ok (.invokevirtual 106, 3) := by decide +kernel
theorem dX0_firstUnlike_19 : decode cX0_firstUnlike 19 = .ok (.aload_n 0, 1) := by decide +kernel
theorem dX0_firstUnlike_20 : decode cX0_firstUnlike 20 = .ok (.iload_n 3, 1) := by decide +kernel
theorem dX0_firstUnlike_21 : decode cX0_firstUnlike 21 = .ok (.iload_n 1, 1) := by decide +kernel
theorem dX0_firstUnlike_22 : decode cX0_firstUnlike 22 = .ok (.iload 4, 2) := by decide +kernel
theorem dX0_firstUnlike_24 : decode cX0_firstUnlike 24 = .ok (.invokevirtual 106, 3) := by decide +kernel
theorem dX0_firstUnlike_27 : decode cX0_firstUnlike 27 = .ok (.if_icmp .eq 6, 3) := by decide +kernel
theorem dX0_firstUnlike_30 : decode cX0_firstUnlike 30 = .ok (.iload 4, 2) := by decide +kernel
theorem dX0_firstUnlike_32 : decode cX0_firstUnlike 32 = .ok (.ireturn, 1) := by decide +kernel
theorem dX0_firstUnlike_33 : decode cX0_firstUnlike 33 = .ok (.iinc 4 1, 3) := by decide +kernel
theorem dX0_firstUnlike_36 : decode cX0_firstUnlike 36 = .ok (.goto (-33), 3) := by decide +kernel
theorem dX0_firstUnlike_39 : decode cX0_firstUnlike 39 = .ok (.bipush (-9), 2) := by decide +kernel
theorem dX0_firstUnlike_41 : decode cX0_firstUnlike 41 = .ok (.ireturn, 1) := by decide +kernel
theorem dX0_missedAtHome_0 : decode cX0_missedAtHome 0 = .ok (.iconst 0, 1) := by decide +kernel
theorem dX0_missedAtHome_1 : decode cX0_missedAtHome 1 = .ok (.istore_n 3, 1) := by decide +kernel
theorem dX0_missedAtHome_2 : decode cX0_missedAtHome 2 = .ok (.iconst 0, 1) := by decide +kernel
theorem dX0_missedAtHome_3 : decode cX0_missedAtHome 3 = .ok (.istore 4, 2) := by decide +kernel
theorem dX0_missedAtHome_5 : decode cX0_missedAtHome 5 = .ok (.iload 4, 2) := by decide +kernel
theorem dX0_missedAtHome_7 : decode cX0_missedAtHome 7 = .ok (.aload_n 0, 1) := by decide +kernel
theorem dX0_missedAtHome_8 : decode cX0_missedAtHome 8 = .ok (.getfield 12, 3) := by decide +kernel
theorem dX0_missedAtHome_11 : decode cX0_missedAtHome 11 = .ok (.getfield 55, 3) := by decide +kernel
theorem dX0_missedAtHome_14 : decode cX0_missedAtHome 14 = .ok (.if_icmp .ge 58, 3) := by decide +kernel
theorem dX0_missedAtHome_17 : decode cX0_missedAtHome 17 = .ok (.aload_n 0, 1) := by decide +kernel
theorem dX0_missedAtHome_18 : decode cX0_missedAtHome 18 = .ok (.getfield 21, 3) := by decide +kernel
theorem dX0_missedAtHome_21 : decode cX0_missedAtHome 21 = .ok (.getfield 58, 3) := by decide +kernel
theorem dX0_missedAtHome_24 : decode cX0_missedAtHome 24 = .ok (.iload 4, 2) := by decide +kernel
theorem dX0_missedAtHome_26 : decode cX0_missedAtHome 26 = .ok (.iaload, 1) := by decide +kernel
theorem dX0_missedAtHome_27 : decode cX0_missedAtHome 27 = .ok (.iload_n 1, 1) := by decide +kernel
theorem dX0_missedAtHome_28 : decode cX0_missedAtHome 28 = .ok (.if_icmp .ne 38, 3) := by decide +kernel
theorem dX0_missedAtHome_31 : decode cX0_missedAtHome 31 = .ok (.aload_n 0, 1) := by decide +kernel
theorem dX0_missedAtHome_32 : decode cX0_missedAtHome 32 = .ok (.getfield 12, 3) := by decide +kernel
theorem dX0_missedAtHome_35 : decode cX0_missedAtHome 35 = .ok (.getfield 65, 3) := by decide +kernel
theorem dX0_missedAtHome_38 : decode cX0_missedAtHome 38 = .ok (.iload 4, 2) := by decide +kernel
theorem dX0_missedAtHome_40 : decode cX0_missedAtHome 40 = .ok (.iaload, 1) := by decide +kernel
theorem dX0_missedAtHome_41 : decode cX0_missedAtHome 41 = .ok (.aload_n 0, 1) := by decide +kernel
theorem dX0_missedAtHome_42 : decode cX0_missedAtHome 42 = .ok (.getfield 12, 3) := by decide +kernel
theorem dX0_missedAtHome_45 : decode cX0_missedAtHome 45 = .ok (.getfield 109, 3) := by decide +kernel
theorem dX0_missedAtHome_48 : decode cX0_missedAtHome 48 = .ok (.iload_n 1, 1) := by decide +kernel
theorem dX0_missedAtHome_49 : decode cX0_missedAtHome 49 = .ok (.iaload, 1) := by decide +kernel
theorem dX0_missedAtHome_50 : decode cX0_missedAtHome 50 = .ok (.if_icmp .eq 16, 3) := by decide +kernel
theorem dX0_missedAtHome_53 : decode cX0_missedAtHome 53 = .ok (.aload_n 0, 1) := by decide +kernel
theorem dX0_missedAtHome_54 : decode cX0_missedAtHome 54 = .ok (.iload 4, 2) := by decide +kernel
theorem dX0_missedAtHome_56 : decode cX0_missedAtHome 56 = .ok (.iload_n 2, 1) := by decide +kernel
theorem dX0_missedAtHome_57 : decode cX0_missedAtHome 57 = .ok (.invokevirtual 61, 3) := by decide +kernel
theorem dX0_missedAtHome_60 : decode cX0_missedAtHome 60 = .ok (.ifCond .eq 6, 3) := by decide +kernel
theorem dX0_missedAtHome_63 : decode cX0_missedAtHome 63 = .ok (.iinc 3 1, 3) := by decide +kernel
theorem dX0_missedAtHome_66 : decode cX0_missedAtHome 66 = .ok (.iinc 4 1, 3) := by decide +kernel
theorem dX0_missedAtHome_69 : decode cX0_missedAtHome 69 = .ok (.goto (-64), 3) := by decide +kernel
theorem dX0_missedAtHome_72 : decode cX0_missedAtHome 72 = .ok (.iload_n 3, 1) := by decide +kernel
theorem dX0_missedAtHome_73 : decode cX0_missedAtHome 73 = .ok (.ireturn, 1) := by decide +kernel
theorem dX1_init_0 : decode cX1_init 0 = .ok (.aload_n 0, 1) := by decide +kernel
theorem dX1_init_1 : decode cX1_init 1 = .ok (.invokespecial 3, 3) := by decide +kernel
theorem dX1_init_4 : decode cX1_init 4 = .ok (.aload_n 0, 1) := by decide +kernel
theorem dX1_init_5 : decode cX1_init 5 = .ok (.bipush 6, 2) := by decide +kernel
theorem dX1_init_7 : decode cX1_init 7 = .ok (.newarray .int, 2) := by decide +kernel
theorem dX1_init_9 : decode cX1_init 9 = .ok (.putfield 9, 3) := by decide +kernel
theorem dX1_init_12 : decode cX1_init 12 = .ok (.aload_n 0, 1) := by decide +kernel
theorem dX1_init_13 : decode cX1_init 13 = .ok (.bipush 6, 2) := by decide +kernel
theorem dX1_init_15 : decode cX1_init 15 = .ok (.newarray .int, 2) := by decide +kernel
theorem dX1_init_17 : decode cX1_init 17 = .ok (.putfield 15, 3) := by decide +kernel
theorem dX1_init_20 : decode cX1_init 20 = .ok (.aload_n 0, 1) := by decide +kernel
theorem dX1_init_21 : decode cX1_init 21 = .ok (.bipush 6, 2) := by decide +kernel
theorem dX1_init_23 : decode cX1_init 23 = .ok (.newarray .int, 2) := by decide +kernel
theorem dX1_init_25 : decode cX1_init 25 = .ok (.putfield 18, 3) := by decide +kernel
theorem dX1_init_28 : decode cX1_init 28 = .ok (.return_, 1) := by decide +kernel
theorem dX1_add_0 : decode cX1_add 0 = .ok (.aload_n 0, 1) := by decide +kernel
theorem dX1_add_1 : decode cX1_add 1 = .ok (.getfield 21, 3) := by decide +kernel
theorem dX1_add_4 : decode cX1_add 4 = .ok (.bipush 6, 2) := by decide +kernel
theorem dX1_add_6 : decode cX1_add 6 = .ok (.if_icmp .lt 5, 3) := by decide +kernel
theorem dX1_add_9 : decode cX1_add 9 = .ok (.iconst 0, 1) := by decide +kernel
theorem dX1_add_10 : decode cX1_add 10 = .ok (.ireturn, 1) := by decide +kernel
theorem dX1_add_11 : decode cX1_add 11 = .ok (.aload_n 0, 1) := by decide +kernel
theorem dX1_add_12 : decode cX1_add 12 = .ok (.getfield 9, 3) := by decide +kernel
theorem dX1_add_15 : decode cX1_add 15 = .ok (.aload_n 0, 1) := by decide +kernel
theorem dX1_add_16 : decode cX1_add 16 = .ok (.getfield 21, 3) := by decide +kernel
theorem dX1_add_19 : decode cX1_add 19 = .ok (.iload_n 1, 1) := by decide +kernel
theorem dX1_add_20 : decode cX1_add 20 = .ok (.iastore, 1) := by decide +kernel
theorem dX1_add_21 : decode cX1_add 21 = .ok (.aload_n 0, 1) := by decide +kernel
theorem dX1_add_22 : decode cX1_add 22 = .ok (.getfield 15, 3) := by decide +kernel
theorem dX1_add_25 : decode cX1_add 25 = .ok (.aload_n 0, 1) := by decide +kernel
theorem dX1_add_26 : decode cX1_add 26 = .ok (.getfield 21, 3) := by decide +kernel
theorem dX1_add_29 : decode cX1_add 29 = .ok (.iload_n 2, 1) := by decide +kernel
theorem dX1_add_30 : decode cX1_add 30 = .ok (.iastore, 1) := by decide +kernel
theorem dX1_add_31 : decode cX1_add 31 = .ok (.aload_n 0, 1) := by decide +kernel
theorem dX1_add_32 : decode cX1_add 32 = .ok (.getfield 18, 3) := by decide +kernel
theorem dX1_add_35 : decode cX1_add 35 = .ok (.aload_n 0, 1) := by decide +kernel
theorem dX1_add_36 : decode cX1_add 36 = .ok (.getfield 21, 3) := by decide +kernel
theorem dX1_add_39 : decode cX1_add 39 = .ok (.iload_n 3, 1) := by decide +kernel
theorem dX1_add_40 : decode cX1_add 40 = .ok (.iastore, 1) := by decide +kernel
theorem dX1_add_41 : decode cX1_add 41 = .ok (.aload_n 0, 1) := by decide +kernel
theorem dX1_add_42 : decode cX1_add 42 = .ok (.dup, 1) := by decide +kernel
theorem dX1_add_43 : decode cX1_add 43 = .ok (.getfield 21, 3) := by decide +kernel
theorem dX1_add_46 : decode cX1_add 46 = .ok (.iconst 1, 1) := by decide +kernel
theorem dX1_add_47 : decode cX1_add 47 = .ok (.iadd, 1) := by decide +kernel
theorem dX1_add_48 : decode cX1_add 48 = .ok (.putfield 21, 3) := by decide +kernel
theorem dX1_add_51 : decode cX1_add 51 = .ok (.iconst 1, 1) := by decide +kernel
theorem dX1_add_52 : decode cX1_add 52 = .ok (.ireturn, 1) := by decide +kernel
theorem dX1_drop_0 : decode cX1_drop 0 = .ok (.aload_n 0, 1) := by decide +kernel
theorem dX1_drop_1 : decode cX1_drop 1 = .ok (.getfield 21, 3) := by decide +kernel
theorem dX1_drop_4 : decode cX1_drop 4 = .ok (.istore_n 1, 1) := by decide +kernel
theorem dX1_drop_5 : decode cX1_drop 5 = .ok (.aload_n 0, 1) := by decide +kernel
theorem dX1_drop_6 : decode cX1_drop 6 = .ok (.iconst 0, 1) := by decide +kernel
theorem dX1_drop_7 : decode cX1_drop 7 = .ok (.putfield 21, 3) := by decide +kernel
theorem dX1_drop_10 : decode cX1_drop 10 = .ok (.iload_n 1, 1) := by decide +kernel
theorem dX1_drop_11 : decode cX1_drop 11 = .ok (.ireturn, 1) := by decide +kernel
theorem dX1_placesFor_0 : decode cX1_placesFor 0 = .ok (.iconst 0, 1) := by decide +kernel
theorem dX1_placesFor_1 : decode cX1_placesFor 1 = .ok (.istore_n 3, 1) := by decide +kernel
theorem dX1_placesFor_2 : decode cX1_placesFor 2 = .ok (.iconst 0, 1) := by decide +kernel
theorem dX1_placesFor_3 : decode cX1_placesFor 3 = .ok (.istore 4, 2) := by decide +kernel
theorem dX1_placesFor_5 : decode cX1_placesFor 5 = .ok (.iload 4, 2) := by decide +kernel
theorem dX1_placesFor_7 : decode cX1_placesFor 7 = .ok (.aload_n 1, 1) := by decide +kernel
theorem dX1_placesFor_8 : decode cX1_placesFor 8 = .ok (.getfield 25, 3) := by decide +kernel
theorem dX1_placesFor_11 : decode cX1_placesFor 11 = .ok (.getfield 31, 3) := by decide +kernel
theorem dX1_placesFor_14 : decode cX1_placesFor 14 = .ok (.if_icmp .ge 27, 3) := by decide +kernel
theorem dX1_placesFor_17 : decode cX1_placesFor 17 = .ok (.aload_n 0, 1) := by decide +kernel
theorem dX1_placesFor_18 : decode cX1_placesFor 18 = .ok (.aload_n 1, 1) := by decide +kernel
theorem dX1_placesFor_19 : decode cX1_placesFor 19 = .ok (.iload_n 2, 1) := by decide +kernel
theorem dX1_placesFor_20 : decode cX1_placesFor 20 = .ok (.iload 4, 2) := by decide +kernel
theorem dX1_placesFor_22 : decode cX1_placesFor 22 = .ok (.invokevirtual 36, 3) := by decide +kernel
theorem dX1_placesFor_25 : decode cX1_placesFor 25 = .ok (.ifCond .eq 10, 3) := by decide +kernel
theorem dX1_placesFor_28 : decode cX1_placesFor 28 = .ok (.iload_n 3, 1) := by decide +kernel
theorem dX1_placesFor_29 : decode cX1_placesFor 29 = .ok (.iconst 1, 1) := by decide +kernel
theorem dX1_placesFor_30 : decode cX1_placesFor 30 = .ok (.iload 4, 2) := by decide +kernel
theorem dX1_placesFor_32 : decode cX1_placesFor 32 = .ok (.ishl, 1) := by decide +kernel
theorem dX1_placesFor_33 : decode cX1_placesFor 33 = .ok (.ior, 1) := by decide +kernel
theorem dX1_placesFor_34 : decode cX1_placesFor 34 = .ok (.istore_n 3, 1) := by decide +kernel
theorem dX1_placesFor_35 : decode cX1_placesFor 35 = .ok (.iinc 4 1, 3) := by decide +kernel
theorem dX1_placesFor_38 : decode cX1_placesFor 38 = .ok (.goto (-33), 3) := by decide +kernel
theorem dX1_placesFor_41 : decode cX1_placesFor 41 = .ok (.iload_n 3, 1) := by decide +kernel
theorem dX1_placesFor_42 : decode cX1_placesFor 42 = .ok (.ireturn, 1) := by decide +kernel
theorem dX1_fits_0 : decode cX1_fits 0 = .ok (.iconst 0, 1) := by decide +kernel
theorem dX1_fits_1 : decode cX1_fits 1 = .ok (.istore 4, 2) := by decide +kernel
theorem dX1_fits_3 : decode cX1_fits 3 = .ok (.iload 4, 2) := by decide +kernel
theorem dX1_fits_5 : decode cX1_fits 5 = .ok (.aload_n 0, 1) := by decide +kernel
theorem dX1_fits_6 : decode cX1_fits 6 = .ok (.getfield 21, 3) := by decide +kernel
theorem dX1_fits_9 : decode cX1_fits 9 = .ok (.if_icmp .ge 54, 3) := by decide +kernel
theorem dX1_fits_12 : decode cX1_fits 12 = .ok (.aload_n 0, 1) := by decide +kernel
theorem dX1_fits_13 : decode cX1_fits 13 = .ok (.getfield 9, 3) := by decide +kernel
theorem dX1_fits_16 : decode cX1_fits 16 = .ok (.iload 4, 2) := by decide +kernel
theorem dX1_fits_18 : decode cX1_fits 18 = .ok (.iaload, 1) := by decide +kernel
theorem dX1_fits_19 : decode cX1_fits 19 = .ok (.iload_n 2, 1) := by decide +kernel
theorem dX1_fits_20 : decode cX1_fits 20 = .ok (.if_icmp .ne 37, 3) := by decide +kernel
theorem dX1_fits_23 : decode cX1_fits 23 = .ok (.aload_n 1, 1) := by decide +kernel
theorem dX1_fits_24 : decode cX1_fits 24 = .ok (.iload_n 3, 1) := by decide +kernel
theorem dX1_fits_25 : decode cX1_fits 25 = .ok (.iload_n 2, 1) := by decide +kernel
theorem dX1_fits_26 : decode cX1_fits 26 = .ok (.aload_n 0, 1) := by decide +kernel
theorem dX1_fits_27 : decode cX1_fits 27 = .ok (.getfield 15, 3) := by decide +kernel
theorem dX1_fits_30 : decode cX1_fits 30 = .ok (.iload 4, 2) := by decide +kernel
theorem dX1_fits_32 : decode cX1_fits 32 = .ok (.iaload, 1) := by decide +kernel
theorem dX1_fits_33 : decode cX1_fits 33 = .ok (.invokevirtual 40, 3) := by decide +kernel
theorem dX1_fits_36 : decode cX1_fits 36 = .ok (.aload_n 0, 1) := by decide +kernel
theorem dX1_fits_37 : decode cX1_fits 37 = .ok (.getfield 18, 3) := by decide +kernel
theorem dX1_fits_40 : decode cX1_fits 40 = .ok (.iload 4, 2) := by decide +kernel
theorem dX1_fits_42 : decode cX1_fits 42 = .ok (.iaload, 1) := by decide +kernel
theorem dX1_fits_43 : decode cX1_fits 43 = .ok (.iconst 1, 1) := by decide +kernel
theorem dX1_fits_44 : decode cX1_fits 44 = .ok (.if_icmp .ne 7, 3) := by decide +kernel
theorem dX1_fits_47 : decode cX1_fits 47 = .ok (.iconst 1, 1) := by decide +kernel
theorem dX1_fits_48 : decode cX1_fits 48 = .ok (.goto 4, 3) := by decide +kernel
theorem dX1_fits_51 : decode cX1_fits 51 = .ok (.iconst 0, 1) := by decide +kernel
theorem dX1_fits_52 : decode cX1_fits 52 = .ok (.if_icmp .eq 5, 3) := by decide +kernel
theorem dX1_fits_55 : decode cX1_fits 55 = .ok (.iconst 0, 1) := by decide +kernel
theorem dX1_fits_56 : decode cX1_fits 56 = .ok (.ireturn, 1) := by decide +kernel
theorem dX1_fits_57 : decode cX1_fits 57 = .ok (.iinc 4 1, 3) := by decide +kernel
theorem dX1_fits_60 : decode cX1_fits 60 = .ok (.goto (-57), 3) := by decide +kernel
theorem dX1_fits_63 : decode cX1_fits 63 = .ok (.iconst 1, 1) := by decide +kernel
theorem dX1_fits_64 : decode cX1_fits 64 = .ok (.ireturn, 1) := by decide +kernel
theorem dX2_init_0 : decode cX2_init 0 = .ok (.aload_n 0, 1) := by decide +kernel
theorem dX2_init_1 : decode cX2_init 1 = .ok (.invokespecial 3, 3) := by decide +kernel
theorem dX2_init_4 : decode cX2_init 4 = .ok (.aload_n 0, 1) := by decide +kernel
theorem dX2_init_5 : decode cX2_init 5 = .ok (.bipush 10, 2) := by decide +kernel
theorem dX2_init_7 : decode cX2_init 7 = .ok (.anewarray 9, 3) := by decide +kernel
theorem dX2_init_10 : decode cX2_init 10 = .ok (.putfield 11, 3) := by decide +kernel
theorem dX2_init_13 : decode cX2_init 13 = .ok (.iconst 0, 1) := by decide +kernel
theorem dX2_init_14 : decode cX2_init 14 = .ok (.istore_n 1, 1) := by decide +kernel
theorem dX2_init_15 : decode cX2_init 15 = .ok (.iload_n 1, 1) := by decide +kernel
theorem dX2_init_16 : decode cX2_init 16 = .ok (.bipush 10, 2) := by decide +kernel
theorem dX2_init_18 : decode cX2_init 18 = .ok (.if_icmp .ge 22, 3) := by decide +kernel
theorem dX2_init_21 : decode cX2_init 21 = .ok (.aload_n 0, 1) := by decide +kernel
theorem dX2_init_22 : decode cX2_init 22 = .ok (.getfield 11, 3) := by decide +kernel
theorem dX2_init_25 : decode cX2_init 25 = .ok (.iload_n 1, 1) := by decide +kernel
theorem dX2_init_26 : decode cX2_init 26 = .ok (.new 9, 3) := by decide +kernel
theorem dX2_init_29 : decode cX2_init 29 = .ok (.dup, 1) := by decide +kernel
theorem dX2_init_30 : decode cX2_init 30 = .ok (.invokespecial 17, 3) := by decide +kernel
theorem dX2_init_33 : decode cX2_init 33 = .ok (.aastore, 1) := by decide +kernel
theorem dX2_init_34 : decode cX2_init 34 = .ok (.iinc 1 1, 3) := by decide +kernel
theorem dX2_init_37 : decode cX2_init 37 = .ok (.goto (-22), 3) := by decide +kernel
theorem dX2_init_40 : decode cX2_init 40 = .ok (.return_, 1) := by decide +kernel
theorem dX2_remember_0 : decode cX2_remember 0 = .ok (.aload_n 0, 1) := by decide +kernel
theorem dX2_remember_1 : decode cX2_remember 1 = .ok (.getfield 11, 3) := by decide +kernel
theorem dX2_remember_4 : decode cX2_remember 4 = .ok (.aload_n 0, 1) := by decide +kernel
theorem dX2_remember_5 : decode cX2_remember 5 = .ok (.getfield 18, 3) := by decide +kernel
theorem dX2_remember_8 : decode cX2_remember 8 = .ok (.aaload, 1) := by decide +kernel
theorem dX2_remember_9 : decode cX2_remember 9 = .ok (.aload_n 1, 1) := by decide +kernel
theorem dX2_remember_10 : decode cX2_remember 10 = .ok (.invokevirtual 22, 3) := by decide +kernel
theorem dX2_remember_13 : decode cX2_remember 13 = .ok (.aload_n 0, 1) := by decide +kernel
theorem dX2_remember_14 : decode cX2_remember 14 = .ok (.aload_n 0, 1) := by decide +kernel
theorem dX2_remember_15 : decode cX2_remember 15 = .ok (.getfield 18, 3) := by decide +kernel
theorem dX2_remember_18 : decode cX2_remember 18 = .ok (.iconst 1, 1) := by decide +kernel
theorem dX2_remember_19 : decode cX2_remember 19 = .ok (.iadd, 1) := by decide +kernel
theorem dX2_remember_20 : decode cX2_remember 20 = .ok (.bipush 10, 2) := by decide +kernel
theorem dX2_remember_22 : decode cX2_remember 22 = .ok (.irem, 1) := by decide +kernel
theorem dX2_remember_23 : decode cX2_remember 23 = .ok (.putfield 18, 3) := by decide +kernel
theorem dX2_remember_26 : decode cX2_remember 26 = .ok (.aload_n 0, 1) := by decide +kernel
theorem dX2_remember_27 : decode cX2_remember 27 = .ok (.aload_n 0, 1) := by decide +kernel
theorem dX2_remember_28 : decode cX2_remember 28 = .ok (.getfield 26, 3) := by decide +kernel
theorem dX2_remember_31 : decode cX2_remember 31 = .ok (.iconst 1, 1) := by decide +kernel
theorem dX2_remember_32 : decode cX2_remember 32 = .ok (.iadd, 1) := by decide +kernel
theorem dX2_remember_33 : decode cX2_remember 33 = .ok (.bipush 10, 2) := by decide +kernel
theorem dX2_remember_35 : decode cX2_remember 35 = .ok (.invokestatic 29, 3) := by decide +kernel
theorem dX2_remember_38 : decode cX2_remember 38 = .ok (.putfield 26, 3) := by decide +kernel
theorem dX2_remember_41 : decode cX2_remember 41 = .ok (.return_, 1) := by decide +kernel
theorem dX2_restore_0 : decode cX2_restore 0 = .ok (.aload_n 0, 1) := by decide +kernel
theorem dX2_restore_1 : decode cX2_restore 1 = .ok (.getfield 26, 3) := by decide +kernel
theorem dX2_restore_4 : decode cX2_restore 4 = .ok (.ifCond .ne 4, 3) := by decide +kernel
theorem dX2_restore_7 : decode cX2_restore 7 = .ok (.return_, 1) := by decide +kernel
theorem dX2_restore_8 : decode cX2_restore 8 = .ok (.aload_n 0, 1) := by decide +kernel
theorem dX2_restore_9 : decode cX2_restore 9 = .ok (.aload_n 0, 1) := by decide +kernel
theorem dX2_restore_10 : decode cX2_restore 10 = .ok (.getfield 18, 3) := by decide +kernel
theorem dX2_restore_13 : decode cX2_restore 13 = .ok (.bipush 10, 2) := by decide +kernel
theorem dX2_restore_15 : decode cX2_restore 15 = .ok (.iadd, 1) := by decide +kernel
theorem dX2_restore_16 : decode cX2_restore 16 = .ok (.iconst 1, 1) := by decide +kernel
theorem dX2_restore_17 : decode cX2_restore 17 = .ok (.isub, 1) := by decide +kernel
theorem dX2_restore_18 : decode cX2_restore 18 = .ok (.bipush 10, 2) := by decide +kernel
theorem dX2_restore_20 : decode cX2_restore 20 = .ok (.irem, 1) := by decide +kernel
theorem dX2_restore_21 : decode cX2_restore 21 = .ok (.putfield 18, 3) := by decide +kernel
theorem dX2_restore_24 : decode cX2_restore 24 = .ok (.aload_n 0, 1) := by decide +kernel
theorem dX2_restore_25 : decode cX2_restore 25 = .ok (.dup, 1) := by decide +kernel
theorem dX2_restore_26 : decode cX2_restore 26 = .ok (.getfield 26, 3) := by decide +kernel
theorem dX2_restore_29 : decode cX2_restore 29 = .ok (.iconst 1, 1) := by decide +kernel
theorem dX2_restore_30 : decode cX2_restore 30 = .ok (.isub, 1) := by decide +kernel
theorem dX2_restore_31 : decode cX2_restore 31 = .ok (.putfield 26, 3) := by decide +kernel
theorem dX2_restore_34 : decode cX2_restore 34 = .ok (.aload_n 1, 1) := by decide +kernel
theorem dX2_restore_35 : decode cX2_restore 35 = .ok (.aload_n 0, 1) := by decide +kernel
theorem dX2_restore_36 : decode cX2_restore 36 = .ok (.getfield 11, 3) := by decide +kernel
theorem dX2_restore_39 : decode cX2_restore 39 = .ok (.aload_n 0, 1) := by decide +kernel
theorem dX2_restore_40 : decode cX2_restore 40 = .ok (.getfield 18, 3) := by decide +kernel
theorem dX2_restore_43 : decode cX2_restore 43 = .ok (.aaload, 1) := by decide +kernel
theorem dX2_restore_44 : decode cX2_restore 44 = .ok (.invokevirtual 22, 3) := by decide +kernel
theorem dX2_restore_47 : decode cX2_restore 47 = .ok (.return_, 1) := by decide +kernel
theorem dX2_lose_0 : decode cX2_lose 0 = .ok (.aload_n 0, 1) := by decide +kernel
theorem dX2_lose_1 : decode cX2_lose 1 = .ok (.iconst 0, 1) := by decide +kernel
theorem dX2_lose_2 : decode cX2_lose 2 = .ok (.putfield 26, 3) := by decide +kernel
theorem dX2_lose_5 : decode cX2_lose 5 = .ok (.return_, 1) := by decide +kernel
theorem dX3_init_0 : decode cX3_init 0 = .ok (.aload_n 0, 1) := by decide +kernel
theorem dX3_init_1 : decode cX3_init 1 = .ok (.invokespecial 3, 3) := by decide +kernel
theorem dX3_init_4 : decode cX3_init 4 = .ok (.aload_n 0, 1) := by decide +kernel
theorem dX3_init_5 : decode cX3_init 5 = .ok (.iconst 5, 1) := by decide +kernel
theorem dX3_init_6 : decode cX3_init 6 = .ok (.newarray .int, 2) := by decide +kernel
theorem dX3_init_8 : decode cX3_init 8 = .ok (.putfield 9, 3) := by decide +kernel
theorem dX3_init_11 : decode cX3_init 11 = .ok (.aload_n 0, 1) := by decide +kernel
theorem dX3_init_12 : decode cX3_init 12 = .ok (.iconst 5, 1) := by decide +kernel
theorem dX3_init_13 : decode cX3_init 13 = .ok (.newarray .int, 2) := by decide +kernel
theorem dX3_init_15 : decode cX3_init 15 = .ok (.putfield 15, 3) := by decide +kernel
theorem dX3_init_18 : decode cX3_init 18 = .ok (.aload_n 0, 1) := by decide +kernel
theorem dX3_init_19 : decode cX3_init 19 = .ok (.iconst 5, 1) := by decide +kernel
theorem dX3_init_20 : decode cX3_init 20 = .ok (.newarray .int, 2) := by decide +kernel
theorem dX3_init_22 : decode cX3_init 22 = .ok (.putfield 18, 3) := by decide +kernel
theorem dX3_init_25 : decode cX3_init 25 = .ok (.aload_n 0, 1) := by decide +kernel
theorem dX3_init_26 : decode cX3_init 26 = .ok (.bipush 8, 2) := by decide +kernel
theorem dX3_init_28 : decode cX3_init 28 = .ok (.newarray .int, 2) := by decide +kernel
theorem dX3_init_30 : decode cX3_init 30 = .ok (.putfield 21, 3) := by decide +kernel
theorem dX3_init_33 : decode cX3_init 33 = .ok (.return_, 1) := by decide +kernel
theorem dX3_begin_0 : decode cX3_begin 0 = .ok (.aload_n 0, 1) := by decide +kernel
theorem dX3_begin_1 : decode cX3_begin 1 = .ok (.iconst 0, 1) := by decide +kernel
theorem dX3_begin_2 : decode cX3_begin 2 = .ok (.putfield 24, 3) := by decide +kernel
theorem dX3_begin_5 : decode cX3_begin 5 = .ok (.aload_n 0, 1) := by decide +kernel
theorem dX3_begin_6 : decode cX3_begin 6 = .ok (.iconst 0, 1) := by decide +kernel
theorem dX3_begin_7 : decode cX3_begin 7 = .ok (.putfield 28, 3) := by decide +kernel
theorem dX3_begin_10 : decode cX3_begin 10 = .ok (.iconst 0, 1) := by decide +kernel
theorem dX3_begin_11 : decode cX3_begin 11 = .ok (.istore_n 2, 1) := by decide +kernel
theorem dX3_begin_12 : decode cX3_begin 12 = .ok (.iload_n 2, 1) := by decide +kernel
theorem dX3_begin_13 : decode cX3_begin 13 = .ok (.iconst 5, 1) := by decide +kernel
theorem dX3_begin_14 : decode cX3_begin 14 = .ok (.if_icmp .ge 35, 3) := by decide +kernel
theorem dX3_begin_17 : decode cX3_begin 17 = .ok (.aload_n 0, 1) := by decide +kernel
theorem dX3_begin_18 : decode cX3_begin 18 = .ok (.getfield 9, 3) := by decide +kernel
theorem dX3_begin_21 : decode cX3_begin 21 = .ok (.iload_n 2, 1) := by decide +kernel
theorem dX3_begin_22 : decode cX3_begin 22 = .ok (.aload_n 1, 1) := by decide +kernel
theorem dX3_begin_23 : decode cX3_begin 23 = .ok (.getfield 31, 3) := by decide +kernel
theorem dX3_begin_26 : decode cX3_begin 26 = .ok (.iload_n 2, 1) := by decide +kernel
theorem dX3_begin_27 : decode cX3_begin 27 = .ok (.iaload, 1) := by decide +kernel
theorem dX3_begin_28 : decode cX3_begin 28 = .ok (.iastore, 1) := by decide +kernel
theorem dX3_begin_29 : decode cX3_begin 29 = .ok (.aload_n 0, 1) := by decide +kernel
theorem dX3_begin_30 : decode cX3_begin 30 = .ok (.getfield 15, 3) := by decide +kernel
theorem dX3_begin_33 : decode cX3_begin 33 = .ok (.iload_n 2, 1) := by decide +kernel
theorem dX3_begin_34 : decode cX3_begin 34 = .ok (.iconst 0, 1) := by decide +kernel
theorem dX3_begin_35 : decode cX3_begin 35 = .ok (.iastore, 1) := by decide +kernel
theorem dX3_begin_36 : decode cX3_begin 36 = .ok (.aload_n 0, 1) := by decide +kernel
theorem dX3_begin_37 : decode cX3_begin 37 = .ok (.getfield 18, 3) := by decide +kernel
theorem dX3_begin_40 : decode cX3_begin 40 = .ok (.iload_n 2, 1) := by decide +kernel
theorem dX3_begin_41 : decode cX3_begin 41 = .ok (.iconst 0, 1) := by decide +kernel
theorem dX3_begin_42 : decode cX3_begin 42 = .ok (.iastore, 1) := by decide +kernel
theorem dX3_begin_43 : decode cX3_begin 43 = .ok (.iinc 2 1, 3) := by decide +kernel
theorem dX3_begin_46 : decode cX3_begin 46 = .ok (.goto (-34), 3) := by decide +kernel
theorem dX3_begin_49 : decode cX3_begin 49 = .ok (.aload_n 1, 1) := by decide +kernel
theorem dX3_begin_50 : decode cX3_begin 50 = .ok (.getfield 36, 3) := by decide +kernel
theorem dX3_begin_53 : decode cX3_begin 53 = .ok (.iconst 0, 1) := by decide +kernel
theorem dX3_begin_54 : decode cX3_begin 54 = .ok (.aload_n 0, 1) := by decide +kernel
theorem dX3_begin_55 : decode cX3_begin 55 = .ok (.getfield 21, 3) := by decide +kernel
theorem dX3_begin_58 : decode cX3_begin 58 = .ok (.iconst 0, 1) := by decide +kernel
theorem dX3_begin_59 : decode cX3_begin 59 = .ok (.bipush 8, 2) := by decide +kernel
theorem dX3_begin_61 : decode cX3_begin 61 = .ok (.invokestatic 39, 3) := by decide +kernel
theorem dX3_begin_64 : decode cX3_begin 64 = .ok (.return_, 1) := by decide +kernel
theorem dX3_take_0 : decode cX3_take 0 = .ok (.aload_n 0, 1) := by decide +kernel
theorem dX3_take_1 : decode cX3_take 1 = .ok (.aload_n 1, 1) := by decide +kernel
theorem dX3_take_2 : decode cX3_take 2 = .ok (.getfield 24, 3) := by decide +kernel
theorem dX3_take_5 : decode cX3_take 5 = .ok (.putfield 24, 3) := by decide +kernel
theorem dX3_take_8 : decode cX3_take 8 = .ok (.aload_n 0, 1) := by decide +kernel
theorem dX3_take_9 : decode cX3_take 9 = .ok (.aload_n 1, 1) := by decide +kernel
theorem dX3_take_10 : decode cX3_take 10 = .ok (.getfield 28, 3) := by decide +kernel
theorem dX3_take_13 : decode cX3_take 13 = .ok (.putfield 28, 3) := by decide +kernel
theorem dX3_take_16 : decode cX3_take 16 = .ok (.aload_n 1, 1) := by decide +kernel
theorem dX3_take_17 : decode cX3_take 17 = .ok (.getfield 9, 3) := by decide +kernel
theorem dX3_take_20 : decode cX3_take 20 = .ok (.iconst 0, 1) := by decide +kernel
theorem dX3_take_21 : decode cX3_take 21 = .ok (.aload_n 0, 1) := by decide +kernel
theorem dX3_take_22 : decode cX3_take 22 = .ok (.getfield 9, 3) := by decide +kernel
theorem dX3_take_25 : decode cX3_take 25 = .ok (.iconst 0, 1) := by decide +kernel
theorem dX3_take_26 : decode cX3_take 26 = .ok (.iconst 5, 1) := by decide +kernel
theorem dX3_take_27 : decode cX3_take 27 = .ok (.invokestatic 39, 3) := by decide +kernel
theorem dX3_take_30 : decode cX3_take 30 = .ok (.aload_n 1, 1) := by decide +kernel
theorem dX3_take_31 : decode cX3_take 31 = .ok (.getfield 15, 3) := by decide +kernel
theorem dX3_take_34 : decode cX3_take 34 = .ok (.iconst 0, 1) := by decide +kernel
theorem dX3_take_35 : decode cX3_take 35 = .ok (.aload_n 0, 1) := by decide +kernel
theorem dX3_take_36 : decode cX3_take 36 = .ok (.getfield 15, 3) := by decide +kernel
theorem dX3_take_39 : decode cX3_take 39 = .ok (.iconst 0, 1) := by decide +kernel
theorem dX3_take_40 : decode cX3_take 40 = .ok (.iconst 5, 1) := by decide +kernel
theorem dX3_take_41 : decode cX3_take 41 = .ok (.invokestatic 39, 3) := by decide +kernel
theorem dX3_take_44 : decode cX3_take 44 = .ok (.aload_n 1, 1) := by decide +kernel
theorem dX3_take_45 : decode cX3_take 45 = .ok (.getfield 18, 3) := by decide +kernel
theorem dX3_take_48 : decode cX3_take 48 = .ok (.iconst 0, 1) := by decide +kernel
theorem dX3_take_49 : decode cX3_take 49 = .ok (.aload_n 0, 1) := by decide +kernel
theorem dX3_take_50 : decode cX3_take 50 = .ok (.getfield 18, 3) := by decide +kernel
theorem dX3_take_53 : decode cX3_take 53 = .ok (.iconst 0, 1) := by decide +kernel
theorem dX3_take_54 : decode cX3_take 54 = .ok (.iconst 5, 1) := by decide +kernel
theorem dX3_take_55 : decode cX3_take 55 = .ok (.invokestatic 39, 3) := by decide +kernel
theorem dX3_take_58 : decode cX3_take 58 = .ok (.aload_n 1, 1) := by decide +kernel
theorem dX3_take_59 : decode cX3_take 59 = .ok (.getfield 21, 3) := by decide +kernel
theorem dX3_take_62 : decode cX3_take 62 = .ok (.iconst 0, 1) := by decide +kernel
theorem dX3_take_63 : decode cX3_take 63 = .ok (.aload_n 0, 1) := by decide +kernel
theorem dX3_take_64 : decode cX3_take 64 = .ok (.getfield 21, 3) := by decide +kernel
theorem dX3_take_67 : decode cX3_take 67 = .ok (.iconst 0, 1) := by decide +kernel
theorem dX3_take_68 : decode cX3_take 68 = .ok (.bipush 8, 2) := by decide +kernel
theorem dX3_take_70 : decode cX3_take 70 = .ok (.invokestatic 39, 3) := by decide +kernel
theorem dX3_take_73 : decode cX3_take 73 = .ok (.return_, 1) := by decide +kernel
theorem dX4_init_0 : decode cX4_init 0 = .ok (.aload_n 0, 1) := by decide +kernel
theorem dX4_init_1 : decode cX4_init 1 = .ok (.invokespecial 3, 3) := by decide +kernel
theorem dX4_init_4 : decode cX4_init 4 = .ok (.aload_n 0, 1) := by decide +kernel
theorem dX4_init_5 : decode cX4_init 5 = .ok (.iconst 2, 1) := by decide +kernel
theorem dX4_init_6 : decode cX4_init 6 = .ok (.putfield 9, 3) := by decide +kernel
theorem dX4_init_9 : decode cX4_init 9 = .ok (.aload_n 0, 1) := by decide +kernel
theorem dX4_init_10 : decode cX4_init 10 = .ok (.iconst 2, 1) := by decide +kernel
theorem dX4_init_11 : decode cX4_init 11 = .ok (.putfield 15, 3) := by decide +kernel
theorem dX4_init_14 : decode cX4_init 14 = .ok (.aload_n 0, 1) := by decide +kernel
theorem dX4_init_15 : decode cX4_init 15 = .ok (.iconst 3, 1) := by decide +kernel
theorem dX4_init_16 : decode cX4_init 16 = .ok (.putfield 18, 3) := by decide +kernel
theorem dX4_init_19 : decode cX4_init 19 = .ok (.aload_n 0, 1) := by decide +kernel
theorem dX4_init_20 : decode cX4_init 20 = .ok (.iconst 5, 1) := by decide +kernel
theorem dX4_init_21 : decode cX4_init 21 = .ok (.newarray .int, 2) := by decide +kernel
theorem dX4_init_23 : decode cX4_init 23 = .ok (.putfield 21, 3) := by decide +kernel
theorem dX4_init_26 : decode cX4_init 26 = .ok (.aload_n 0, 1) := by decide +kernel
theorem dX4_init_27 : decode cX4_init 27 = .ok (.bipush 8, 2) := by decide +kernel
theorem dX4_init_29 : decode cX4_init 29 = .ok (.newarray .int, 2) := by decide +kernel
theorem dX4_init_31 : decode cX4_init 31 = .ok (.putfield 25, 3) := by decide +kernel
theorem dX4_init_34 : decode cX4_init 34 = .ok (.aload_n 0, 1) := by decide +kernel
theorem dX4_init_35 : decode cX4_init 35 = .ok (.bipush 8, 2) := by decide +kernel
theorem dX4_init_37 : decode cX4_init 37 = .ok (.newarray .int, 2) := by decide +kernel
theorem dX4_init_39 : decode cX4_init 39 = .ok (.putfield 28, 3) := by decide +kernel
theorem dX4_init_42 : decode cX4_init 42 = .ok (.aload_n 0, 1) := by decide +kernel
theorem dX4_init_43 : decode cX4_init 43 = .ok (.bipush 8, 2) := by decide +kernel
theorem dX4_init_45 : decode cX4_init 45 = .ok (.newarray .int, 2) := by decide +kernel
theorem dX4_init_47 : decode cX4_init 47 = .ok (.putfield 31, 3) := by decide +kernel
theorem dX4_init_50 : decode cX4_init 50 = .ok (.aload_n 0, 1) := by decide +kernel
theorem dX4_init_51 : decode cX4_init 51 = .ok (.bipush 8, 2) := by decide +kernel
theorem dX4_init_53 : decode cX4_init 53 = .ok (.newarray .int, 2) := by decide +kernel
theorem dX4_init_55 : decode cX4_init 55 = .ok (.putfield 34, 3) := by decide +kernel
theorem dX4_init_58 : decode cX4_init 58 = .ok (.return_, 1) := by decide +kernel
theorem dX4_reset_0 : decode cX4_reset 0 = .ok (.aload_n 0, 1) := by decide +kernel
theorem dX4_reset_1 : decode cX4_reset 1 = .ok (.iconst 2, 1) := by decide +kernel
theorem dX4_reset_2 : decode cX4_reset 2 = .ok (.putfield 9, 3) := by decide +kernel
theorem dX4_reset_5 : decode cX4_reset 5 = .ok (.aload_n 0, 1) := by decide +kernel
theorem dX4_reset_6 : decode cX4_reset 6 = .ok (.iconst 0, 1) := by decide +kernel
theorem dX4_reset_7 : decode cX4_reset 7 = .ok (.putfield 37, 3) := by decide +kernel
theorem dX4_reset_10 : decode cX4_reset 10 = .ok (.aload_n 0, 1) := by decide +kernel
theorem dX4_reset_11 : decode cX4_reset 11 = .ok (.iconst 0, 1) := by decide +kernel
theorem dX4_reset_12 : decode cX4_reset 12 = .ok (.putfield 40, 3) := by decide +kernel
theorem dX4_reset_15 : decode cX4_reset 15 = .ok (.aload_n 0, 1) := by decide +kernel
theorem dX4_reset_16 : decode cX4_reset 16 = .ok (.iconst 2, 1) := by decide +kernel
theorem dX4_reset_17 : decode cX4_reset 17 = .ok (.putfield 15, 3) := by decide +kernel
theorem dX4_reset_20 : decode cX4_reset 20 = .ok (.aload_n 0, 1) := by decide +kernel
theorem dX4_reset_21 : decode cX4_reset 21 = .ok (.iconst 3, 1) := by decide +kernel
theorem dX4_reset_22 : decode cX4_reset 22 = .ok (.putfield 18, 3) := by decide +kernel
theorem dX4_reset_25 : decode cX4_reset 25 = .ok (.return_, 1) := by decide +kernel
theorem dX4_take_0 : decode cX4_take 0 = .ok (.aload_n 0, 1) := by decide +kernel
theorem dX4_take_1 : decode cX4_take 1 = .ok (.aload_n 1, 1) := by decide +kernel
theorem dX4_take_2 : decode cX4_take 2 = .ok (.getfield 9, 3) := by decide +kernel
theorem dX4_take_5 : decode cX4_take 5 = .ok (.putfield 9, 3) := by decide +kernel
theorem dX4_take_8 : decode cX4_take 8 = .ok (.aload_n 0, 1) := by decide +kernel
theorem dX4_take_9 : decode cX4_take 9 = .ok (.aload_n 1, 1) := by decide +kernel
theorem dX4_take_10 : decode cX4_take 10 = .ok (.getfield 37, 3) := by decide +kernel
theorem dX4_take_13 : decode cX4_take 13 = .ok (.putfield 37, 3) := by decide +kernel
theorem dX4_take_16 : decode cX4_take 16 = .ok (.aload_n 0, 1) := by decide +kernel
theorem dX4_take_17 : decode cX4_take 17 = .ok (.aload_n 1, 1) := by decide +kernel
theorem dX4_take_18 : decode cX4_take 18 = .ok (.getfield 40, 3) := by decide +kernel
theorem dX4_take_21 : decode cX4_take 21 = .ok (.putfield 40, 3) := by decide +kernel
theorem dX4_take_24 : decode cX4_take 24 = .ok (.aload_n 0, 1) := by decide +kernel
theorem dX4_take_25 : decode cX4_take 25 = .ok (.aload_n 1, 1) := by decide +kernel
theorem dX4_take_26 : decode cX4_take 26 = .ok (.getfield 15, 3) := by decide +kernel
theorem dX4_take_29 : decode cX4_take 29 = .ok (.putfield 15, 3) := by decide +kernel
theorem dX4_take_32 : decode cX4_take 32 = .ok (.aload_n 0, 1) := by decide +kernel
theorem dX4_take_33 : decode cX4_take 33 = .ok (.aload_n 1, 1) := by decide +kernel
theorem dX4_take_34 : decode cX4_take 34 = .ok (.getfield 18, 3) := by decide +kernel
theorem dX4_take_37 : decode cX4_take 37 = .ok (.putfield 18, 3) := by decide +kernel
theorem dX4_take_40 : decode cX4_take 40 = .ok (.aload_n 1, 1) := by decide +kernel
theorem dX4_take_41 : decode cX4_take 41 = .ok (.getfield 21, 3) := by decide +kernel
theorem dX4_take_44 : decode cX4_take 44 = .ok (.iconst 0, 1) := by decide +kernel
theorem dX4_take_45 : decode cX4_take 45 = .ok (.aload_n 0, 1) := by decide +kernel
theorem dX4_take_46 : decode cX4_take 46 = .ok (.getfield 21, 3) := by decide +kernel
theorem dX4_take_49 : decode cX4_take 49 = .ok (.iconst 0, 1) := by decide +kernel
theorem dX4_take_50 : decode cX4_take 50 = .ok (.iconst 5, 1) := by decide +kernel
theorem dX4_take_51 : decode cX4_take 51 = .ok (.invokestatic 43, 3) := by decide +kernel
theorem dX4_take_54 : decode cX4_take 54 = .ok (.aload_n 1, 1) := by decide +kernel
theorem dX4_take_55 : decode cX4_take 55 = .ok (.getfield 25, 3) := by decide +kernel
theorem dX4_take_58 : decode cX4_take 58 = .ok (.iconst 0, 1) := by decide +kernel
theorem dX4_take_59 : decode cX4_take 59 = .ok (.aload_n 0, 1) := by decide +kernel
theorem dX4_take_60 : decode cX4_take 60 = .ok (.getfield 25, 3) := by decide +kernel
theorem dX4_take_63 : decode cX4_take 63 = .ok (.iconst 0, 1) := by decide +kernel
theorem dX4_take_64 : decode cX4_take 64 = .ok (.bipush 8, 2) := by decide +kernel
theorem dX4_take_66 : decode cX4_take 66 = .ok (.invokestatic 43, 3) := by decide +kernel
theorem dX4_take_69 : decode cX4_take 69 = .ok (.aload_n 1, 1) := by decide +kernel
theorem dX4_take_70 : decode cX4_take 70 = .ok (.getfield 28, 3) := by decide +kernel
theorem dX4_take_73 : decode cX4_take 73 = .ok (.iconst 0, 1) := by decide +kernel
theorem dX4_take_74 : decode cX4_take 74 = .ok (.aload_n 0, 1) := by decide +kernel
theorem dX4_take_75 : decode cX4_take 75 = .ok (.getfield 28, 3) := by decide +kernel
theorem dX4_take_78 : decode cX4_take 78 = .ok (.iconst 0, 1) := by decide +kernel
theorem dX4_take_79 : decode cX4_take 79 = .ok (.bipush 8, 2) := by decide +kernel
theorem dX4_take_81 : decode cX4_take 81 = .ok (.invokestatic 43, 3) := by decide +kernel
theorem dX4_take_84 : decode cX4_take 84 = .ok (.aload_n 1, 1) := by decide +kernel
theorem dX4_take_85 : decode cX4_take 85 = .ok (.getfield 31, 3) := by decide +kernel
theorem dX4_take_88 : decode cX4_take 88 = .ok (.iconst 0, 1) := by decide +kernel
theorem dX4_take_89 : decode cX4_take 89 = .ok (.aload_n 0, 1) := by decide +kernel
theorem dX4_take_90 : decode cX4_take 90 = .ok (.getfield 31, 3) := by decide +kernel
theorem dX4_take_93 : decode cX4_take 93 = .ok (.iconst 0, 1) := by decide +kernel
theorem dX4_take_94 : decode cX4_take 94 = .ok (.bipush 8, 2) := by decide +kernel
theorem dX4_take_96 : decode cX4_take 96 = .ok (.invokestatic 43, 3) := by decide +kernel
theorem dX4_take_99 : decode cX4_take 99 = .ok (.aload_n 1, 1) := by decide +kernel
theorem dX4_take_100 : decode cX4_take 100 = .ok (.getfield 34, 3) := by decide +kernel
theorem dX4_take_103 : decode cX4_take 103 = .ok (.iconst 0, 1) := by decide +kernel
theorem dX4_take_104 : decode cX4_take 104 = .ok (.aload_n 0, 1) := by decide +kernel
theorem dX4_take_105 : decode cX4_take 105 = .ok (.getfield 34, 3) := by decide +kernel
theorem dX4_take_108 : decode cX4_take 108 = .ok (.iconst 0, 1) := by decide +kernel
theorem dX4_take_109 : decode cX4_take 109 = .ok (.bipush 8, 2) := by decide +kernel
theorem dX4_take_111 : decode cX4_take 111 = .ok (.invokestatic 43, 3) := by decide +kernel
theorem dX4_take_114 : decode cX4_take 114 = .ok (.return_, 1) := by decide +kernel
theorem dX4_isPlace_0 : decode cX4_isPlace 0 = .ok (.iload_n 1, 1) := by decide +kernel
theorem dX4_isPlace_1 : decode cX4_isPlace 1 = .ok (.ifCond .lt 15, 3) := by decide +kernel
theorem dX4_isPlace_4 : decode cX4_isPlace 4 = .ok (.iload_n 1, 1) := by decide +kernel
theorem dX4_isPlace_5 : decode cX4_isPlace 5 = .ok (.aload_n 0, 1) := by decide +kernel
theorem dX4_isPlace_6 : decode cX4_isPlace 6 = .ok (.getfield 9, 3) := by decide +kernel
theorem dX4_isPlace_9 : decode cX4_isPlace 9 = .ok (.if_icmp .ge 7, 3) := by decide +kernel
theorem dX4_isPlace_12 : decode cX4_isPlace 12 = .ok (.iconst 1, 1) := by decide +kernel
theorem dX4_isPlace_13 : decode cX4_isPlace 13 = .ok (.goto 4, 3) := by decide +kernel
theorem dX4_isPlace_16 : decode cX4_isPlace 16 = .ok (.iconst 0, 1) := by decide +kernel
theorem dX4_isPlace_17 : decode cX4_isPlace 17 = .ok (.ireturn, 1) := by decide +kernel
theorem dX4_isPerson_0 : decode cX4_isPerson 0 = .ok (.iload_n 1, 1) := by decide +kernel
theorem dX4_isPerson_1 : decode cX4_isPerson 1 = .ok (.ifCond .lt 15, 3) := by decide +kernel
theorem dX4_isPerson_4 : decode cX4_isPerson 4 = .ok (.iload_n 1, 1) := by decide +kernel
theorem dX4_isPerson_5 : decode cX4_isPerson 5 = .ok (.aload_n 0, 1) := by decide +kernel
theorem dX4_isPerson_6 : decode cX4_isPerson 6 = .ok (.getfield 37, 3) := by decide +kernel
theorem dX4_isPerson_9 : decode cX4_isPerson 9 = .ok (.if_icmp .ge 7, 3) := by decide +kernel
theorem dX4_isPerson_12 : decode cX4_isPerson 12 = .ok (.iconst 1, 1) := by decide +kernel
theorem dX4_isPerson_13 : decode cX4_isPerson 13 = .ok (.goto 4, 3) := by decide +kernel
theorem dX4_isPerson_16 : decode cX4_isPerson 16 = .ok (.iconst 0, 1) := by decide +kernel
theorem dX4_isPerson_17 : decode cX4_isPerson 17 = .ok (.ireturn, 1) := by decide +kernel
theorem dX4_isDuty_0 : decode cX4_isDuty 0 = .ok (.iload_n 1, 1) := by decide +kernel
theorem dX4_isDuty_1 : decode cX4_isDuty 1 = .ok (.ifCond .lt 15, 3) := by decide +kernel
theorem dX4_isDuty_4 : decode cX4_isDuty 4 = .ok (.iload_n 1, 1) := by decide +kernel
theorem dX4_isDuty_5 : decode cX4_isDuty 5 = .ok (.aload_n 0, 1) := by decide +kernel
theorem dX4_isDuty_6 : decode cX4_isDuty 6 = .ok (.getfield 40, 3) := by decide +kernel
theorem dX4_isDuty_9 : decode cX4_isDuty 9 = .ok (.if_icmp .ge 7, 3) := by decide +kernel
theorem dX4_isDuty_12 : decode cX4_isDuty 12 = .ok (.iconst 1, 1) := by decide +kernel
theorem dX4_isDuty_13 : decode cX4_isDuty 13 = .ok (.goto 4, 3) := by decide +kernel
theorem dX4_isDuty_16 : decode cX4_isDuty 16 = .ok (.iconst 0, 1) := by decide +kernel
theorem dX4_isDuty_17 : decode cX4_isDuty 17 = .ok (.ireturn, 1) := by decide +kernel
theorem dX4_isSet_0 : decode cX4_isSet 0 = .ok (.iload_n 1, 1) := by decide +kernel
theorem dX4_isSet_1 : decode cX4_isSet 1 = .ok (.ifCond .lt 17, 3) := by decide +kernel
theorem dX4_isSet_4 : decode cX4_isSet 4 = .ok (.iload_n 1, 1) := by decide +kernel
theorem dX4_isSet_5 : decode cX4_isSet 5 = .ok (.iconst 1, 1) := by decide +kernel
theorem dX4_isSet_6 : decode cX4_isSet 6 = .ok (.aload_n 0, 1) := by decide +kernel
theorem dX4_isSet_7 : decode cX4_isSet 7 = .ok (.getfield 37, 3) := by decide +kernel
theorem dX4_isSet_10 : decode cX4_isSet 10 = .ok (.ishl, 1) := by decide +kernel
theorem dX4_isSet_11 : decode cX4_isSet 11 = .ok (.if_icmp .ge 7, 3) := by decide +kernel
theorem dX4_isSet_14 : decode cX4_isSet 14 = .ok (.iconst 1, 1) := by decide +kernel
theorem dX4_isSet_15 : decode cX4_isSet 15 = .ok (.goto 4, 3) := by decide +kernel
theorem dX4_isSet_18 : decode cX4_isSet 18 = .ok (.iconst 0, 1) := by decide +kernel
theorem dX4_isSet_19 : decode cX4_isSet 19 = .ok (.ireturn, 1) := by decide +kernel
theorem dX4_minutesBetween_0 : decode cX4_minutesBetween 0 = .ok (.aload_n 0, 1) := by decide +kernel
theorem dX4_minutesBetween_1 : decode cX4_minutesBetween 1 = .ok (.getfield 15, 3) := by decide +kernel
theorem dX4_minutesBetween_4 : decode cX4_minutesBetween 4 = .ok (.iload_n 1, 1) := by decide +kernel
theorem dX4_minutesBetween_5 : decode cX4_minutesBetween 5 = .ok (.iload_n 2, 1) := by decide +kernel
theorem dX4_minutesBetween_6 : decode cX4_minutesBetween 6 = .ok (.isub, 1) := by decide +kernel
theorem dX4_minutesBetween_7 : decode cX4_minutesBetween 7 = .ok (.invokestatic 49, 3) := by decide +kernel
theorem dX4_minutesBetween_10 : decode cX4_minutesBetween 10 = .ok (.imul, 1) := by decide +kernel
theorem dX4_minutesBetween_11 : decode cX4_minutesBetween 11 = .ok (.ireturn, 1) := by decide +kernel
theorem dX5_init_0 : decode cX5_init 0 = .ok (.aload_n 0, 1) := by decide +kernel
theorem dX5_init_1 : decode cX5_init 1 = .ok (.invokespecial 1, 3) := by decide +kernel
theorem dX5_init_4 : decode cX5_init 4 = .ok (.return_, 1) := by decide +kernel
theorem dX5_as_0 : decode cX5_as 0 = .ok (.iload_n 1, 1) := by decide +kernel
theorem dX5_as_1 : decode cX5_as 1 = .ok (.tableswitch 70 1 5 #[35, 42, 49, 56, 63], 35) := by decide +kernel
theorem dX5_as_36 : decode cX5_as 36 = .ok (.aload_n 0, 1) := by decide +kernel
theorem dX5_as_37 : decode cX5_as 37 = .ok (.aload_n 2, 1) := by decide +kernel
theorem dX5_as_38 : decode cX5_as 38 = .ok (.iload_n 3, 1) := by decide +kernel
theorem dX5_as_39 : decode cX5_as 39 = .ok (.invokevirtual 7, 3) := by decide +kernel
theorem dX5_as_42 : decode cX5_as 42 = .ok (.ireturn, 1) := by decide +kernel
theorem dX5_as_43 : decode cX5_as 43 = .ok (.aload_n 0, 1) := by decide +kernel
theorem dX5_as_44 : decode cX5_as 44 = .ok (.aload_n 2, 1) := by decide +kernel
theorem dX5_as_45 : decode cX5_as 45 = .ok (.iload_n 3, 1) := by decide +kernel
theorem dX5_as_46 : decode cX5_as 46 = .ok (.invokevirtual 13, 3) := by decide +kernel
theorem dX5_as_49 : decode cX5_as 49 = .ok (.ireturn, 1) := by decide +kernel
theorem dX5_as_50 : decode cX5_as 50 = .ok (.aload_n 0, 1) := by decide +kernel
theorem dX5_as_51 : decode cX5_as 51 = .ok (.aload_n 2, 1) := by decide +kernel
theorem dX5_as_52 : decode cX5_as 52 = .ok (.iload_n 3, 1) := by decide +kernel
theorem dX5_as_53 : decode cX5_as 53 = .ok (.invokevirtual 16, 3) := by decide +kernel
theorem dX5_as_56 : decode cX5_as 56 = .ok (.ireturn, 1) := by decide +kernel
theorem dX5_as_57 : decode cX5_as 57 = .ok (.aload_n 0, 1) := by decide +kernel
theorem dX5_as_58 : decode cX5_as 58 = .ok (.aload_n 2, 1) := by decide +kernel
theorem dX5_as_59 : decode cX5_as 59 = .ok (.iload_n 3, 1) := by decide +kernel
theorem dX5_as_60 : decode cX5_as 60 = .ok (.invokevirtual 19, 3) := by decide +kernel
theorem dX5_as_63 : decode cX5_as 63 = .ok (.ireturn, 1) := by decide +kernel
theorem dX5_as_64 : decode cX5_as 64 = .ok (.aload_n 0, 1) := by decide +kernel
theorem dX5_as_65 : decode cX5_as 65 = .ok (.aload_n 2, 1) := by decide +kernel
theorem dX5_as_66 : decode cX5_as 66 = .ok (.iload_n 3, 1) := by decide +kernel
theorem dX5_as_67 : decode cX5_as 67 = .ok (.invokevirtual 22, 3) := by decide +kernel
theorem dX5_as_70 : decode cX5_as 70 = .ok (.ireturn, 1) := by decide +kernel
theorem dX5_as_71 : decode cX5_as 71 = .ok (.aload_n 0, 1) := by decide +kernel
theorem dX5_as_72 : decode cX5_as 72 = .ok (.aload_n 2, 1) := by decide +kernel
theorem dX5_as_73 : decode cX5_as 73 = .ok (.iload_n 3, 1) := by decide +kernel
theorem dX5_as_74 : decode cX5_as 74 = .ok (.invokevirtual 25, 3) := by decide +kernel
theorem dX5_as_77 : decode cX5_as 77 = .ok (.ireturn, 1) := by decide +kernel
theorem dX5_asDuty_0 : decode cX5_asDuty 0 = .ok (.aload_n 0, 1) := by decide +kernel
theorem dX5_asDuty_1 : decode cX5_asDuty 1 = .ok (.dup, 1) := by decide +kernel
theorem dX5_asDuty_2 : decode cX5_asDuty 2 = .ok (.getfield 28, 3) := by decide +kernel
theorem dX5_asDuty_5 : decode cX5_asDuty 5 = .ok (.lconst 1, 1) := by decide +kernel
theorem dX5_asDuty_6 : decode cX5_asDuty 6 = .ok (.ladd, 1) := by decide +kernel
theorem dX5_asDuty_7 : decode cX5_asDuty 7 = .ok (.putfield 28, 3) := by decide +kernel
theorem dX5_asDuty_10 : decode cX5_asDuty 10 = .ok (.aload_n 1, 1) := by decide +kernel
theorem dX5_asDuty_11 : decode cX5_asDuty 11 = .ok (.getfield 32, 3) := by decide +kernel
theorem dX5_asDuty_14 : decode cX5_asDuty 14 = .ok (.getfield 38, 3) := by decide +kernel
theorem dX5_asDuty_17 : decode cX5_asDuty 17 = .ok (.iload_n 2, 1) := by decide +kernel
theorem dX5_asDuty_18 : decode cX5_asDuty 18 = .ok (.iaload, 1) := by decide +kernel
theorem dX5_asDuty_19 : decode cX5_asDuty 19 = .ok (.ireturn, 1) := by decide +kernel
theorem dX5_asWatch_0 : decode cX5_asWatch 0 = .ok (.aload_n 0, 1) := by decide +kernel
theorem dX5_asWatch_1 : decode cX5_asWatch 1 = .ok (.dup, 1) := by decide +kernel
theorem dX5_asWatch_2 : decode cX5_asWatch 2 = .ok (.getfield 28, 3) := by decide +kernel
theorem dX5_asWatch_5 : decode cX5_asWatch 5 = .ok (.ldc2_w 44, 3) := by decide +kernel
theorem dX5_asWatch_8 : decode cX5_asWatch 8 = .ok (.ladd, 1) := by decide +kernel
theorem dX5_asWatch_9 : decode cX5_asWatch 9 = .ok (.putfield 28, 3) := by decide +kernel
theorem dX5_asWatch_12 : decode cX5_asWatch 12 = .ok (.aload_n 0, 1) := by decide +kernel
theorem dX5_asWatch_13 : decode cX5_asWatch 13 = .ok (.aload_n 1, 1) := by decide +kernel
theorem dX5_asWatch_14 : decode cX5_asWatch 14 = .ok (.iload_n 2, 1) := by decide +kernel
theorem dX5_asWatch_15 : decode cX5_asWatch 15 = .ok (.invokevirtual 25, 3) := by decide +kernel
theorem dX5_asWatch_18 : decode cX5_asWatch 18 = .ok (.aload_n 1, 1) := by decide +kernel
theorem dX5_asWatch_19 : decode cX5_asWatch 19 = .ok (.getfield 32, 3) := by decide +kernel
theorem dX5_asWatch_22 : decode cX5_asWatch 22 = .ok (.getfield 46, 3) := by decide +kernel
theorem dX5_asWatch_25 : decode cX5_asWatch 25 = .ok (.iload_n 2, 1) := by decide +kernel
theorem dX5_asWatch_26 : decode cX5_asWatch 26 = .ok (.iaload, 1) := by decide +kernel
theorem dX5_asWatch_27 : decode cX5_asWatch 27 = .ok (.iadd, 1) := by decide +kernel
theorem dX5_asWatch_28 : decode cX5_asWatch 28 = .ok (.ireturn, 1) := by decide +kernel
theorem dX5_asSchool_0 : decode cX5_asSchool 0 = .ok (.aload_n 0, 1) := by decide +kernel
theorem dX5_asSchool_1 : decode cX5_asSchool 1 = .ok (.dup, 1) := by decide +kernel
theorem dX5_asSchool_2 : decode cX5_asSchool 2 = .ok (.getfield 28, 3) := by decide +kernel
theorem dX5_asSchool_5 : decode cX5_asSchool 5 = .ok (.ldc2_w 49, 3) := by decide +kernel
theorem dX5_asSchool_8 : decode cX5_asSchool 8 = .ok (.ladd, 1) := by decide +kernel
theorem dX5_asSchool_9 : decode cX5_asSchool 9 = .ok (.putfield 28, 3) := by decide +kernel
theorem dX5_asSchool_12 : decode cX5_asSchool 12 = .ok (.aload_n 0, 1) := by decide +kernel
theorem dX5_asSchool_13 : decode cX5_asSchool 13 = .ok (.aload_n 1, 1) := by decide +kernel
theorem dX5_asSchool_14 : decode cX5_asSchool 14 = .ok (.iload_n 2, 1) := by decide +kernel
theorem dX5_asSchool_15 : decode cX5_asSchool 15 = .ok (.invokevirtual 25, 3) := by decide +kernel
theorem dX5_asSchool_18 : decode cX5_asSchool 18 = .ok (.istore_n 3, 1) := by decide +kernel
theorem dX5_asSchool_19 : decode cX5_asSchool 19 = .ok (.aload_n 1, 1) := by decide +kernel
theorem dX5_asSchool_20 : decode cX5_asSchool 20 = .ok (.getfield 51, 3) := by decide +kernel
theorem dX5_asSchool_23 : decode cX5_asSchool 23 = .ok (.getfield 55, 3) := by decide +kernel
theorem dX5_asSchool_26 : decode cX5_asSchool 26 = .ok (.iload_n 2, 1) := by decide +kernel
theorem dX5_asSchool_27 : decode cX5_asSchool 27 = .ok (.invokestatic 61, 3) := by decide +kernel
theorem dX5_asSchool_30 : decode cX5_asSchool 30 = .ok (.iconst 1, 1) := by decide +kernel
theorem dX5_asSchool_31 : decode cX5_asSchool 31 = .ok (.if_icmp .ne 10, 3) := by decide +kernel
theorem dX5_asSchool_34 : decode cX5_asSchool 34 = .ok (.iload_n 3, 1) := by decide +kernel
theorem dX5_asSchool_35 : decode cX5_asSchool 35 = .ok (.bipush 7, 2) := by decide +kernel
theorem dX5_asSchool_37 : decode cX5_asSchool 37 = .ok (.isub, 1) := by decide +kernel
theorem dX5_asSchool_38 : decode cX5_asSchool 38 = .ok (.goto 4, 3) := by decide +kernel
theorem dX5_asSchool_41 : decode cX5_asSchool 41 = .ok (.iload_n 3, 1) := by decide +kernel
theorem dX5_asSchool_42 : decode cX5_asSchool 42 = .ok (.ireturn, 1) := by decide +kernel
theorem dX5_asChurch_0 : decode cX5_asChurch 0 = .ok (.aload_n 0, 1) := by decide +kernel
theorem dX5_asChurch_1 : decode cX5_asChurch 1 = .ok (.dup, 1) := by decide +kernel
theorem dX5_asChurch_2 : decode cX5_asChurch 2 = .ok (.getfield 28, 3) := by decide +kernel
theorem dX5_asChurch_5 : decode cX5_asChurch 5 = .ok (.ldc2_w 67, 3) := by decide +kernel
theorem dX5_asChurch_8 : decode cX5_asChurch 8 = .ok (.ladd, 1) := by decide +kernel
theorem dX5_asChurch_9 : decode cX5_asChurch 9 = .ok (.putfield 28, 3) := by decide +kernel
theorem dX5_asChurch_12 : decode cX5_asChurch 12 = .ok (.iconst 2, 1) := by decide +kernel
theorem dX5_asChurch_13 : decode cX5_asChurch 13 = .ok (.aload_n 0, 1) := by decide +kernel
theorem dX5_asChurch_14 : decode cX5_asChurch 14 = .ok (.aload_n 1, 1) := by decide +kernel
theorem dX5_asChurch_15 : decode cX5_asChurch 15 = .ok (.iload_n 2, 1) := by decide +kernel
theorem dX5_asChurch_16 : decode cX5_asChurch 16 = .ok (.invokevirtual 7, 3) := by decide +kernel
theorem dX5_asChurch_19 : decode cX5_asChurch 19 = .ok (.imul, 1) := by decide +kernel
theorem dX5_asChurch_20 : decode cX5_asChurch 20 = .ok (.ireturn, 1) := by decide +kernel
theorem dX5_asHearth_0 : decode cX5_asHearth 0 = .ok (.aload_n 0, 1) := by decide +kernel
theorem dX5_asHearth_1 : decode cX5_asHearth 1 = .ok (.dup, 1) := by decide +kernel
theorem dX5_asHearth_2 : decode cX5_asHearth 2 = .ok (.getfield 28, 3) := by decide +kernel
theorem dX5_asHearth_5 : decode cX5_asHearth 5 = .ok (.ldc2_w 69, 3) := by decide +kernel
theorem dX5_asHearth_8 : decode cX5_asHearth 8 = .ok (.ladd, 1) := by decide +kernel
theorem dX5_asHearth_9 : decode cX5_asHearth 9 = .ok (.putfield 28, 3) := by decide +kernel
theorem dX5_asHearth_12 : decode cX5_asHearth 12 = .ok (.aload_n 0, 1) := by decide +kernel
theorem dX5_asHearth_13 : decode cX5_asHearth 13 = .ok (.aload_n 1, 1) := by decide +kernel
theorem dX5_asHearth_14 : decode cX5_asHearth 14 = .ok (.iload_n 2, 1) := by decide +kernel
theorem dX5_asHearth_15 : decode cX5_asHearth 15 = .ok (.invokevirtual 13, 3) := by decide +kernel
theorem dX5_asHearth_18 : decode cX5_asHearth 18 = .ok (.iload_n 2, 1) := by decide +kernel
theorem dX5_asHearth_19 : decode cX5_asHearth 19 = .ok (.iadd, 1) := by decide +kernel
theorem dX5_asHearth_20 : decode cX5_asHearth 20 = .ok (.ireturn, 1) := by decide +kernel
theorem dX5_asMarket_0 : decode cX5_asMarket 0 = .ok (.aload_n 0, 1) := by decide +kernel
theorem dX5_asMarket_1 : decode cX5_asMarket 1 = .ok (.dup, 1) := by decide +kernel
theorem dX5_asMarket_2 : decode cX5_asMarket 2 = .ok (.getfield 28, 3) := by decide +kernel
theorem dX5_asMarket_5 : decode cX5_asMarket 5 = .ok (.ldc2_w 71, 3) := by decide +kernel
theorem dX5_asMarket_8 : decode cX5_asMarket 8 = .ok (.ladd, 1) := by decide +kernel
theorem dX5_asMarket_9 : decode cX5_asMarket 9 = .ok (.putfield 28, 3) := by decide +kernel
theorem dX5_asMarket_12 : decode cX5_asMarket 12 = .ok (.aload_n 0, 1) := by decide +kernel
theorem dX5_asMarket_13 : decode cX5_asMarket 13 = .ok (.aload_n 1, 1) := by decide +kernel
theorem dX5_asMarket_14 : decode cX5_asMarket 14 = .ok (.iload_n 2, 1) := by decide +kernel
theorem dX5_asMarket_15 : decode cX5_asMarket 15 = .ok (.invokevirtual 25, 3) := by decide +kernel
theorem dX5_asMarket_18 : decode cX5_asMarket 18 = .ok (.aload_n 1, 1) := by decide +kernel
theorem dX5_asMarket_19 : decode cX5_asMarket 19 = .ok (.getfield 51, 3) := by decide +kernel
theorem dX5_asMarket_22 : decode cX5_asMarket 22 = .ok (.getfield 73, 3) := by decide +kernel
theorem dX5_asMarket_25 : decode cX5_asMarket 25 = .ok (.aload_n 1, 1) := by decide +kernel
theorem dX5_asMarket_26 : decode cX5_asMarket 26 = .ok (.getfield 51, 3) := by decide +kernel
theorem dX5_asMarket_29 : decode cX5_asMarket 29 = .ok (.getfield 76, 3) := by decide +kernel
theorem dX5_asMarket_32 : decode cX5_asMarket 32 = .ok (.iload_n 2, 1) := by decide +kernel
theorem dX5_asMarket_33 : decode cX5_asMarket 33 = .ok (.iaload, 1) := by decide +kernel
theorem dX5_asMarket_34 : decode cX5_asMarket 34 = .ok (.iaload, 1) := by decide +kernel
theorem dX5_asMarket_35 : decode cX5_asMarket 35 = .ok (.iadd, 1) := by decide +kernel
theorem dX5_asMarket_36 : decode cX5_asMarket 36 = .ok (.ireturn, 1) := by decide +kernel
theorem dX6_init_0 : decode cX6_init 0 = .ok (.aload_n 0, 1) := by decide +kernel
theorem dX6_init_1 : decode cX6_init 1 = .ok (.invokespecial 3, 3) := by decide +kernel
theorem dX6_init_4 : decode cX6_init 4 = .ok (.aload_n 0, 1) := by decide +kernel
theorem dX6_init_5 : decode cX6_init 5 = .ok (.sipush 200, 3) := by decide +kernel
theorem dX6_init_8 : decode cX6_init 8 = .ok (.newarray .int, 2) := by decide +kernel
theorem dX6_init_10 : decode cX6_init 10 = .ok (.putfield 9, 3) := by decide +kernel
theorem dX6_init_13 : decode cX6_init 13 = .ok (.aload_n 0, 1) := by decide +kernel
theorem dX6_init_14 : decode cX6_init 14 = .ok (.new 15, 3) := by decide +kernel
theorem dX6_init_17 : decode cX6_init 17 = .ok (.dup, 1) := by decide +kernel
theorem dX6_init_18 : decode cX6_init 18 = .ok (.invokespecial 17, 3) := by decide +kernel
theorem dX6_init_21 : decode cX6_init 21 = .ok (.putfield 18, 3) := by decide +kernel
theorem dX6_init_24 : decode cX6_init 24 = .ok (.aload_n 0, 1) := by decide +kernel
theorem dX6_init_25 : decode cX6_init 25 = .ok (.bipush (-9), 2) := by decide +kernel
theorem dX6_init_27 : decode cX6_init 27 = .ok (.putfield 22, 3) := by decide +kernel
theorem dX6_init_30 : decode cX6_init 30 = .ok (.return_, 1) := by decide +kernel
theorem dX6_addLetter_0 : decode cX6_addLetter 0 = .ok (.aload_n 0, 1) := by decide +kernel
theorem dX6_addLetter_1 : decode cX6_addLetter 1 = .ok (.getfield 26, 3) := by decide +kernel
theorem dX6_addLetter_4 : decode cX6_addLetter 4 = .ok (.sipush 200, 3) := by decide +kernel
theorem dX6_addLetter_7 : decode cX6_addLetter 7 = .ok (.if_icmp .lt 5, 3) := by decide +kernel
theorem dX6_addLetter_10 : decode cX6_addLetter 10 = .ok (.iconst 0, 1) := by decide +kernel
theorem dX6_addLetter_11 : decode cX6_addLetter 11 = .ok (.ireturn, 1) := by decide +kernel
theorem dX6_addLetter_12 : decode cX6_addLetter 12 = .ok (.aload_n 0, 1) := by decide +kernel
theorem dX6_addLetter_13 : decode cX6_addLetter 13 = .ok (.getfield 9, 3) := by decide +kernel
theorem dX6_addLetter_16 : decode cX6_addLetter 16 = .ok (.aload_n 0, 1) := by decide +kernel
theorem dX6_addLetter_17 : decode cX6_addLetter 17 = .ok (.getfield 26, 3) := by decide +kernel
theorem dX6_addLetter_20 : decode cX6_addLetter 20 = .ok (.iload_n 1, 1) := by decide +kernel
theorem dX6_addLetter_21 : decode cX6_addLetter 21 = .ok (.iastore, 1) := by decide +kernel
theorem dX6_addLetter_22 : decode cX6_addLetter 22 = .ok (.aload_n 0, 1) := by decide +kernel
theorem dX6_addLetter_23 : decode cX6_addLetter 23 = .ok (.dup, 1) := by decide +kernel
theorem dX6_addLetter_24 : decode cX6_addLetter 24 = .ok (.getfield 26, 3) := by decide +kernel
theorem dX6_addLetter_27 : decode cX6_addLetter 27 = .ok (.iconst 1, 1) := by decide +kernel
theorem dX6_addLetter_28 : decode cX6_addLetter 28 = .ok (.iadd, 1) := by decide +kernel
theorem dX6_addLetter_29 : decode cX6_addLetter 29 = .ok (.putfield 26, 3) := by decide +kernel
theorem dX6_addLetter_32 : decode cX6_addLetter 32 = .ok (.iconst 1, 1) := by decide +kernel
theorem dX6_addLetter_33 : decode cX6_addLetter 33 = .ok (.ireturn, 1) := by decide +kernel
theorem dX6_dropLetters_0 : decode cX6_dropLetters 0 = .ok (.aload_n 0, 1) := by decide +kernel
theorem dX6_dropLetters_1 : decode cX6_dropLetters 1 = .ok (.getfield 26, 3) := by decide +kernel
theorem dX6_dropLetters_4 : decode cX6_dropLetters 4 = .ok (.istore_n 1, 1) := by decide +kernel
theorem dX6_dropLetters_5 : decode cX6_dropLetters 5 = .ok (.aload_n 0, 1) := by decide +kernel
theorem dX6_dropLetters_6 : decode cX6_dropLetters 6 = .ok (.iconst 0, 1) := by decide +kernel
theorem dX6_dropLetters_7 : decode cX6_dropLetters 7 = .ok (.putfield 26, 3) := by decide +kernel
theorem dX6_dropLetters_10 : decode cX6_dropLetters 10 = .ok (.iload_n 1, 1) := by decide +kernel
theorem dX6_dropLetters_11 : decode cX6_dropLetters 11 = .ok (.ireturn, 1) := by decide +kernel
theorem dX6_hasFault_0 : decode cX6_hasFault 0 = .ok (.aload_n 0, 1) := by decide +kernel
theorem dX6_hasFault_1 : decode cX6_hasFault 1 = .ok (.getfield 22, 3) := by decide +kernel
theorem dX6_hasFault_4 : decode cX6_hasFault 4 = .ok (.bipush (-9), 2) := by decide +kernel
theorem dX6_hasFault_6 : decode cX6_hasFault 6 = .ok (.if_icmp .eq 7, 3) := by decide +kernel
theorem dX6_hasFault_9 : decode cX6_hasFault 9 = .ok (.iconst 1, 1) := by decide +kernel
theorem dX6_hasFault_10 : decode cX6_hasFault 10 = .ok (.goto 4, 3) := by decide +kernel
theorem dX6_hasFault_13 : decode cX6_hasFault 13 = .ok (.iconst 0, 1) := by decide +kernel
theorem dX6_hasFault_14 : decode cX6_hasFault 14 = .ok (.ireturn, 1) := by decide +kernel
theorem dX6_read_0 : decode cX6_read 0 = .ok (.aload_n 0, 1) := by decide +kernel
theorem dX6_read_1 : decode cX6_read 1 = .ok (.getfield 18, 3) := by decide +kernel
theorem dX6_read_4 : decode cX6_read 4 = .ok (.invokevirtual 29, 3) := by decide +kernel
theorem dX6_read_7 : decode cX6_read 7 = .ok (.aload_n 0, 1) := by decide +kernel
theorem dX6_read_8 : decode cX6_read 8 = .ok (.iconst 0, 1) := by decide +kernel
theorem dX6_read_9 : decode cX6_read 9 = .ok (.putfield 32, 3) := by decide +kernel
theorem dX6_read_12 : decode cX6_read 12 = .ok (.aload_n 0, 1) := by decide +kernel
theorem dX6_read_13 : decode cX6_read 13 = .ok (.iconst 0, 1) := by decide +kernel
theorem dX6_read_14 : decode cX6_read 14 = .ok (.putfield 36, 3) := by decide +kernel
theorem dX6_read_17 : decode cX6_read 17 = .ok (.aload_n 0, 1) := by decide +kernel
theorem dX6_read_18 : decode cX6_read 18 = .ok (.bipush (-9), 2) := by decide +kernel
theorem dX6_read_20 : decode cX6_read 20 = .ok (.putfield 22, 3) := by decide +kernel
theorem dX6_read_23 : decode cX6_read 23 = .ok (.aload_n 0, 1) := by decide +kernel
theorem dX6_read_24 : decode cX6_read 24 = .ok (.iconst 0, 1) := by decide +kernel
theorem dX6_read_25 : decode cX6_read 25 = .ok (.putfield 39, 3) := by decide +kernel
theorem dX6_read_28 : decode cX6_read 28 = .ok (.aload_n 0, 1) := by decide +kernel
theorem dX6_read_29 : decode cX6_read 29 = .ok (.invokevirtual 42, 3) := by decide +kernel
theorem dX6_read_32 : decode cX6_read 32 = .ok (.iconst 0, 1) := by decide +kernel
theorem dX6_read_33 : decode cX6_read 33 = .ok (.istore_n 1, 1) := by decide +kernel
theorem dX6_read_34 : decode cX6_read 34 = .ok (.iload_n 1, 1) := by decide +kernel
theorem dX6_read_35 : decode cX6_read 35 = .ok (.sipush 200, 3) := by decide +kernel
theorem dX6_read_38 : decode cX6_read 38 = .ok (.if_icmp .ge 37, 3) := by decide +kernel
theorem dX6_read_41 : decode cX6_read 41 = .ok (.aload_n 0, 1) := by decide +kernel
theorem dX6_read_42 : decode cX6_read 42 = .ok (.getfield 45, 3) := by decide +kernel
theorem dX6_read_45 : decode cX6_read 45 = .ok (.iconst (-1), 1) := by decide +kernel
theorem dX6_read_46 : decode cX6_read 46 = .ok (.if_icmp .eq 29, 3) := by decide +kernel
theorem dX6_read_49 : decode cX6_read 49 = .ok (.aload_n 0, 1) := by decide +kernel
theorem dX6_read_50 : decode cX6_read 50 = .ok (.invokevirtual 48, 3) := by decide +kernel
theorem dX6_read_53 : decode cX6_read 53 = .ok (.ifCond .ne 22, 3) := by decide +kernel
theorem dX6_read_56 : decode cX6_read 56 = .ok (.aload_n 0, 1) := by decide +kernel
theorem dX6_read_57 : decode cX6_read 57 = .ok (.iload_n 1, 1) := by decide +kernel
theorem dX6_read_58 : decode cX6_read 58 = .ok (.ifCond .ne 7, 3) := by decide +kernel
theorem dX6_read_61 : decode cX6_read 61 = .ok (.iconst 1, 1) := by decide +kernel
theorem dX6_read_62 : decode cX6_read 62 = .ok (.goto 4, 3) := by decide +kernel
theorem dX6_read_65 : decode cX6_read 65 = .ok (.iconst 0, 1) := by decide +kernel
theorem dX6_read_66 : decode cX6_read 66 = .ok (.invokevirtual 52, 3) := by decide +kernel
theorem dX6_read_69 : decode cX6_read 69 = .ok (.iinc 1 1, 3) := by decide +kernel
theorem dX6_read_72 : decode cX6_read 72 = .ok (.goto (-38), 3) := by decide +kernel
theorem dX6_read_75 : decode cX6_read 75 = .ok (.iload_n 1, 1) := by decide +kernel
theorem dX6_read_76 : decode cX6_read 76 = .ok (.ireturn, 1) := by decide +kernel
theorem dX6_readItem_0 : decode cX6_readItem 0 = .ok (.aload_n 0, 1) := by decide +kernel
theorem dX6_readItem_1 : decode cX6_readItem 1 = .ok (.getfield 45, 3) := by decide +kernel
theorem dX6_readItem_4 : decode cX6_readItem 4 = .ok (.lookupswitch 88 #[(100, 67), (102, 81), (103, 74), (112, 60), (119, 52)], 52) := by decide +kernel
theorem dX6_readItem_56 : decode cX6_readItem 56 = .ok (.aload_n 0, 1) := by decide +kernel
theorem dX6_readItem_57 : decode cX6_readItem 57 = .ok (.iload_n 1, 1) := by decide +kernel
theorem dX6_readItem_58 : decode cX6_readItem 58 = .ok (.invokevirtual 56, 3) := by decide +kernel
theorem dX6_readItem_61 : decode cX6_readItem 61 = .ok (.goto 35, 3) := by decide +kernel
theorem dX6_readItem_64 : decode cX6_readItem 64 = .ok (.aload_n 0, 1) := by decide +kernel
theorem dX6_readItem_65 : decode cX6_readItem 65 = .ok (.invokevirtual 59, 3) := by decide +kernel
theorem dX6_readItem_68 : decode cX6_readItem 68 = .ok (.goto 28, 3) := by decide +kernel
theorem dX6_readItem_71 : decode cX6_readItem 71 = .ok (.aload_n 0, 1) := by decide +kernel
theorem dX6_readItem_72 : decode cX6_readItem 72 = .ok (.invokevirtual 62, 3) := by decide +kernel
theorem dX6_readItem_75 : decode cX6_readItem 75 = .ok (.goto 21, 3) := by decide +kernel
theorem dX6_readItem_78 : decode cX6_readItem 78 = .ok (.aload_n 0, 1) := by decide +kernel
theorem dX6_readItem_79 : decode cX6_readItem 79 = .ok (.invokevirtual 65, 3) := by decide +kernel
theorem dX6_readItem_82 : decode cX6_readItem 82 = .ok (.goto 14, 3) := by decide +kernel
theorem dX6_readItem_85 : decode cX6_readItem 85 = .ok (.aload_n 0, 1) := by decide +kernel
theorem dX6_readItem_86 : decode cX6_readItem 86 = .ok (.invokevirtual 68, 3) := by decide +kernel
theorem dX6_readItem_89 : decode cX6_readItem 89 = .ok (.goto 7, 3) := by decide +kernel
theorem dX6_readItem_92 : decode cX6_readItem 92 = .ok (.aload_n 0, 1) := by decide +kernel
theorem dX6_readItem_93 : decode cX6_readItem 93 = .ok (.invokevirtual 71, 3) := by decide +kernel
theorem dX6_readItem_96 : decode cX6_readItem 96 = .ok (.aload_n 0, 1) := by decide +kernel
theorem dX6_readItem_97 : decode cX6_readItem 97 = .ok (.getfield 45, 3) := by decide +kernel
theorem dX6_readItem_100 : decode cX6_readItem 100 = .ok (.bipush 59, 2) := by decide +kernel
theorem dX6_readItem_102 : decode cX6_readItem 102 = .ok (.if_icmp .eq 10, 3) := by decide +kernel
theorem dX6_readItem_105 : decode cX6_readItem 105 = .ok (.aload_n 0, 1) := by decide +kernel
theorem dX6_readItem_106 : decode cX6_readItem 106 = .ok (.invokevirtual 71, 3) := by decide +kernel
theorem dX6_readItem_109 : decode cX6_readItem 109 = .ok (.goto 7, 3) := by decide +kernel
theorem dX6_readItem_112 : decode cX6_readItem 112 = .ok (.aload_n 0, 1) := by decide +kernel
theorem dX6_readItem_113 : decode cX6_readItem 113 = .ok (.invokevirtual 42, 3) := by decide +kernel
theorem dX6_readItem_116 : decode cX6_readItem 116 = .ok (.return_, 1) := by decide +kernel
theorem dX6_readPlaces_0 : decode cX6_readPlaces 0 = .ok (.aload_n 0, 1) := by decide +kernel
theorem dX6_readPlaces_1 : decode cX6_readPlaces 1 = .ok (.iload_n 1, 1) := by decide +kernel
theorem dX6_readPlaces_2 : decode cX6_readPlaces 2 = .ok (.invokevirtual 74, 3) := by decide +kernel
theorem dX6_readPlaces_5 : decode cX6_readPlaces 5 = .ok (.aload_n 0, 1) := by decide +kernel
theorem dX6_readPlaces_6 : decode cX6_readPlaces 6 = .ok (.getfield 18, 3) := by decide +kernel
theorem dX6_readPlaces_9 : decode cX6_readPlaces 9 = .ok (.aload_n 0, 1) := by decide +kernel
theorem dX6_readPlaces_10 : decode cX6_readPlaces 10 = .ok (.iconst 2, 1) := by decide +kernel
theorem dX6_readPlaces_11 : decode cX6_readPlaces 11 = .ok (.bipush 6, 2) := by decide +kernel
theorem dX6_readPlaces_13 : decode cX6_readPlaces 13 = .ok (.invokevirtual 77, 3) := by decide +kernel
theorem dX6_readPlaces_16 : decode cX6_readPlaces 16 = .ok (.putfield 81, 3) := by decide +kernel
theorem dX6_readPlaces_19 : decode cX6_readPlaces 19 = .ok (.return_, 1) := by decide +kernel
theorem dX6_readPerson_0 : decode cX6_readPerson 0 = .ok (.aload_n 0, 1) := by decide +kernel
theorem dX6_readPerson_1 : decode cX6_readPerson 1 = .ok (.aload_n 0, 1) := by decide +kernel
theorem dX6_readPerson_2 : decode cX6_readPerson 2 = .ok (.getfield 18, 3) := by decide +kernel
theorem dX6_readPerson_5 : decode cX6_readPerson 5 = .ok (.getfield 84, 3) := by decide +kernel
theorem dX6_readPerson_8 : decode cX6_readPerson 8 = .ok (.iconst 5, 1) := by decide +kernel
theorem dX6_readPerson_9 : decode cX6_readPerson 9 = .ok (.if_icmp .ge 7, 3) := by decide +kernel
theorem dX6_readPerson_12 : decode cX6_readPerson 12 = .ok (.iconst 1, 1) := by decide +kernel
theorem dX6_readPerson_13 : decode cX6_readPerson 13 = .ok (.goto 4, 3) := by decide +kernel
theorem dX6_readPerson_16 : decode cX6_readPerson 16 = .ok (.iconst 0, 1) := by decide +kernel
theorem dX6_readPerson_17 : decode cX6_readPerson 17 = .ok (.invokevirtual 74, 3) := by decide +kernel
theorem dX6_readPerson_20 : decode cX6_readPerson 20 = .ok (.aload_n 0, 1) := by decide +kernel
theorem dX6_readPerson_21 : decode cX6_readPerson 21 = .ok (.iconst 0, 1) := by decide +kernel
theorem dX6_readPerson_22 : decode cX6_readPerson 22 = .ok (.aload_n 0, 1) := by decide +kernel
theorem dX6_readPerson_23 : decode cX6_readPerson 23 = .ok (.getfield 18, 3) := by decide +kernel
theorem dX6_readPerson_26 : decode cX6_readPerson 26 = .ok (.getfield 81, 3) := by decide +kernel
theorem dX6_readPerson_29 : decode cX6_readPerson 29 = .ok (.iconst 1, 1) := by decide +kernel
theorem dX6_readPerson_30 : decode cX6_readPerson 30 = .ok (.isub, 1) := by decide +kernel
theorem dX6_readPerson_31 : decode cX6_readPerson 31 = .ok (.invokevirtual 77, 3) := by decide +kernel
theorem dX6_readPerson_34 : decode cX6_readPerson 34 = .ok (.istore_n 1, 1) := by decide +kernel
theorem dX6_readPerson_35 : decode cX6_readPerson 35 = .ok (.aload_n 0, 1) := by decide +kernel
theorem dX6_readPerson_36 : decode cX6_readPerson 36 = .ok (.invokevirtual 48, 3) := by decide +kernel
theorem dX6_readPerson_39 : decode cX6_readPerson 39 = .ok (.ifCond .ne 32, 3) := by decide +kernel
theorem dX6_readPerson_42 : decode cX6_readPerson 42 = .ok (.aload_n 0, 1) := by decide +kernel
theorem dX6_readPerson_43 : decode cX6_readPerson 43 = .ok (.getfield 18, 3) := by decide +kernel
theorem dX6_readPerson_46 : decode cX6_readPerson 46 = .ok (.getfield 87, 3) := by decide +kernel
theorem dX6_readPerson_49 : decode cX6_readPerson 49 = .ok (.aload_n 0, 1) := by decide +kernel
theorem dX6_readPerson_50 : decode cX6_readPerson 50 = .ok (.getfield 18, 3) := by decide +kernel
theorem dX6_readPerson_53 : decode cX6_readPerson 53 = .ok (.getfield 84, 3) := by decide +kernel
theorem dX6_readPerson_56 : decode cX6_readPerson 56 = .ok (.iload_n 1, 1) := by decide +kernel
theorem dX6_readPerson_57 : decode cX6_readPerson 57 = .ok (.iastore, 1) := by decide +kernel
theorem dX6_readPerson_58 : decode cX6_readPerson 58 = .ok (.aload_n 0, 1) := by decide +kernel
theorem dX6_readPerson_59 : decode cX6_readPerson 59 = .ok (.getfield 18, 3) := by decide +kernel
theorem dX6_readPerson_62 : decode cX6_readPerson 62 = .ok (.dup, 1) := by decide +kernel
theorem dX6_readPerson_63 : decode cX6_readPerson 63 = .ok (.getfield 84, 3) := by decide +kernel
theorem dX6_readPerson_66 : decode cX6_readPerson 66 = .ok (.iconst 1, 1) := by decide +kernel
theorem dX6_readPerson_67 : decode cX6_readPerson 67 = .ok (.iadd, 1) := by decide +kernel
theorem dX6_readPerson_68 : decode cX6_readPerson 68 = .ok (.putfield 84, 3) := by decide +kernel
theorem dX6_readPerson_71 : decode cX6_readPerson 71 = .ok (.return_, 1) := by decide +kernel
theorem dX6_readDuty_0 : decode cX6_readDuty 0 = .ok (.aload_n 0, 1) := by decide +kernel
theorem dX6_readDuty_1 : decode cX6_readDuty 1 = .ok (.aload_n 0, 1) := by decide +kernel
theorem dX6_readDuty_2 : decode cX6_readDuty 2 = .ok (.getfield 18, 3) := by decide +kernel
theorem dX6_readDuty_5 : decode cX6_readDuty 5 = .ok (.getfield 90, 3) := by decide +kernel
theorem dX6_readDuty_8 : decode cX6_readDuty 8 = .ok (.bipush 8, 2) := by decide +kernel
theorem dX6_readDuty_10 : decode cX6_readDuty 10 = .ok (.if_icmp .ge 7, 3) := by decide +kernel
theorem dX6_readDuty_13 : decode cX6_readDuty 13 = .ok (.iconst 1, 1) := by decide +kernel
theorem dX6_readDuty_14 : decode cX6_readDuty 14 = .ok (.goto 4, 3) := by decide +kernel
theorem dX6_readDuty_17 : decode cX6_readDuty 17 = .ok (.iconst 0, 1) := by decide +kernel
theorem dX6_readDuty_18 : decode cX6_readDuty 18 = .ok (.invokevirtual 74, 3) := by decide +kernel
theorem dX6_readDuty_21 : decode cX6_readDuty 21 = .ok (.aload_n 0, 1) := by decide +kernel
theorem dX6_readDuty_22 : decode cX6_readDuty 22 = .ok (.iconst 0, 1) := by decide +kernel
theorem dX6_readDuty_23 : decode cX6_readDuty 23 = .ok (.aload_n 0, 1) := by decide +kernel
theorem dX6_readDuty_24 : decode cX6_readDuty 24 = .ok (.getfield 18, 3) := by decide +kernel
theorem dX6_readDuty_27 : decode cX6_readDuty 27 = .ok (.getfield 84, 3) := by decide +kernel
theorem dX6_readDuty_30 : decode cX6_readDuty 30 = .ok (.iconst 1, 1) := by decide +kernel
theorem dX6_readDuty_31 : decode cX6_readDuty 31 = .ok (.isub, 1) := by decide +kernel
theorem dX6_readDuty_32 : decode cX6_readDuty 32 = .ok (.invokevirtual 77, 3) := by decide +kernel
theorem dX6_readDuty_35 : decode cX6_readDuty 35 = .ok (.istore_n 1, 1) := by decide +kernel
theorem dX6_readDuty_36 : decode cX6_readDuty 36 = .ok (.aload_n 0, 1) := by decide +kernel
theorem dX6_readDuty_37 : decode cX6_readDuty 37 = .ok (.iconst 0, 1) := by decide +kernel
theorem dX6_readDuty_38 : decode cX6_readDuty 38 = .ok (.aload_n 0, 1) := by decide +kernel
theorem dX6_readDuty_39 : decode cX6_readDuty 39 = .ok (.getfield 18, 3) := by decide +kernel
theorem dX6_readDuty_42 : decode cX6_readDuty 42 = .ok (.getfield 81, 3) := by decide +kernel
theorem dX6_readDuty_45 : decode cX6_readDuty 45 = .ok (.iconst 1, 1) := by decide +kernel
theorem dX6_readDuty_46 : decode cX6_readDuty 46 = .ok (.isub, 1) := by decide +kernel
theorem dX6_readDuty_47 : decode cX6_readDuty 47 = .ok (.invokevirtual 77, 3) := by decide +kernel
theorem dX6_readDuty_50 : decode cX6_readDuty 50 = .ok (.istore_n 2, 1) := by decide +kernel
theorem dX6_readDuty_51 : decode cX6_readDuty 51 = .ok (.aload_n 0, 1) := by decide +kernel
theorem dX6_readDuty_52 : decode cX6_readDuty 52 = .ok (.iconst 0, 1) := by decide +kernel
theorem dX6_readDuty_53 : decode cX6_readDuty 53 = .ok (.sipush 239, 3) := by decide +kernel
theorem dX6_readDuty_56 : decode cX6_readDuty 56 = .ok (.invokevirtual 77, 3) := by decide +kernel
theorem dX6_readDuty_59 : decode cX6_readDuty 59 = .ok (.istore_n 3, 1) := by decide +kernel
theorem dX6_readDuty_60 : decode cX6_readDuty 60 = .ok (.aload_n 0, 1) := by decide +kernel
theorem dX6_readDuty_61 : decode cX6_readDuty 61 = .ok (.iconst 1, 1) := by decide +kernel
theorem dX6_readDuty_62 : decode cX6_readDuty 62 = .ok (.bipush 60, 2) := by decide +kernel
theorem dX6_readDuty_64 : decode cX6_readDuty 64 = .ok (.invokevirtual 77, 3) := by decide +kernel
theorem dX6_readDuty_67 : decode cX6_readDuty 67 = .ok (.istore 4, 2) := by decide +kernel
theorem dX6_readDuty_69 : decode cX6_readDuty 69 = .ok (.aload_n 0, 1) := by decide +kernel
theorem dX6_readDuty_70 : decode cX6_readDuty 70 = .ok (.invokevirtual 48, 3) := by decide +kernel
theorem dX6_readDuty_73 : decode cX6_readDuty 73 = .ok (.ifCond .ne 81, 3) := by decide +kernel
theorem dX6_readDuty_76 : decode cX6_readDuty 76 = .ok (.aload_n 0, 1) := by decide +kernel
theorem dX6_readDuty_77 : decode cX6_readDuty 77 = .ok (.getfield 18, 3) := by decide +kernel
theorem dX6_readDuty_80 : decode cX6_readDuty 80 = .ok (.getfield 93, 3) := by decide +kernel
theorem dX6_readDuty_83 : decode cX6_readDuty 83 = .ok (.aload_n 0, 1) := by decide +kernel
theorem dX6_readDuty_84 : decode cX6_readDuty 84 = .ok (.getfield 18, 3) := by decide +kernel
theorem dX6_readDuty_87 : decode cX6_readDuty 87 = .ok (.getfield 90, 3) := by decide +kernel
theorem dX6_readDuty_90 : decode cX6_readDuty 90 = .ok (.iload_n 1, 1) := by decide +kernel
theorem dX6_readDuty_91 : decode cX6_readDuty 91 = .ok (.iastore, 1) := by decide +kernel
theorem dX6_readDuty_92 : decode cX6_readDuty 92 = .ok (.aload_n 0, 1) := by decide +kernel
theorem dX6_readDuty_93 : decode cX6_readDuty 93 = .ok (.getfield 18, 3) := by decide +kernel
theorem dX6_readDuty_96 : decode cX6_readDuty 96 = .ok (.getfield 96, 3) := by decide +kernel
theorem dX6_readDuty_99 : decode cX6_readDuty 99 = .ok (.aload_n 0, 1) := by decide +kernel
theorem dX6_readDuty_100 : decode cX6_readDuty 100 = .ok (.getfield 18, 3) := by decide +kernel
theorem dX6_readDuty_103 : decode cX6_readDuty 103 = .ok (.getfield 90, 3) := by decide +kernel
theorem dX6_readDuty_106 : decode cX6_readDuty 106 = .ok (.iload_n 2, 1) := by decide +kernel
theorem dX6_readDuty_107 : decode cX6_readDuty 107 = .ok (.iastore, 1) := by decide +kernel
theorem dX6_readDuty_108 : decode cX6_readDuty 108 = .ok (.aload_n 0, 1) := by decide +kernel
theorem dX6_readDuty_109 : decode cX6_readDuty 109 = .ok (.getfield 18, 3) := by decide +kernel
theorem dX6_readDuty_112 : decode cX6_readDuty 112 = .ok (.getfield 99, 3) := by decide +kernel
theorem dX6_readDuty_115 : decode cX6_readDuty 115 = .ok (.aload_n 0, 1) := by decide +kernel
theorem dX6_readDuty_116 : decode cX6_readDuty 116 = .ok (.getfield 18, 3) := by decide +kernel
theorem dX6_readDuty_119 : decode cX6_readDuty 119 = .ok (.getfield 90, 3) := by decide +kernel
theorem dX6_readDuty_122 : decode cX6_readDuty 122 = .ok (.iload_n 3, 1) := by decide +kernel
theorem dX6_readDuty_123 : decode cX6_readDuty 123 = .ok (.iastore, 1) := by decide +kernel
theorem dX6_readDuty_124 : decode cX6_readDuty 124 = .ok (.aload_n 0, 1) := by decide +kernel
theorem dX6_readDuty_125 : decode cX6_readDuty 125 = .ok (.getfield 18, 3) := by decide +kernel
theorem dX6_readDuty_128 : decode cX6_readDuty 128 = .ok (.getfield 102, 3) := by decide +kernel
theorem dX6_readDuty_131 : decode cX6_readDuty 131 = .ok (.aload_n 0, 1) := by decide +kernel
theorem dX6_readDuty_132 : decode cX6_readDuty 132 = .ok (.getfield 18, 3) := by decide +kernel
theorem dX6_readDuty_135 : decode cX6_readDuty 135 = .ok (.getfield 90, 3) := by decide +kernel
theorem dX6_readDuty_138 : decode cX6_readDuty 138 = .ok (.iload 4, 2) := by decide +kernel
theorem dX6_readDuty_140 : decode cX6_readDuty 140 = .ok (.iastore, 1) := by decide +kernel
theorem dX6_readDuty_141 : decode cX6_readDuty 141 = .ok (.aload_n 0, 1) := by decide +kernel
theorem dX6_readDuty_142 : decode cX6_readDuty 142 = .ok (.getfield 18, 3) := by decide +kernel
theorem dX6_readDuty_145 : decode cX6_readDuty 145 = .ok (.dup, 1) := by decide +kernel
theorem dX6_readDuty_146 : decode cX6_readDuty 146 = .ok (.getfield 90, 3) := by decide +kernel
theorem dX6_readDuty_149 : decode cX6_readDuty 149 = .ok (.iconst 1, 1) := by decide +kernel
theorem dX6_readDuty_150 : decode cX6_readDuty 150 = .ok (.iadd, 1) := by decide +kernel
theorem dX6_readDuty_151 : decode cX6_readDuty 151 = .ok (.putfield 90, 3) := by decide +kernel
theorem dX6_readDuty_154 : decode cX6_readDuty 154 = .ok (.return_, 1) := by decide +kernel
theorem dX6_readWalk_0 : decode cX6_readWalk 0 = .ok (.aload_n 0, 1) := by decide +kernel
theorem dX6_readWalk_1 : decode cX6_readWalk 1 = .ok (.aload_n 0, 1) := by decide +kernel
theorem dX6_readWalk_2 : decode cX6_readWalk 2 = .ok (.getfield 32, 3) := by decide +kernel
theorem dX6_readWalk_5 : decode cX6_readWalk 5 = .ok (.ifCond .ne 7, 3) := by decide +kernel
theorem dX6_readWalk_8 : decode cX6_readWalk 8 = .ok (.iconst 1, 1) := by decide +kernel
theorem dX6_readWalk_9 : decode cX6_readWalk 9 = .ok (.goto 4, 3) := by decide +kernel
theorem dX6_readWalk_12 : decode cX6_readWalk 12 = .ok (.iconst 0, 1) := by decide +kernel
theorem dX6_readWalk_13 : decode cX6_readWalk 13 = .ok (.invokevirtual 74, 3) := by decide +kernel
theorem dX6_readWalk_16 : decode cX6_readWalk 16 = .ok (.aload_n 0, 1) := by decide +kernel
theorem dX6_readWalk_17 : decode cX6_readWalk 17 = .ok (.iconst 1, 1) := by decide +kernel
theorem dX6_readWalk_18 : decode cX6_readWalk 18 = .ok (.putfield 32, 3) := by decide +kernel
theorem dX6_readWalk_21 : decode cX6_readWalk 21 = .ok (.aload_n 0, 1) := by decide +kernel
theorem dX6_readWalk_22 : decode cX6_readWalk 22 = .ok (.getfield 18, 3) := by decide +kernel
theorem dX6_readWalk_25 : decode cX6_readWalk 25 = .ok (.aload_n 0, 1) := by decide +kernel
theorem dX6_readWalk_26 : decode cX6_readWalk 26 = .ok (.iconst 1, 1) := by decide +kernel
theorem dX6_readWalk_27 : decode cX6_readWalk 27 = .ok (.bipush 9, 2) := by decide +kernel
theorem dX6_readWalk_29 : decode cX6_readWalk 29 = .ok (.invokevirtual 77, 3) := by decide +kernel
theorem dX6_readWalk_32 : decode cX6_readWalk 32 = .ok (.putfield 105, 3) := by decide +kernel
theorem dX6_readWalk_35 : decode cX6_readWalk 35 = .ok (.return_, 1) := by decide +kernel
theorem dX6_readFree_0 : decode cX6_readFree 0 = .ok (.aload_n 0, 1) := by decide +kernel
theorem dX6_readFree_1 : decode cX6_readFree 1 = .ok (.aload_n 0, 1) := by decide +kernel
theorem dX6_readFree_2 : decode cX6_readFree 2 = .ok (.getfield 36, 3) := by decide +kernel
theorem dX6_readFree_5 : decode cX6_readFree 5 = .ok (.ifCond .ne 7, 3) := by decide +kernel
theorem dX6_readFree_8 : decode cX6_readFree 8 = .ok (.iconst 1, 1) := by decide +kernel
theorem dX6_readFree_9 : decode cX6_readFree 9 = .ok (.goto 4, 3) := by decide +kernel
theorem dX6_readFree_12 : decode cX6_readFree 12 = .ok (.iconst 0, 1) := by decide +kernel
theorem dX6_readFree_13 : decode cX6_readFree 13 = .ok (.invokevirtual 74, 3) := by decide +kernel
theorem dX6_readFree_16 : decode cX6_readFree 16 = .ok (.aload_n 0, 1) := by decide +kernel
theorem dX6_readFree_17 : decode cX6_readFree 17 = .ok (.iconst 1, 1) := by decide +kernel
theorem dX6_readFree_18 : decode cX6_readFree 18 = .ok (.putfield 36, 3) := by decide +kernel
theorem dX6_readFree_21 : decode cX6_readFree 21 = .ok (.aload_n 0, 1) := by decide +kernel
theorem dX6_readFree_22 : decode cX6_readFree 22 = .ok (.getfield 18, 3) := by decide +kernel
theorem dX6_readFree_25 : decode cX6_readFree 25 = .ok (.aload_n 0, 1) := by decide +kernel
theorem dX6_readFree_26 : decode cX6_readFree 26 = .ok (.iconst 0, 1) := by decide +kernel
theorem dX6_readFree_27 : decode cX6_readFree 27 = .ok (.bipush 9, 2) := by decide +kernel
theorem dX6_readFree_29 : decode cX6_readFree 29 = .ok (.invokevirtual 77, 3) := by decide +kernel
theorem dX6_readFree_32 : decode cX6_readFree 32 = .ok (.putfield 108, 3) := by decide +kernel
theorem dX6_readFree_35 : decode cX6_readFree 35 = .ok (.return_, 1) := by decide +kernel
theorem dX6_readWord_0 : decode cX6_readWord 0 = .ok (.iload_n 1, 1) := by decide +kernel
theorem dX6_readWord_1 : decode cX6_readWord 1 = .ok (.ifCond .eq 10, 3) := by decide +kernel
theorem dX6_readWord_4 : decode cX6_readWord 4 = .ok (.aload_n 0, 1) := by decide +kernel
theorem dX6_readWord_5 : decode cX6_readWord 5 = .ok (.invokevirtual 42, 3) := by decide +kernel
theorem dX6_readWord_8 : decode cX6_readWord 8 = .ok (.goto 7, 3) := by decide +kernel
theorem dX6_readWord_11 : decode cX6_readWord 11 = .ok (.aload_n 0, 1) := by decide +kernel
theorem dX6_readWord_12 : decode cX6_readWord 12 = .ok (.invokevirtual 71, 3) := by decide +kernel
theorem dX6_readWord_15 : decode cX6_readWord 15 = .ok (.return_, 1) := by decide +kernel
theorem dX6_readNumber_0 : decode cX6_readNumber 0 = .ok (.aload_n 0, 1) := by decide +kernel
theorem dX6_readNumber_1 : decode cX6_readNumber 1 = .ok (.invokevirtual 48, 3) := by decide +kernel
theorem dX6_readNumber_4 : decode cX6_readNumber 4 = .ok (.ifCond .eq 5, 3) := by decide +kernel
theorem dX6_readNumber_7 : decode cX6_readNumber 7 = .ok (.iload_n 1, 1) := by decide +kernel
theorem dX6_readNumber_8 : decode cX6_readNumber 8 = .ok (.ireturn, 1) := by decide +kernel
theorem dX6_readNumber_9 : decode cX6_readNumber 9 = .ok (.aload_n 0, 1) := by decide +kernel
theorem dX6_readNumber_10 : decode cX6_readNumber 10 = .ok (.getfield 45, 3) := by decide +kernel
theorem dX6_readNumber_13 : decode cX6_readNumber 13 = .ok (.bipush (-2), 2) := by decide +kernel
theorem dX6_readNumber_15 : decode cX6_readNumber 15 = .ok (.if_icmp .ne 19, 3) := by decide +kernel
theorem dX6_readNumber_18 : decode cX6_readNumber 18 = .ok (.aload_n 0, 1) := by decide +kernel
theorem dX6_readNumber_19 : decode cX6_readNumber 19 = .ok (.getfield 111, 3) := by decide +kernel
theorem dX6_readNumber_22 : decode cX6_readNumber 22 = .ok (.iload_n 1, 1) := by decide +kernel
theorem dX6_readNumber_23 : decode cX6_readNumber 23 = .ok (.if_icmp .lt 11, 3) := by decide +kernel
theorem dX6_readNumber_26 : decode cX6_readNumber 26 = .ok (.aload_n 0, 1) := by decide +kernel
theorem dX6_readNumber_27 : decode cX6_readNumber 27 = .ok (.getfield 111, 3) := by decide +kernel
theorem dX6_readNumber_30 : decode cX6_readNumber 30 = .ok (.iload_n 2, 1) := by decide +kernel
theorem dX6_readNumber_31 : decode cX6_readNumber 31 = .ok (.if_icmp .le 9, 3) := by decide +kernel
theorem dX6_readNumber_34 : decode cX6_readNumber 34 = .ok (.aload_n 0, 1) := by decide +kernel
theorem dX6_readNumber_35 : decode cX6_readNumber 35 = .ok (.invokevirtual 71, 3) := by decide +kernel
theorem dX6_readNumber_38 : decode cX6_readNumber 38 = .ok (.iload_n 1, 1) := by decide +kernel
theorem dX6_readNumber_39 : decode cX6_readNumber 39 = .ok (.ireturn, 1) := by decide +kernel
theorem dX6_readNumber_40 : decode cX6_readNumber 40 = .ok (.aload_n 0, 1) := by decide +kernel
theorem dX6_readNumber_41 : decode cX6_readNumber 41 = .ok (.getfield 111, 3) := by decide +kernel
theorem dX6_readNumber_44 : decode cX6_readNumber 44 = .ok (.istore_n 3, 1) := by decide +kernel
theorem dX6_readNumber_45 : decode cX6_readNumber 45 = .ok (.aload_n 0, 1) := by decide +kernel
theorem dX6_readNumber_46 : decode cX6_readNumber 46 = .ok (.invokevirtual 42, 3) := by decide +kernel
theorem dX6_readNumber_49 : decode cX6_readNumber 49 = .ok (.iload_n 3, 1) := by decide +kernel
theorem dX6_readNumber_50 : decode cX6_readNumber 50 = .ok (.ireturn, 1) := by decide +kernel
theorem dX6_refuseToken_0 : decode cX6_refuseToken 0 = .ok (.aload_n 0, 1) := by decide +kernel
theorem dX6_refuseToken_1 : decode cX6_refuseToken 1 = .ok (.invokevirtual 48, 3) := by decide +kernel
theorem dX6_refuseToken_4 : decode cX6_refuseToken 4 = .ok (.ifCond .ne 11, 3) := by decide +kernel
theorem dX6_refuseToken_7 : decode cX6_refuseToken 7 = .ok (.aload_n 0, 1) := by decide +kernel
theorem dX6_refuseToken_8 : decode cX6_refuseToken 8 = .ok (.aload_n 0, 1) := by decide +kernel
theorem dX6_refuseToken_9 : decode cX6_refuseToken 9 = .ok (.getfield 114, 3) := by decide +kernel
theorem dX6_refuseToken_12 : decode cX6_refuseToken 12 = .ok (.putfield 22, 3) := by decide +kernel
theorem dX6_refuseToken_15 : decode cX6_refuseToken 15 = .ok (.return_, 1) := by decide +kernel
theorem dX6_nextToken_0 : decode cX6_nextToken 0 = .ok (.aload_n 0, 1) := by decide +kernel
theorem dX6_nextToken_1 : decode cX6_nextToken 1 = .ok (.getfield 39, 3) := by decide +kernel
theorem dX6_nextToken_4 : decode cX6_nextToken 4 = .ok (.aload_n 0, 1) := by decide +kernel
theorem dX6_nextToken_5 : decode cX6_nextToken 5 = .ok (.getfield 26, 3) := by decide +kernel
theorem dX6_nextToken_8 : decode cX6_nextToken 8 = .ok (.if_icmp .ge 30, 3) := by decide +kernel
theorem dX6_nextToken_11 : decode cX6_nextToken 11 = .ok (.aload_n 0, 1) := by decide +kernel
theorem dX6_nextToken_12 : decode cX6_nextToken 12 = .ok (.getfield 9, 3) := by decide +kernel
theorem dX6_nextToken_15 : decode cX6_nextToken 15 = .ok (.aload_n 0, 1) := by decide +kernel
theorem dX6_nextToken_16 : decode cX6_nextToken 16 = .ok (.getfield 39, 3) := by decide +kernel
theorem dX6_nextToken_19 : decode cX6_nextToken 19 = .ok (.iaload, 1) := by decide +kernel
theorem dX6_nextToken_20 : decode cX6_nextToken 20 = .ok (.bipush 32, 2) := by decide +kernel
theorem dX6_nextToken_22 : decode cX6_nextToken 22 = .ok (.if_icmp .ne 16, 3) := by decide +kernel
theorem dX6_nextToken_25 : decode cX6_nextToken 25 = .ok (.aload_n 0, 1) := by decide +kernel
theorem dX6_nextToken_26 : decode cX6_nextToken 26 = .ok (.dup, 1) := by decide +kernel
theorem dX6_nextToken_27 : decode cX6_nextToken 27 = .ok (.getfield 39, 3) := by decide +kernel
theorem dX6_nextToken_30 : decode cX6_nextToken 30 = .ok (.iconst 1, 1) := by decide +kernel
theorem dX6_nextToken_31 : decode cX6_nextToken 31 = .ok (.iadd, 1) := by decide +kernel
theorem dX6_nextToken_32 : decode cX6_nextToken 32 = .ok (.putfield 39, 3) := by decide +kernel
theorem dX6_nextToken_35 : decode cX6_nextToken 35 = .ok (.goto (-35), 3) := by decide +kernel
theorem dX6_nextToken_38 : decode cX6_nextToken 38 = .ok (.aload_n 0, 1) := by decide +kernel
theorem dX6_nextToken_39 : decode cX6_nextToken 39 = .ok (.aload_n 0, 1) := by decide +kernel
theorem dX6_nextToken_40 : decode cX6_nextToken 40 = .ok (.getfield 39, 3) := by decide +kernel
theorem dX6_nextToken_43 : decode cX6_nextToken 43 = .ok (.putfield 114, 3) := by decide +kernel
theorem dX6_nextToken_46 : decode cX6_nextToken 46 = .ok (.aload_n 0, 1) := by decide +kernel
theorem dX6_nextToken_47 : decode cX6_nextToken 47 = .ok (.iconst 0, 1) := by decide +kernel
theorem dX6_nextToken_48 : decode cX6_nextToken 48 = .ok (.putfield 111, 3) := by decide +kernel
theorem dX6_nextToken_51 : decode cX6_nextToken 51 = .ok (.aload_n 0, 1) := by decide +kernel
theorem dX6_nextToken_52 : decode cX6_nextToken 52 = .ok (.getfield 39, 3) := by decide +kernel
theorem dX6_nextToken_55 : decode cX6_nextToken 55 = .ok (.aload_n 0, 1) := by decide +kernel
theorem dX6_nextToken_56 : decode cX6_nextToken 56 = .ok (.getfield 26, 3) := by decide +kernel
theorem dX6_nextToken_59 : decode cX6_nextToken 59 = .ok (.if_icmp .ge 61, 3) := by decide +kernel
theorem dX6_nextToken_62 : decode cX6_nextToken 62 = .ok (.aload_n 0, 1) := by decide +kernel
theorem dX6_nextToken_63 : decode cX6_nextToken 63 = .ok (.getfield 9, 3) := by decide +kernel
theorem dX6_nextToken_66 : decode cX6_nextToken 66 = .ok (.aload_n 0, 1) := by decide +kernel
theorem dX6_nextToken_67 : decode cX6_nextToken 67 = .ok (.getfield 39, 3) := by decide +kernel
theorem dX6_nextToken_70 : decode cX6_nextToken 70 = .ok (.iaload, 1) := by decide +kernel
theorem dX6_nextToken_71 : decode cX6_nextToken 71 = .ok (.invokestatic 117, 3) := by decide +kernel
theorem dX6_nextToken_74 : decode cX6_nextToken 74 = .ok (.ifCond .eq 46, 3) := by decide +kernel
theorem dX6_nextToken_77 : decode cX6_nextToken 77 = .ok (.aload_n 0, 1) := by decide +kernel
theorem dX6_nextToken_78 : decode cX6_nextToken 78 = .ok (.sipush 240, 3) := by decide +kernel
theorem dX6_nextToken_81 : decode cX6_nextToken 81 = .ok (.aload_n 0, 1) := by decide +kernel
theorem dX6_nextToken_82 : decode cX6_nextToken 82 = .ok (.getfield 111, 3) := by decide +kernel
theorem dX6_nextToken_85 : decode cX6_nextToken 85 = .ok (.bipush 10, 2) := by decide +kernel
theorem dX6_nextToken_87 : decode cX6_nextToken 87 = .ok (.imul, 1) := by decide +kernel
theorem dX6_nextToken_88 : decode cX6_nextToken 88 = .ok (.aload_n 0, 1) := by decide +kernel
theorem dX6_nextToken_89 : decode cX6_nextToken 89 = .ok (.getfield 9, 3) := by decide +kernel
theorem dX6_nextToken_92 : decode cX6_nextToken 92 = .ok (.aload_n 0, 1) := by decide +kernel
theorem dX6_nextToken_93 : decode cX6_nextToken 93 = .ok (.getfield 39, 3) := by decide +kernel
theorem dX6_nextToken_96 : decode cX6_nextToken 96 = .ok (.iaload, 1) := by decide +kernel
theorem dX6_nextToken_97 : decode cX6_nextToken 97 = .ok (.iadd, 1) := by decide +kernel
theorem dX6_nextToken_98 : decode cX6_nextToken 98 = .ok (.bipush 48, 2) := by decide +kernel
theorem dX6_nextToken_100 : decode cX6_nextToken 100 = .ok (.isub, 1) := by decide +kernel
theorem dX6_nextToken_101 : decode cX6_nextToken 101 = .ok (.invokestatic 121, 3) := by decide +kernel
theorem dX6_nextToken_104 : decode cX6_nextToken 104 = .ok (.putfield 111, 3) := by decide +kernel
theorem dX6_nextToken_107 : decode cX6_nextToken 107 = .ok (.aload_n 0, 1) := by decide +kernel
theorem dX6_nextToken_108 : decode cX6_nextToken 108 = .ok (.dup, 1) := by decide +kernel
theorem dX6_nextToken_109 : decode cX6_nextToken 109 = .ok (.getfield 39, 3) := by decide +kernel
theorem dX6_nextToken_112 : decode cX6_nextToken 112 = .ok (.iconst 1, 1) := by decide +kernel
theorem dX6_nextToken_113 : decode cX6_nextToken 113 = .ok (.iadd, 1) := by decide +kernel
theorem dX6_nextToken_114 : decode cX6_nextToken 114 = .ok (.putfield 39, 3) := by decide +kernel
theorem dX6_nextToken_117 : decode cX6_nextToken 117 = .ok (.goto (-66), 3) := by decide +kernel
theorem dX6_nextToken_120 : decode cX6_nextToken 120 = .ok (.aload_n 0, 1) := by decide +kernel
theorem dX6_nextToken_121 : decode cX6_nextToken 121 = .ok (.getfield 114, 3) := by decide +kernel
theorem dX6_nextToken_124 : decode cX6_nextToken 124 = .ok (.aload_n 0, 1) := by decide +kernel
theorem dX6_nextToken_125 : decode cX6_nextToken 125 = .ok (.getfield 26, 3) := by decide +kernel
theorem dX6_nextToken_128 : decode cX6_nextToken 128 = .ok (.if_icmp .lt 11, 3) := by decide +kernel
theorem dX6_nextToken_131 : decode cX6_nextToken 131 = .ok (.aload_n 0, 1) := by decide +kernel
theorem dX6_nextToken_132 : decode cX6_nextToken 132 = .ok (.iconst (-1), 1) := by decide +kernel
theorem dX6_nextToken_133 : decode cX6_nextToken 133 = .ok (.putfield 45, 3) := by decide +kernel
theorem dX6_nextToken_136 : decode cX6_nextToken 136 = .ok (.goto 118, 3) := by decide +kernel
theorem dX6_nextToken_139 : decode cX6_nextToken 139 = .ok (.aload_n 0, 1) := by decide +kernel
theorem dX6_nextToken_140 : decode cX6_nextToken 140 = .ok (.getfield 39, 3) := by decide +kernel
theorem dX6_nextToken_143 : decode cX6_nextToken 143 = .ok (.aload_n 0, 1) := by decide +kernel
theorem dX6_nextToken_144 : decode cX6_nextToken 144 = .ok (.getfield 114, 3) := by decide +kernel
theorem dX6_nextToken_147 : decode cX6_nextToken 147 = .ok (.if_icmp .le 64, 3) := by decide +kernel
theorem dX6_nextToken_150 : decode cX6_nextToken 150 = .ok (.aload_n 0, 1) := by decide +kernel
theorem dX6_nextToken_151 : decode cX6_nextToken 151 = .ok (.getfield 9, 3) := by decide +kernel
theorem dX6_nextToken_154 : decode cX6_nextToken 154 = .ok (.aload_n 0, 1) := by decide +kernel
theorem dX6_nextToken_155 : decode cX6_nextToken 155 = .ok (.getfield 114, 3) := by decide +kernel
theorem dX6_nextToken_158 : decode cX6_nextToken 158 = .ok (.iaload, 1) := by decide +kernel
theorem dX6_nextToken_159 : decode cX6_nextToken 159 = .ok (.bipush 48, 2) := by decide +kernel
theorem dX6_nextToken_161 : decode cX6_nextToken 161 = .ok (.if_icmp .ne 20, 3) := by decide +kernel
theorem dX6_nextToken_164 : decode cX6_nextToken 164 = .ok (.aload_n 0, 1) := by decide +kernel
theorem dX6_nextToken_165 : decode cX6_nextToken 165 = .ok (.getfield 39, 3) := by decide +kernel
theorem dX6_nextToken_168 : decode cX6_nextToken 168 = .ok (.aload_n 0, 1) := by decide +kernel
theorem dX6_nextToken_169 : decode cX6_nextToken 169 = .ok (.getfield 114, 3) := by decide +kernel
theorem dX6_nextToken_172 : decode cX6_nextToken 172 = .ok (.isub, 1) := by decide +kernel
theorem dX6_nextToken_173 : decode cX6_nextToken 173 = .ok (.iconst 1, 1) := by decide +kernel
theorem dX6_nextToken_174 : decode cX6_nextToken 174 = .ok (.if_icmp .le 7, 3) := by decide +kernel
theorem dX6_nextToken_177 : decode cX6_nextToken 177 = .ok (.iconst 1, 1) := by decide +kernel
theorem dX6_nextToken_178 : decode cX6_nextToken 178 = .ok (.goto 4, 3) := by decide +kernel
theorem dX6_nextToken_181 : decode cX6_nextToken 181 = .ok (.iconst 0, 1) := by decide +kernel
theorem dX6_nextToken_182 : decode cX6_nextToken 182 = .ok (.istore_n 1, 1) := by decide +kernel
theorem dX6_nextToken_183 : decode cX6_nextToken 183 = .ok (.aload_n 0, 1) := by decide +kernel
theorem dX6_nextToken_184 : decode cX6_nextToken 184 = .ok (.iload_n 1, 1) := by decide +kernel
theorem dX6_nextToken_185 : decode cX6_nextToken 185 = .ok (.ifCond .ne 13, 3) := by decide +kernel
theorem dX6_nextToken_188 : decode cX6_nextToken 188 = .ok (.aload_n 0, 1) := by decide +kernel
theorem dX6_nextToken_189 : decode cX6_nextToken 189 = .ok (.getfield 111, 3) := by decide +kernel
theorem dX6_nextToken_192 : decode cX6_nextToken 192 = .ok (.sipush 239, 3) := by decide +kernel
theorem dX6_nextToken_195 : decode cX6_nextToken 195 = .ok (.if_icmp .le 8, 3) := by decide +kernel
theorem dX6_nextToken_198 : decode cX6_nextToken 198 = .ok (.bipush (-3), 2) := by decide +kernel
theorem dX6_nextToken_200 : decode cX6_nextToken 200 = .ok (.goto 5, 3) := by decide +kernel
theorem dX6_nextToken_203 : decode cX6_nextToken 203 = .ok (.bipush (-2), 2) := by decide +kernel
theorem dX6_nextToken_205 : decode cX6_nextToken 205 = .ok (.putfield 45, 3) := by decide +kernel
theorem dX6_nextToken_208 : decode cX6_nextToken 208 = .ok (.goto 46, 3) := by decide +kernel
theorem dX6_nextToken_211 : decode cX6_nextToken 211 = .ok (.aload_n 0, 1) := by decide +kernel
theorem dX6_nextToken_212 : decode cX6_nextToken 212 = .ok (.aload_n 0, 1) := by decide +kernel
theorem dX6_nextToken_213 : decode cX6_nextToken 213 = .ok (.getfield 9, 3) := by decide +kernel
theorem dX6_nextToken_216 : decode cX6_nextToken 216 = .ok (.aload_n 0, 1) := by decide +kernel
theorem dX6_nextToken_217 : decode cX6_nextToken 217 = .ok (.getfield 114, 3) := by decide +kernel
theorem dX6_nextToken_220 : decode cX6_nextToken 220 = .ok (.iaload, 1) := by decide +kernel
theorem dX6_nextToken_221 : decode cX6_nextToken 221 = .ok (.invokestatic 126, 3) := by decide +kernel
theorem dX6_nextToken_224 : decode cX6_nextToken 224 = .ok (.ifCond .eq 15, 3) := by decide +kernel
theorem dX6_nextToken_227 : decode cX6_nextToken 227 = .ok (.aload_n 0, 1) := by decide +kernel
theorem dX6_nextToken_228 : decode cX6_nextToken 228 = .ok (.getfield 9, 3) := by decide +kernel
theorem dX6_nextToken_231 : decode cX6_nextToken 231 = .ok (.aload_n 0, 1) := by decide +kernel
theorem dX6_nextToken_232 : decode cX6_nextToken 232 = .ok (.getfield 114, 3) := by decide +kernel
theorem dX6_nextToken_235 : decode cX6_nextToken 235 = .ok (.iaload, 1) := by decide +kernel
theorem dX6_nextToken_236 : decode cX6_nextToken 236 = .ok (.goto 5, 3) := by decide +kernel
theorem dX6_nextToken_239 : decode cX6_nextToken 239 = .ok (.bipush (-3), 2) := by decide +kernel
theorem dX6_nextToken_241 : decode cX6_nextToken 241 = .ok (.putfield 45, 3) := by decide +kernel
theorem dX6_nextToken_244 : decode cX6_nextToken 244 = .ok (.aload_n 0, 1) := by decide +kernel
theorem dX6_nextToken_245 : decode cX6_nextToken 245 = .ok (.dup, 1) := by decide +kernel
theorem dX6_nextToken_246 : decode cX6_nextToken 246 = .ok (.getfield 39, 3) := by decide +kernel
theorem dX6_nextToken_249 : decode cX6_nextToken 249 = .ok (.iconst 1, 1) := by decide +kernel
theorem dX6_nextToken_250 : decode cX6_nextToken 250 = .ok (.iadd, 1) := by decide +kernel
theorem dX6_nextToken_251 : decode cX6_nextToken 251 = .ok (.putfield 39, 3) := by decide +kernel
theorem dX6_nextToken_254 : decode cX6_nextToken 254 = .ok (.return_, 1) := by decide +kernel
theorem dX6_isDigit_0 : decode cX6_isDigit 0 = .ok (.iload_n 0, 1) := by decide +kernel
theorem dX6_isDigit_1 : decode cX6_isDigit 1 = .ok (.bipush 48, 2) := by decide +kernel
theorem dX6_isDigit_3 : decode cX6_isDigit 3 = .ok (.if_icmp .lt 13, 3) := by decide +kernel
theorem dX6_isDigit_6 : decode cX6_isDigit 6 = .ok (.iload_n 0, 1) := by decide +kernel
theorem dX6_isDigit_7 : decode cX6_isDigit 7 = .ok (.bipush 57, 2) := by decide +kernel
theorem dX6_isDigit_9 : decode cX6_isDigit 9 = .ok (.if_icmp .gt 7, 3) := by decide +kernel
theorem dX6_isDigit_12 : decode cX6_isDigit 12 = .ok (.iconst 1, 1) := by decide +kernel
theorem dX6_isDigit_13 : decode cX6_isDigit 13 = .ok (.goto 4, 3) := by decide +kernel
end
section
theorem dX6_isDigit_16 : decode cX6_isDigit 16 = .ok (.iconst 0, 1) := by decide +kernel
theorem dX6_isDigit_17 : decode cX6_isDigit 17 = .ok (.ireturn, 1) := by decide +kernel
theorem dX6_isWord_0 : decode cX6_isWord 0 = .ok (.iload_n 0, 1) := by decide +kernel
theorem dX6_isWord_1 : decode cX6_isWord 1 = .ok (.bipush 119, 2) := by decide +kernel
theorem dX6_isWord_3 : decode cX6_isWord 3 = .ok (.if_icmp .eq 33, 3) := by decide +kernel
theorem dX6_isWord_6 : decode cX6_isWord 6 = .ok (.iload_n 0, 1) := by decide +kernel
theorem dX6_isWord_7 : decode cX6_isWord 7 = .ok (.bipush 112, 2) := by decide +kernel
theorem dX6_isWord_9 : decode cX6_isWord 9 = .ok (.if_icmp .eq 27, 3) := by decide +kernel
theorem dX6_isWord_12 : decode cX6_isWord 12 = .ok (.iload_n 0, 1) := by decide +kernel
theorem dX6_isWord_13 : decode cX6_isWord 13 = .ok (.bipush 100, 2) := by decide +kernel
theorem dX6_isWord_15 : decode cX6_isWord 15 = .ok (.if_icmp .eq 21, 3) := by decide +kernel
theorem dX6_isWord_18 : decode cX6_isWord 18 = .ok (.iload_n 0, 1) := by decide +kernel
theorem dX6_isWord_19 : decode cX6_isWord 19 = .ok (.bipush 103, 2) := by decide +kernel
theorem dX6_isWord_21 : decode cX6_isWord 21 = .ok (.if_icmp .eq 15, 3) := by decide +kernel
theorem dX6_isWord_24 : decode cX6_isWord 24 = .ok (.iload_n 0, 1) := by decide +kernel
theorem dX6_isWord_25 : decode cX6_isWord 25 = .ok (.bipush 102, 2) := by decide +kernel
theorem dX6_isWord_27 : decode cX6_isWord 27 = .ok (.if_icmp .eq 9, 3) := by decide +kernel
theorem dX6_isWord_30 : decode cX6_isWord 30 = .ok (.iload_n 0, 1) := by decide +kernel
theorem dX6_isWord_31 : decode cX6_isWord 31 = .ok (.bipush 59, 2) := by decide +kernel
theorem dX6_isWord_33 : decode cX6_isWord 33 = .ok (.if_icmp .ne 7, 3) := by decide +kernel
theorem dX6_isWord_36 : decode cX6_isWord 36 = .ok (.iconst 1, 1) := by decide +kernel
theorem dX6_isWord_37 : decode cX6_isWord 37 = .ok (.goto 4, 3) := by decide +kernel
theorem dX6_isWord_40 : decode cX6_isWord 40 = .ok (.iconst 0, 1) := by decide +kernel
theorem dX6_isWord_41 : decode cX6_isWord 41 = .ok (.ireturn, 1) := by decide +kernel
theorem dX7_init_0 : decode cX7_init 0 = .ok (.aload_n 0, 1) := by decide +kernel
theorem dX7_init_1 : decode cX7_init 1 = .ok (.invokespecial 3, 3) := by decide +kernel
theorem dX7_init_4 : decode cX7_init 4 = .ok (.aload_n 0, 1) := by decide +kernel
theorem dX7_init_5 : decode cX7_init 5 = .ok (.sipush 240, 3) := by decide +kernel
theorem dX7_init_8 : decode cX7_init 8 = .ok (.newarray .int, 2) := by decide +kernel
theorem dX7_init_10 : decode cX7_init 10 = .ok (.putfield 9, 3) := by decide +kernel
theorem dX7_init_13 : decode cX7_init 13 = .ok (.return_, 1) := by decide +kernel
theorem dX7_fewest_0 : decode cX7_fewest 0 = .ok (.aload_n 0, 1) := by decide +kernel
theorem dX7_fewest_1 : decode cX7_fewest 1 = .ok (.aload_n 1, 1) := by decide +kernel
theorem dX7_fewest_2 : decode cX7_fewest 2 = .ok (.iload_n 2, 1) := by decide +kernel
theorem dX7_fewest_3 : decode cX7_fewest 3 = .ok (.invokevirtual 15, 3) := by decide +kernel
theorem dX7_fewest_6 : decode cX7_fewest 6 = .ok (.istore_n 3, 1) := by decide +kernel
theorem dX7_fewest_7 : decode cX7_fewest 7 = .ok (.aload_n 0, 1) := by decide +kernel
theorem dX7_fewest_8 : decode cX7_fewest 8 = .ok (.aload_n 1, 1) := by decide +kernel
theorem dX7_fewest_9 : decode cX7_fewest 9 = .ok (.iload_n 2, 1) := by decide +kernel
theorem dX7_fewest_10 : decode cX7_fewest 10 = .ok (.iload_n 3, 1) := by decide +kernel
theorem dX7_fewest_11 : decode cX7_fewest 11 = .ok (.invokevirtual 19, 3) := by decide +kernel
theorem dX7_fewest_14 : decode cX7_fewest 14 = .ok (.iload_n 3, 1) := by decide +kernel
theorem dX7_fewest_15 : decode cX7_fewest 15 = .ok (.istore 4, 2) := by decide +kernel
theorem dX7_fewest_17 : decode cX7_fewest 17 = .ok (.iconst 0, 1) := by decide +kernel
theorem dX7_fewest_18 : decode cX7_fewest 18 = .ok (.istore 5, 2) := by decide +kernel
theorem dX7_fewest_20 : decode cX7_fewest 20 = .ok (.iload 5, 2) := by decide +kernel
theorem dX7_fewest_22 : decode cX7_fewest 22 = .ok (.iload_n 3, 1) := by decide +kernel
theorem dX7_fewest_23 : decode cX7_fewest 23 = .ok (.if_icmp .ge 58, 3) := by decide +kernel
theorem dX7_fewest_26 : decode cX7_fewest 26 = .ok (.iload 5, 2) := by decide +kernel
theorem dX7_fewest_28 : decode cX7_fewest 28 = .ok (.invokestatic 23, 3) := by decide +kernel
theorem dX7_fewest_31 : decode cX7_fewest 31 = .ok (.iload 4, 2) := by decide +kernel
theorem dX7_fewest_33 : decode cX7_fewest 33 = .ok (.invokestatic 23, 3) := by decide +kernel
theorem dX7_fewest_36 : decode cX7_fewest 36 = .ok (.if_icmp .ge 7, 3) := by decide +kernel
theorem dX7_fewest_39 : decode cX7_fewest 39 = .ok (.iconst 1, 1) := by decide +kernel
theorem dX7_fewest_40 : decode cX7_fewest 40 = .ok (.goto 4, 3) := by decide +kernel
theorem dX7_fewest_43 : decode cX7_fewest 43 = .ok (.iconst 0, 1) := by decide +kernel
theorem dX7_fewest_44 : decode cX7_fewest 44 = .ok (.istore 6, 2) := by decide +kernel
theorem dX7_fewest_46 : decode cX7_fewest 46 = .ok (.iload 5, 2) := by decide +kernel
theorem dX7_fewest_48 : decode cX7_fewest 48 = .ok (.iload_n 3, 1) := by decide +kernel
theorem dX7_fewest_49 : decode cX7_fewest 49 = .ok (.iconst (-1), 1) := by decide +kernel
theorem dX7_fewest_50 : decode cX7_fewest 50 = .ok (.ixor, 1) := by decide +kernel
theorem dX7_fewest_51 : decode cX7_fewest 51 = .ok (.iand, 1) := by decide +kernel
theorem dX7_fewest_52 : decode cX7_fewest 52 = .ok (.ifCond .ne 23, 3) := by decide +kernel
theorem dX7_fewest_55 : decode cX7_fewest 55 = .ok (.iload 6, 2) := by decide +kernel
theorem dX7_fewest_57 : decode cX7_fewest 57 = .ok (.ifCond .eq 18, 3) := by decide +kernel
theorem dX7_fewest_60 : decode cX7_fewest 60 = .ok (.aload_n 0, 1) := by decide +kernel
theorem dX7_fewest_61 : decode cX7_fewest 61 = .ok (.aload_n 1, 1) := by decide +kernel
theorem dX7_fewest_62 : decode cX7_fewest 62 = .ok (.iload_n 2, 1) := by decide +kernel
theorem dX7_fewest_63 : decode cX7_fewest 63 = .ok (.iload 5, 2) := by decide +kernel
theorem dX7_fewest_65 : decode cX7_fewest 65 = .ok (.invokevirtual 29, 3) := by decide +kernel
theorem dX7_fewest_68 : decode cX7_fewest 68 = .ok (.ifCond .eq 7, 3) := by decide +kernel
theorem dX7_fewest_71 : decode cX7_fewest 71 = .ok (.iload 5, 2) := by decide +kernel
theorem dX7_fewest_73 : decode cX7_fewest 73 = .ok (.istore 4, 2) := by decide +kernel
theorem dX7_fewest_75 : decode cX7_fewest 75 = .ok (.iinc 5 1, 3) := by decide +kernel
theorem dX7_fewest_78 : decode cX7_fewest 78 = .ok (.goto (-58), 3) := by decide +kernel
theorem dX7_fewest_81 : decode cX7_fewest 81 = .ok (.iload 4, 2) := by decide +kernel
theorem dX7_fewest_83 : decode cX7_fewest 83 = .ok (.ireturn, 1) := by decide +kernel
theorem dX7_dutiesOfSet_0 : decode cX7_dutiesOfSet 0 = .ok (.iconst 0, 1) := by decide +kernel
theorem dX7_dutiesOfSet_1 : decode cX7_dutiesOfSet 1 = .ok (.istore_n 3, 1) := by decide +kernel
theorem dX7_dutiesOfSet_2 : decode cX7_dutiesOfSet 2 = .ok (.iconst 0, 1) := by decide +kernel
theorem dX7_dutiesOfSet_3 : decode cX7_dutiesOfSet 3 = .ok (.istore 4, 2) := by decide +kernel
theorem dX7_dutiesOfSet_5 : decode cX7_dutiesOfSet 5 = .ok (.iload 4, 2) := by decide +kernel
theorem dX7_dutiesOfSet_7 : decode cX7_dutiesOfSet 7 = .ok (.aload_n 1, 1) := by decide +kernel
theorem dX7_dutiesOfSet_8 : decode cX7_dutiesOfSet 8 = .ok (.getfield 33, 3) := by decide +kernel
theorem dX7_dutiesOfSet_11 : decode cX7_dutiesOfSet 11 = .ok (.getfield 39, 3) := by decide +kernel
theorem dX7_dutiesOfSet_14 : decode cX7_dutiesOfSet 14 = .ok (.if_icmp .ge 28, 3) := by decide +kernel
theorem dX7_dutiesOfSet_17 : decode cX7_dutiesOfSet 17 = .ok (.iload_n 2, 1) := by decide +kernel
theorem dX7_dutiesOfSet_18 : decode cX7_dutiesOfSet 18 = .ok (.iload 4, 2) := by decide +kernel
theorem dX7_dutiesOfSet_20 : decode cX7_dutiesOfSet 20 = .ok (.invokestatic 45, 3) := by decide +kernel
theorem dX7_dutiesOfSet_23 : decode cX7_dutiesOfSet 23 = .ok (.iconst 1, 1) := by decide +kernel
theorem dX7_dutiesOfSet_24 : decode cX7_dutiesOfSet 24 = .ok (.if_icmp .ne 12, 3) := by decide +kernel
theorem dX7_dutiesOfSet_27 : decode cX7_dutiesOfSet 27 = .ok (.iload_n 3, 1) := by decide +kernel
theorem dX7_dutiesOfSet_28 : decode cX7_dutiesOfSet 28 = .ok (.aload_n 1, 1) := by decide +kernel
theorem dX7_dutiesOfSet_29 : decode cX7_dutiesOfSet 29 = .ok (.iload 4, 2) := by decide +kernel
theorem dX7_dutiesOfSet_31 : decode cX7_dutiesOfSet 31 = .ok (.invokevirtual 49, 3) := by decide +kernel
theorem dX7_dutiesOfSet_34 : decode cX7_dutiesOfSet 34 = .ok (.ior, 1) := by decide +kernel
theorem dX7_dutiesOfSet_35 : decode cX7_dutiesOfSet 35 = .ok (.istore_n 3, 1) := by decide +kernel
theorem dX7_dutiesOfSet_36 : decode cX7_dutiesOfSet 36 = .ok (.iinc 4 1, 3) := by decide +kernel
theorem dX7_dutiesOfSet_39 : decode cX7_dutiesOfSet 39 = .ok (.goto (-34), 3) := by decide +kernel
theorem dX7_dutiesOfSet_42 : decode cX7_dutiesOfSet 42 = .ok (.iload_n 3, 1) := by decide +kernel
theorem dX7_dutiesOfSet_43 : decode cX7_dutiesOfSet 43 = .ok (.ireturn, 1) := by decide +kernel
theorem dX7_noteMinutes_0 : decode cX7_noteMinutes 0 = .ok (.aload_n 0, 1) := by decide +kernel
theorem dX7_noteMinutes_1 : decode cX7_noteMinutes 1 = .ok (.iconst 0, 1) := by decide +kernel
theorem dX7_noteMinutes_2 : decode cX7_noteMinutes 2 = .ok (.putfield 52, 3) := by decide +kernel
theorem dX7_noteMinutes_5 : decode cX7_noteMinutes 5 = .ok (.aload_n 1, 1) := by decide +kernel
theorem dX7_noteMinutes_6 : decode cX7_noteMinutes 6 = .ok (.getfield 55, 3) := by decide +kernel
theorem dX7_noteMinutes_9 : decode cX7_noteMinutes 9 = .ok (.getfield 59, 3) := by decide +kernel
theorem dX7_noteMinutes_12 : decode cX7_noteMinutes 12 = .ok (.istore 4, 2) := by decide +kernel
theorem dX7_noteMinutes_14 : decode cX7_noteMinutes 14 = .ok (.iload 4, 2) := by decide +kernel
theorem dX7_noteMinutes_16 : decode cX7_noteMinutes 16 = .ok (.sipush 240, 3) := by decide +kernel
theorem dX7_noteMinutes_19 : decode cX7_noteMinutes 19 = .ok (.if_icmp .ge 87, 3) := by decide +kernel
theorem dX7_noteMinutes_22 : decode cX7_noteMinutes 22 = .ok (.aload_n 1, 1) := by decide +kernel
theorem dX7_noteMinutes_23 : decode cX7_noteMinutes 23 = .ok (.iload 4, 2) := by decide +kernel
theorem dX7_noteMinutes_25 : decode cX7_noteMinutes 25 = .ok (.invokevirtual 64, 3) := by decide +kernel
theorem dX7_noteMinutes_28 : decode cX7_noteMinutes 28 = .ok (.iload_n 3, 1) := by decide +kernel
theorem dX7_noteMinutes_29 : decode cX7_noteMinutes 29 = .ok (.iand, 1) := by decide +kernel
theorem dX7_noteMinutes_30 : decode cX7_noteMinutes 30 = .ok (.istore 5, 2) := by decide +kernel
theorem dX7_noteMinutes_32 : decode cX7_noteMinutes 32 = .ok (.aload_n 0, 1) := by decide +kernel
theorem dX7_noteMinutes_33 : decode cX7_noteMinutes 33 = .ok (.getfield 52, 3) := by decide +kernel
theorem dX7_noteMinutes_36 : decode cX7_noteMinutes 36 = .ok (.ifCond .le 23, 3) := by decide +kernel
theorem dX7_noteMinutes_39 : decode cX7_noteMinutes 39 = .ok (.aload_n 0, 1) := by decide +kernel
theorem dX7_noteMinutes_40 : decode cX7_noteMinutes 40 = .ok (.getfield 9, 3) := by decide +kernel
theorem dX7_noteMinutes_43 : decode cX7_noteMinutes 43 = .ok (.aload_n 0, 1) := by decide +kernel
theorem dX7_noteMinutes_44 : decode cX7_noteMinutes 44 = .ok (.getfield 52, 3) := by decide +kernel
theorem dX7_noteMinutes_47 : decode cX7_noteMinutes 47 = .ok (.iconst 1, 1) := by decide +kernel
theorem dX7_noteMinutes_48 : decode cX7_noteMinutes 48 = .ok (.isub, 1) := by decide +kernel
theorem dX7_noteMinutes_49 : decode cX7_noteMinutes 49 = .ok (.iaload, 1) := by decide +kernel
theorem dX7_noteMinutes_50 : decode cX7_noteMinutes 50 = .ok (.iload 5, 2) := by decide +kernel
theorem dX7_noteMinutes_52 : decode cX7_noteMinutes 52 = .ok (.if_icmp .ne 7, 3) := by decide +kernel
theorem dX7_noteMinutes_55 : decode cX7_noteMinutes 55 = .ok (.iconst 1, 1) := by decide +kernel
theorem dX7_noteMinutes_56 : decode cX7_noteMinutes 56 = .ok (.goto 4, 3) := by decide +kernel
theorem dX7_noteMinutes_59 : decode cX7_noteMinutes 59 = .ok (.iconst 0, 1) := by decide +kernel
theorem dX7_noteMinutes_60 : decode cX7_noteMinutes 60 = .ok (.istore 6, 2) := by decide +kernel
theorem dX7_noteMinutes_62 : decode cX7_noteMinutes 62 = .ok (.iload 6, 2) := by decide +kernel
theorem dX7_noteMinutes_64 : decode cX7_noteMinutes 64 = .ok (.ifCond .ne 36, 3) := by decide +kernel
theorem dX7_noteMinutes_67 : decode cX7_noteMinutes 67 = .ok (.aload_n 0, 1) := by decide +kernel
theorem dX7_noteMinutes_68 : decode cX7_noteMinutes 68 = .ok (.aload_n 1, 1) := by decide +kernel
theorem dX7_noteMinutes_69 : decode cX7_noteMinutes 69 = .ok (.iload_n 2, 1) := by decide +kernel
theorem dX7_noteMinutes_70 : decode cX7_noteMinutes 70 = .ok (.iload 5, 2) := by decide +kernel
theorem dX7_noteMinutes_72 : decode cX7_noteMinutes 72 = .ok (.iconst 0, 1) := by decide +kernel
theorem dX7_noteMinutes_73 : decode cX7_noteMinutes 73 = .ok (.invokevirtual 67, 3) := by decide +kernel
theorem dX7_noteMinutes_76 : decode cX7_noteMinutes 76 = .ok (.ifCond .ne 24, 3) := by decide +kernel
theorem dX7_noteMinutes_79 : decode cX7_noteMinutes 79 = .ok (.aload_n 0, 1) := by decide +kernel
theorem dX7_noteMinutes_80 : decode cX7_noteMinutes 80 = .ok (.getfield 9, 3) := by decide +kernel
theorem dX7_noteMinutes_83 : decode cX7_noteMinutes 83 = .ok (.aload_n 0, 1) := by decide +kernel
theorem dX7_noteMinutes_84 : decode cX7_noteMinutes 84 = .ok (.getfield 52, 3) := by decide +kernel
theorem dX7_noteMinutes_87 : decode cX7_noteMinutes 87 = .ok (.iload 5, 2) := by decide +kernel
theorem dX7_noteMinutes_89 : decode cX7_noteMinutes 89 = .ok (.iastore, 1) := by decide +kernel
theorem dX7_noteMinutes_90 : decode cX7_noteMinutes 90 = .ok (.aload_n 0, 1) := by decide +kernel
theorem dX7_noteMinutes_91 : decode cX7_noteMinutes 91 = .ok (.dup, 1) := by decide +kernel
theorem dX7_noteMinutes_92 : decode cX7_noteMinutes 92 = .ok (.getfield 52, 3) := by decide +kernel
theorem dX7_noteMinutes_95 : decode cX7_noteMinutes 95 = .ok (.iconst 1, 1) := by decide +kernel
theorem dX7_noteMinutes_96 : decode cX7_noteMinutes 96 = .ok (.iadd, 1) := by decide +kernel
theorem dX7_noteMinutes_97 : decode cX7_noteMinutes 97 = .ok (.putfield 52, 3) := by decide +kernel
theorem dX7_noteMinutes_100 : decode cX7_noteMinutes 100 = .ok (.iinc 4 1, 3) := by decide +kernel
theorem dX7_noteMinutes_103 : decode cX7_noteMinutes 103 = .ok (.goto (-89), 3) := by decide +kernel
theorem dX7_noteMinutes_106 : decode cX7_noteMinutes 106 = .ok (.return_, 1) := by decide +kernel
theorem dX7_silencesAll_0 : decode cX7_silencesAll 0 = .ok (.iconst 0, 1) := by decide +kernel
theorem dX7_silencesAll_1 : decode cX7_silencesAll 1 = .ok (.istore 4, 2) := by decide +kernel
theorem dX7_silencesAll_3 : decode cX7_silencesAll 3 = .ok (.iload 4, 2) := by decide +kernel
theorem dX7_silencesAll_5 : decode cX7_silencesAll 5 = .ok (.aload_n 0, 1) := by decide +kernel
theorem dX7_silencesAll_6 : decode cX7_silencesAll 6 = .ok (.getfield 52, 3) := by decide +kernel
theorem dX7_silencesAll_9 : decode cX7_silencesAll 9 = .ok (.if_icmp .ge 28, 3) := by decide +kernel
theorem dX7_silencesAll_12 : decode cX7_silencesAll 12 = .ok (.aload_n 0, 1) := by decide +kernel
theorem dX7_silencesAll_13 : decode cX7_silencesAll 13 = .ok (.aload_n 1, 1) := by decide +kernel
theorem dX7_silencesAll_14 : decode cX7_silencesAll 14 = .ok (.iload_n 2, 1) := by decide +kernel
theorem dX7_silencesAll_15 : decode cX7_silencesAll 15 = .ok (.aload_n 0, 1) := by decide +kernel
theorem dX7_silencesAll_16 : decode cX7_silencesAll 16 = .ok (.getfield 9, 3) := by decide +kernel
theorem dX7_silencesAll_19 : decode cX7_silencesAll 19 = .ok (.iload 4, 2) := by decide +kernel
theorem dX7_silencesAll_21 : decode cX7_silencesAll 21 = .ok (.iaload, 1) := by decide +kernel
theorem dX7_silencesAll_22 : decode cX7_silencesAll 22 = .ok (.iload_n 3, 1) := by decide +kernel
theorem dX7_silencesAll_23 : decode cX7_silencesAll 23 = .ok (.invokevirtual 67, 3) := by decide +kernel
theorem dX7_silencesAll_26 : decode cX7_silencesAll 26 = .ok (.ifCond .ne 5, 3) := by decide +kernel
theorem dX7_silencesAll_29 : decode cX7_silencesAll 29 = .ok (.iconst 0, 1) := by decide +kernel
theorem dX7_silencesAll_30 : decode cX7_silencesAll 30 = .ok (.ireturn, 1) := by decide +kernel
theorem dX7_silencesAll_31 : decode cX7_silencesAll 31 = .ok (.iinc 4 1, 3) := by decide +kernel
theorem dX7_silencesAll_34 : decode cX7_silencesAll 34 = .ok (.goto (-31), 3) := by decide +kernel
theorem dX7_silencesAll_37 : decode cX7_silencesAll 37 = .ok (.iconst 1, 1) := by decide +kernel
theorem dX7_silencesAll_38 : decode cX7_silencesAll 38 = .ok (.ireturn, 1) := by decide +kernel
theorem dX7_silences_0 : decode cX7_silences 0 = .ok (.aload_n 1, 1) := by decide +kernel
theorem dX7_silences_1 : decode cX7_silences 1 = .ok (.iload_n 3, 1) := by decide +kernel
theorem dX7_silences_2 : decode cX7_silences 2 = .ok (.iload 4, 2) := by decide +kernel
theorem dX7_silences_4 : decode cX7_silences 4 = .ok (.iconst (-1), 1) := by decide +kernel
theorem dX7_silences_5 : decode cX7_silences 5 = .ok (.ixor, 1) := by decide +kernel
theorem dX7_silences_6 : decode cX7_silences 6 = .ok (.iand, 1) := by decide +kernel
theorem dX7_silences_7 : decode cX7_silences 7 = .ok (.invokevirtual 71, 3) := by decide +kernel
theorem dX7_silences_10 : decode cX7_silences 10 = .ok (.iload_n 2, 1) := by decide +kernel
theorem dX7_silences_11 : decode cX7_silences 11 = .ok (.iand, 1) := by decide +kernel
theorem dX7_silences_12 : decode cX7_silences 12 = .ok (.iload_n 2, 1) := by decide +kernel
theorem dX7_silences_13 : decode cX7_silences 13 = .ok (.if_icmp .eq 7, 3) := by decide +kernel
theorem dX7_silences_16 : decode cX7_silences 16 = .ok (.iconst 1, 1) := by decide +kernel
theorem dX7_silences_17 : decode cX7_silences 17 = .ok (.goto 4, 3) := by decide +kernel
theorem dX7_silences_20 : decode cX7_silences 20 = .ok (.iconst 0, 1) := by decide +kernel
theorem dX7_silences_21 : decode cX7_silences 21 = .ok (.ireturn, 1) := by decide +kernel
theorem dX8_init_0 : decode cX8_init 0 = .ok (.aload_n 0, 1) := by decide +kernel
theorem dX8_init_1 : decode cX8_init 1 = .ok (.invokespecial 3, 3) := by decide +kernel
theorem dX8_init_4 : decode cX8_init 4 = .ok (.aload_n 0, 1) := by decide +kernel
theorem dX8_init_5 : decode cX8_init 5 = .ok (.sipush 240, 3) := by decide +kernel
theorem dX8_init_8 : decode cX8_init 8 = .ok (.newarray .int, 2) := by decide +kernel
theorem dX8_init_10 : decode cX8_init 10 = .ok (.putfield 9, 3) := by decide +kernel
theorem dX8_init_13 : decode cX8_init 13 = .ok (.aload_n 0, 1) := by decide +kernel
theorem dX8_init_14 : decode cX8_init 14 = .ok (.sipush 241, 3) := by decide +kernel
theorem dX8_init_17 : decode cX8_init 17 = .ok (.newarray .int, 2) := by decide +kernel
theorem dX8_init_19 : decode cX8_init 19 = .ok (.putfield 15, 3) := by decide +kernel
theorem dX8_init_22 : decode cX8_init 22 = .ok (.aload_n 0, 1) := by decide +kernel
theorem dX8_init_23 : decode cX8_init 23 = .ok (.sipush 1446, 3) := by decide +kernel
theorem dX8_init_26 : decode cX8_init 26 = .ok (.newarray .int, 2) := by decide +kernel
theorem dX8_init_28 : decode cX8_init 28 = .ok (.putfield 18, 3) := by decide +kernel
theorem dX8_init_31 : decode cX8_init 31 = .ok (.return_, 1) := by decide +kernel
theorem dX8_weigh_0 : decode cX8_weigh 0 = .ok (.sipush 239, 3) := by decide +kernel
theorem dX8_weigh_3 : decode cX8_weigh 3 = .ok (.istore_n 3, 1) := by decide +kernel
theorem dX8_weigh_4 : decode cX8_weigh 4 = .ok (.iload_n 3, 1) := by decide +kernel
theorem dX8_weigh_5 : decode cX8_weigh 5 = .ok (.aload_n 1, 1) := by decide +kernel
theorem dX8_weigh_6 : decode cX8_weigh 6 = .ok (.getfield 21, 3) := by decide +kernel
theorem dX8_weigh_9 : decode cX8_weigh 9 = .ok (.getfield 27, 3) := by decide +kernel
theorem dX8_weigh_12 : decode cX8_weigh 12 = .ok (.if_icmp .lt 94, 3) := by decide +kernel
theorem dX8_weigh_15 : decode cX8_weigh 15 = .ok (.aload_n 0, 1) := by decide +kernel
theorem dX8_weigh_16 : decode cX8_weigh 16 = .ok (.getfield 9, 3) := by decide +kernel
theorem dX8_weigh_19 : decode cX8_weigh 19 = .ok (.iload_n 3, 1) := by decide +kernel
theorem dX8_weigh_20 : decode cX8_weigh 20 = .ok (.aload_n 1, 1) := by decide +kernel
theorem dX8_weigh_21 : decode cX8_weigh 21 = .ok (.iload_n 2, 1) := by decide +kernel
theorem dX8_weigh_22 : decode cX8_weigh 22 = .ok (.iload_n 3, 1) := by decide +kernel
theorem dX8_weigh_23 : decode cX8_weigh 23 = .ok (.invokevirtual 33, 3) := by decide +kernel
theorem dX8_weigh_26 : decode cX8_weigh 26 = .ok (.iastore, 1) := by decide +kernel
theorem dX8_weigh_27 : decode cX8_weigh 27 = .ok (.aload_n 0, 1) := by decide +kernel
theorem dX8_weigh_28 : decode cX8_weigh 28 = .ok (.getfield 15, 3) := by decide +kernel
theorem dX8_weigh_31 : decode cX8_weigh 31 = .ok (.iload_n 3, 1) := by decide +kernel
theorem dX8_weigh_32 : decode cX8_weigh 32 = .ok (.aload_n 0, 1) := by decide +kernel
theorem dX8_weigh_33 : decode cX8_weigh 33 = .ok (.getfield 15, 3) := by decide +kernel
theorem dX8_weigh_36 : decode cX8_weigh 36 = .ok (.iload_n 3, 1) := by decide +kernel
theorem dX8_weigh_37 : decode cX8_weigh 37 = .ok (.iconst 1, 1) := by decide +kernel
theorem dX8_weigh_38 : decode cX8_weigh 38 = .ok (.iadd, 1) := by decide +kernel
theorem dX8_weigh_39 : decode cX8_weigh 39 = .ok (.iaload, 1) := by decide +kernel
theorem dX8_weigh_40 : decode cX8_weigh 40 = .ok (.aload_n 0, 1) := by decide +kernel
theorem dX8_weigh_41 : decode cX8_weigh 41 = .ok (.getfield 9, 3) := by decide +kernel
theorem dX8_weigh_44 : decode cX8_weigh 44 = .ok (.iload_n 3, 1) := by decide +kernel
theorem dX8_weigh_45 : decode cX8_weigh 45 = .ok (.iaload, 1) := by decide +kernel
theorem dX8_weigh_46 : decode cX8_weigh 46 = .ok (.ifCond .eq 7, 3) := by decide +kernel
theorem dX8_weigh_49 : decode cX8_weigh 49 = .ok (.iconst 1, 1) := by decide +kernel
theorem dX8_weigh_50 : decode cX8_weigh 50 = .ok (.goto 4, 3) := by decide +kernel
theorem dX8_weigh_53 : decode cX8_weigh 53 = .ok (.iconst 0, 1) := by decide +kernel
theorem dX8_weigh_54 : decode cX8_weigh 54 = .ok (.iadd, 1) := by decide +kernel
theorem dX8_weigh_55 : decode cX8_weigh 55 = .ok (.iastore, 1) := by decide +kernel
theorem dX8_weigh_56 : decode cX8_weigh 56 = .ok (.iconst 0, 1) := by decide +kernel
theorem dX8_weigh_57 : decode cX8_weigh 57 = .ok (.istore 4, 2) := by decide +kernel
theorem dX8_weigh_59 : decode cX8_weigh 59 = .ok (.iload 4, 2) := by decide +kernel
theorem dX8_weigh_61 : decode cX8_weigh 61 = .ok (.aload_n 1, 1) := by decide +kernel
theorem dX8_weigh_62 : decode cX8_weigh 62 = .ok (.getfield 37, 3) := by decide +kernel
theorem dX8_weigh_65 : decode cX8_weigh 65 = .ok (.getfield 41, 3) := by decide +kernel
theorem dX8_weigh_68 : decode cX8_weigh 68 = .ok (.if_icmp .ge 32, 3) := by decide +kernel
theorem dX8_weigh_71 : decode cX8_weigh 71 = .ok (.aload_n 0, 1) := by decide +kernel
theorem dX8_weigh_72 : decode cX8_weigh 72 = .ok (.getfield 18, 3) := by decide +kernel
theorem dX8_weigh_75 : decode cX8_weigh 75 = .ok (.iload_n 3, 1) := by decide +kernel
theorem dX8_weigh_76 : decode cX8_weigh 76 = .ok (.bipush 6, 2) := by decide +kernel
theorem dX8_weigh_78 : decode cX8_weigh 78 = .ok (.imul, 1) := by decide +kernel
theorem dX8_weigh_79 : decode cX8_weigh 79 = .ok (.iload 4, 2) := by decide +kernel
theorem dX8_weigh_81 : decode cX8_weigh 81 = .ok (.iadd, 1) := by decide +kernel
theorem dX8_weigh_82 : decode cX8_weigh 82 = .ok (.aload_n 0, 1) := by decide +kernel
theorem dX8_weigh_83 : decode cX8_weigh 83 = .ok (.aload_n 1, 1) := by decide +kernel
theorem dX8_weigh_84 : decode cX8_weigh 84 = .ok (.getfield 37, 3) := by decide +kernel
theorem dX8_weigh_87 : decode cX8_weigh 87 = .ok (.iload_n 3, 1) := by decide +kernel
theorem dX8_weigh_88 : decode cX8_weigh 88 = .ok (.iload 4, 2) := by decide +kernel
theorem dX8_weigh_90 : decode cX8_weigh 90 = .ok (.invokevirtual 46, 3) := by decide +kernel
theorem dX8_weigh_93 : decode cX8_weigh 93 = .ok (.iastore, 1) := by decide +kernel
theorem dX8_weigh_94 : decode cX8_weigh 94 = .ok (.iinc 4 1, 3) := by decide +kernel
theorem dX8_weigh_97 : decode cX8_weigh 97 = .ok (.goto (-38), 3) := by decide +kernel
theorem dX8_weigh_100 : decode cX8_weigh 100 = .ok (.iinc 3 (-1), 3) := by decide +kernel
theorem dX8_weigh_103 : decode cX8_weigh 103 = .ok (.goto (-99), 3) := by decide +kernel
theorem dX8_weigh_106 : decode cX8_weigh 106 = .ok (.return_, 1) := by decide +kernel
theorem dX8_fewestFrom_0 : decode cX8_fewestFrom 0 = .ok (.aload_n 0, 1) := by decide +kernel
theorem dX8_fewestFrom_1 : decode cX8_fewestFrom 1 = .ok (.aload_n 1, 1) := by decide +kernel
theorem dX8_fewestFrom_2 : decode cX8_fewestFrom 2 = .ok (.iload_n 2, 1) := by decide +kernel
theorem dX8_fewestFrom_3 : decode cX8_fewestFrom 3 = .ok (.iload_n 3, 1) := by decide +kernel
theorem dX8_fewestFrom_4 : decode cX8_fewestFrom 4 = .ok (.iload_n 3, 1) := by decide +kernel
theorem dX8_fewestFrom_5 : decode cX8_fewestFrom 5 = .ok (.invokevirtual 50, 3) := by decide +kernel
theorem dX8_fewestFrom_8 : decode cX8_fewestFrom 8 = .ok (.istore 4, 2) := by decide +kernel
theorem dX8_fewestFrom_10 : decode cX8_fewestFrom 10 = .ok (.iload_n 3, 1) := by decide +kernel
theorem dX8_fewestFrom_11 : decode cX8_fewestFrom 11 = .ok (.ifCond .le 20, 3) := by decide +kernel
theorem dX8_fewestFrom_14 : decode cX8_fewestFrom 14 = .ok (.iload 4, 2) := by decide +kernel
theorem dX8_fewestFrom_16 : decode cX8_fewestFrom 16 = .ok (.aload_n 0, 1) := by decide +kernel
theorem dX8_fewestFrom_17 : decode cX8_fewestFrom 17 = .ok (.aload_n 1, 1) := by decide +kernel
theorem dX8_fewestFrom_18 : decode cX8_fewestFrom 18 = .ok (.iload_n 2, 1) := by decide +kernel
theorem dX8_fewestFrom_19 : decode cX8_fewestFrom 19 = .ok (.iload_n 3, 1) := by decide +kernel
theorem dX8_fewestFrom_20 : decode cX8_fewestFrom 20 = .ok (.iload_n 3, 1) := by decide +kernel
theorem dX8_fewestFrom_21 : decode cX8_fewestFrom 21 = .ok (.iconst 1, 1) := by decide +kernel
theorem dX8_fewestFrom_22 : decode cX8_fewestFrom 22 = .ok (.isub, 1) := by decide +kernel
theorem dX8_fewestFrom_23 : decode cX8_fewestFrom 23 = .ok (.invokevirtual 50, 3) := by decide +kernel
theorem dX8_fewestFrom_26 : decode cX8_fewestFrom 26 = .ok (.invokestatic 54, 3) := by decide +kernel
theorem dX8_fewestFrom_29 : decode cX8_fewestFrom 29 = .ok (.istore 4, 2) := by decide +kernel
theorem dX8_fewestFrom_31 : decode cX8_fewestFrom 31 = .ok (.iload_n 3, 1) := by decide +kernel
theorem dX8_fewestFrom_32 : decode cX8_fewestFrom 32 = .ok (.iconst 1, 1) := by decide +kernel
theorem dX8_fewestFrom_33 : decode cX8_fewestFrom 33 = .ok (.iadd, 1) := by decide +kernel
theorem dX8_fewestFrom_34 : decode cX8_fewestFrom 34 = .ok (.aload_n 1, 1) := by decide +kernel
theorem dX8_fewestFrom_35 : decode cX8_fewestFrom 35 = .ok (.getfield 41, 3) := by decide +kernel
theorem dX8_fewestFrom_38 : decode cX8_fewestFrom 38 = .ok (.if_icmp .ge 20, 3) := by decide +kernel
theorem dX8_fewestFrom_41 : decode cX8_fewestFrom 41 = .ok (.iload 4, 2) := by decide +kernel
theorem dX8_fewestFrom_43 : decode cX8_fewestFrom 43 = .ok (.aload_n 0, 1) := by decide +kernel
theorem dX8_fewestFrom_44 : decode cX8_fewestFrom 44 = .ok (.aload_n 1, 1) := by decide +kernel
theorem dX8_fewestFrom_45 : decode cX8_fewestFrom 45 = .ok (.iload_n 2, 1) := by decide +kernel
theorem dX8_fewestFrom_46 : decode cX8_fewestFrom 46 = .ok (.iload_n 3, 1) := by decide +kernel
theorem dX8_fewestFrom_47 : decode cX8_fewestFrom 47 = .ok (.iload_n 3, 1) := by decide +kernel
theorem dX8_fewestFrom_48 : decode cX8_fewestFrom 48 = .ok (.iconst 1, 1) := by decide +kernel
theorem dX8_fewestFrom_49 : decode cX8_fewestFrom 49 = .ok (.iadd, 1) := by decide +kernel
theorem dX8_fewestFrom_50 : decode cX8_fewestFrom 50 = .ok (.invokevirtual 50, 3) := by decide +kernel
theorem dX8_fewestFrom_53 : decode cX8_fewestFrom 53 = .ok (.invokestatic 54, 3) := by decide +kernel
theorem dX8_fewestFrom_56 : decode cX8_fewestFrom 56 = .ok (.istore 4, 2) := by decide +kernel
theorem dX8_fewestFrom_58 : decode cX8_fewestFrom 58 = .ok (.iload 4, 2) := by decide +kernel
theorem dX8_fewestFrom_60 : decode cX8_fewestFrom 60 = .ok (.ireturn, 1) := by decide +kernel
theorem dX8_tolls_0 : decode cX8_tolls 0 = .ok (.iload_n 3, 1) := by decide +kernel
theorem dX8_tolls_1 : decode cX8_tolls 1 = .ok (.iload 4, 2) := by decide +kernel
theorem dX8_tolls_3 : decode cX8_tolls 3 = .ok (.if_icmp .ne 42, 3) := by decide +kernel
theorem dX8_tolls_6 : decode cX8_tolls 6 = .ok (.aload_n 0, 1) := by decide +kernel
theorem dX8_tolls_7 : decode cX8_tolls 7 = .ok (.getfield 9, 3) := by decide +kernel
theorem dX8_tolls_10 : decode cX8_tolls 10 = .ok (.iload_n 2, 1) := by decide +kernel
theorem dX8_tolls_11 : decode cX8_tolls 11 = .ok (.iaload, 1) := by decide +kernel
theorem dX8_tolls_12 : decode cX8_tolls 12 = .ok (.iconst 1, 1) := by decide +kernel
theorem dX8_tolls_13 : decode cX8_tolls 13 = .ok (.iload_n 3, 1) := by decide +kernel
theorem dX8_tolls_14 : decode cX8_tolls 14 = .ok (.ishl, 1) := by decide +kernel
theorem dX8_tolls_15 : decode cX8_tolls 15 = .ok (.iconst (-1), 1) := by decide +kernel
theorem dX8_tolls_16 : decode cX8_tolls 16 = .ok (.ixor, 1) := by decide +kernel
theorem dX8_tolls_17 : decode cX8_tolls 17 = .ok (.iand, 1) := by decide +kernel
theorem dX8_tolls_18 : decode cX8_tolls 18 = .ok (.ifCond .eq 7, 3) := by decide +kernel
theorem dX8_tolls_21 : decode cX8_tolls 21 = .ok (.iconst 1, 1) := by decide +kernel
theorem dX8_tolls_22 : decode cX8_tolls 22 = .ok (.goto 4, 3) := by decide +kernel
theorem dX8_tolls_25 : decode cX8_tolls 25 = .ok (.iconst 0, 1) := by decide +kernel
theorem dX8_tolls_26 : decode cX8_tolls 26 = .ok (.istore 5, 2) := by decide +kernel
theorem dX8_tolls_28 : decode cX8_tolls 28 = .ok (.iload 5, 2) := by decide +kernel
theorem dX8_tolls_30 : decode cX8_tolls 30 = .ok (.aload_n 0, 1) := by decide +kernel
theorem dX8_tolls_31 : decode cX8_tolls 31 = .ok (.getfield 18, 3) := by decide +kernel
theorem dX8_tolls_34 : decode cX8_tolls 34 = .ok (.iload_n 2, 1) := by decide +kernel
theorem dX8_tolls_35 : decode cX8_tolls 35 = .ok (.iconst 1, 1) := by decide +kernel
theorem dX8_tolls_36 : decode cX8_tolls 36 = .ok (.iadd, 1) := by decide +kernel
theorem dX8_tolls_37 : decode cX8_tolls 37 = .ok (.bipush 6, 2) := by decide +kernel
theorem dX8_tolls_39 : decode cX8_tolls 39 = .ok (.imul, 1) := by decide +kernel
theorem dX8_tolls_40 : decode cX8_tolls 40 = .ok (.iload_n 3, 1) := by decide +kernel
theorem dX8_tolls_41 : decode cX8_tolls 41 = .ok (.iadd, 1) := by decide +kernel
theorem dX8_tolls_42 : decode cX8_tolls 42 = .ok (.iaload, 1) := by decide +kernel
theorem dX8_tolls_43 : decode cX8_tolls 43 = .ok (.iadd, 1) := by decide +kernel
theorem dX8_tolls_44 : decode cX8_tolls 44 = .ok (.ireturn, 1) := by decide +kernel
theorem dX8_tolls_45 : decode cX8_tolls 45 = .ok (.aload_n 0, 1) := by decide +kernel
theorem dX8_tolls_46 : decode cX8_tolls 46 = .ok (.iload_n 2, 1) := by decide +kernel
theorem dX8_tolls_47 : decode cX8_tolls 47 = .ok (.aload_n 1, 1) := by decide +kernel
theorem dX8_tolls_48 : decode cX8_tolls 48 = .ok (.iload_n 3, 1) := by decide +kernel
theorem dX8_tolls_49 : decode cX8_tolls 49 = .ok (.iload 4, 2) := by decide +kernel
theorem dX8_tolls_51 : decode cX8_tolls 51 = .ok (.invokevirtual 59, 3) := by decide +kernel
theorem dX8_tolls_54 : decode cX8_tolls 54 = .ok (.iload 4, 2) := by decide +kernel
theorem dX8_tolls_56 : decode cX8_tolls 56 = .ok (.invokevirtual 62, 3) := by decide +kernel
theorem dX8_tolls_59 : decode cX8_tolls 59 = .ok (.ireturn, 1) := by decide +kernel
theorem dX8_tollsArriving_0 : decode cX8_tollsArriving 0 = .ok (.sipush 240, 3) := by decide +kernel
theorem dX8_tollsArriving_3 : decode cX8_tollsArriving 3 = .ok (.iload_n 1, 1) := by decide +kernel
theorem dX8_tollsArriving_4 : decode cX8_tollsArriving 4 = .ok (.iload_n 2, 1) := by decide +kernel
theorem dX8_tollsArriving_5 : decode cX8_tollsArriving 5 = .ok (.iadd, 1) := by decide +kernel
theorem dX8_tollsArriving_6 : decode cX8_tollsArriving 6 = .ok (.invokestatic 54, 3) := by decide +kernel
theorem dX8_tollsArriving_9 : decode cX8_tollsArriving 9 = .ok (.istore 4, 2) := by decide +kernel
theorem dX8_tollsArriving_11 : decode cX8_tollsArriving 11 = .ok (.aload_n 0, 1) := by decide +kernel
theorem dX8_tollsArriving_12 : decode cX8_tollsArriving 12 = .ok (.getfield 15, 3) := by decide +kernel
theorem dX8_tollsArriving_15 : decode cX8_tollsArriving 15 = .ok (.iload_n 1, 1) := by decide +kernel
theorem dX8_tollsArriving_16 : decode cX8_tollsArriving 16 = .ok (.iaload, 1) := by decide +kernel
theorem dX8_tollsArriving_17 : decode cX8_tollsArriving 17 = .ok (.aload_n 0, 1) := by decide +kernel
theorem dX8_tollsArriving_18 : decode cX8_tollsArriving 18 = .ok (.getfield 15, 3) := by decide +kernel
theorem dX8_tollsArriving_21 : decode cX8_tollsArriving 21 = .ok (.iload 4, 2) := by decide +kernel
theorem dX8_tollsArriving_23 : decode cX8_tollsArriving 23 = .ok (.iaload, 1) := by decide +kernel
theorem dX8_tollsArriving_24 : decode cX8_tollsArriving 24 = .ok (.isub, 1) := by decide +kernel
theorem dX8_tollsArriving_25 : decode cX8_tollsArriving 25 = .ok (.aload_n 0, 1) := by decide +kernel
theorem dX8_tollsArriving_26 : decode cX8_tollsArriving 26 = .ok (.getfield 18, 3) := by decide +kernel
theorem dX8_tollsArriving_29 : decode cX8_tollsArriving 29 = .ok (.iload 4, 2) := by decide +kernel
theorem dX8_tollsArriving_31 : decode cX8_tollsArriving 31 = .ok (.bipush 6, 2) := by decide +kernel
theorem dX8_tollsArriving_33 : decode cX8_tollsArriving 33 = .ok (.imul, 1) := by decide +kernel
theorem dX8_tollsArriving_34 : decode cX8_tollsArriving 34 = .ok (.iload_n 3, 1) := by decide +kernel
theorem dX8_tollsArriving_35 : decode cX8_tollsArriving 35 = .ok (.iadd, 1) := by decide +kernel
theorem dX8_tollsArriving_36 : decode cX8_tollsArriving 36 = .ok (.iaload, 1) := by decide +kernel
theorem dX8_tollsArriving_37 : decode cX8_tollsArriving 37 = .ok (.iadd, 1) := by decide +kernel
theorem dX8_tollsArriving_38 : decode cX8_tollsArriving 38 = .ok (.ireturn, 1) := by decide +kernel
theorem dX8_fewestTolls_0 : decode cX8_fewestTolls 0 = .ok (.aload_n 0, 1) := by decide +kernel
theorem dX8_fewestTolls_1 : decode cX8_fewestTolls 1 = .ok (.aload_n 1, 1) := by decide +kernel
theorem dX8_fewestTolls_2 : decode cX8_fewestTolls 2 = .ok (.getfield 27, 3) := by decide +kernel
theorem dX8_fewestTolls_5 : decode cX8_fewestTolls 5 = .ok (.aload_n 1, 1) := by decide +kernel
theorem dX8_fewestTolls_6 : decode cX8_fewestTolls 6 = .ok (.getfield 66, 3) := by decide +kernel
theorem dX8_fewestTolls_9 : decode cX8_fewestTolls 9 = .ok (.iload_n 2, 1) := by decide +kernel
theorem dX8_fewestTolls_10 : decode cX8_fewestTolls 10 = .ok (.iaload, 1) := by decide +kernel
theorem dX8_fewestTolls_11 : decode cX8_fewestTolls 11 = .ok (.aload_n 1, 1) := by decide +kernel
theorem dX8_fewestTolls_12 : decode cX8_fewestTolls 12 = .ok (.getfield 69, 3) := by decide +kernel
theorem dX8_fewestTolls_15 : decode cX8_fewestTolls 15 = .ok (.iload_n 2, 1) := by decide +kernel
theorem dX8_fewestTolls_16 : decode cX8_fewestTolls 16 = .ok (.iaload, 1) := by decide +kernel
theorem dX8_fewestTolls_17 : decode cX8_fewestTolls 17 = .ok (.invokevirtual 62, 3) := by decide +kernel
theorem dX8_fewestTolls_20 : decode cX8_fewestTolls 20 = .ok (.ireturn, 1) := by decide +kernel
theorem dX8_bestPlace_0 : decode cX8_bestPlace 0 = .ok (.aload_n 1, 1) := by decide +kernel
theorem dX8_bestPlace_1 : decode cX8_bestPlace 1 = .ok (.getfield 21, 3) := by decide +kernel
theorem dX8_bestPlace_4 : decode cX8_bestPlace 4 = .ok (.getfield 27, 3) := by decide +kernel
theorem dX8_bestPlace_7 : decode cX8_bestPlace 7 = .ok (.istore_n 3, 1) := by decide +kernel
theorem dX8_bestPlace_8 : decode cX8_bestPlace 8 = .ok (.aload_n 1, 1) := by decide +kernel
theorem dX8_bestPlace_9 : decode cX8_bestPlace 9 = .ok (.getfield 21, 3) := by decide +kernel
theorem dX8_bestPlace_12 : decode cX8_bestPlace 12 = .ok (.getfield 69, 3) := by decide +kernel
theorem dX8_bestPlace_15 : decode cX8_bestPlace 15 = .ok (.iload_n 2, 1) := by decide +kernel
theorem dX8_bestPlace_16 : decode cX8_bestPlace 16 = .ok (.iaload, 1) := by decide +kernel
theorem dX8_bestPlace_17 : decode cX8_bestPlace 17 = .ok (.istore 4, 2) := by decide +kernel
theorem dX8_bestPlace_19 : decode cX8_bestPlace 19 = .ok (.aload_n 1, 1) := by decide +kernel
theorem dX8_bestPlace_20 : decode cX8_bestPlace 20 = .ok (.getfield 21, 3) := by decide +kernel
theorem dX8_bestPlace_23 : decode cX8_bestPlace 23 = .ok (.getfield 66, 3) := by decide +kernel
theorem dX8_bestPlace_26 : decode cX8_bestPlace 26 = .ok (.iload_n 2, 1) := by decide +kernel
theorem dX8_bestPlace_27 : decode cX8_bestPlace 27 = .ok (.iaload, 1) := by decide +kernel
theorem dX8_bestPlace_28 : decode cX8_bestPlace 28 = .ok (.ifCond .gt 10, 3) := by decide +kernel
theorem dX8_bestPlace_31 : decode cX8_bestPlace 31 = .ok (.iload_n 3, 1) := by decide +kernel
theorem dX8_bestPlace_32 : decode cX8_bestPlace 32 = .ok (.sipush 240, 3) := by decide +kernel
theorem dX8_bestPlace_35 : decode cX8_bestPlace 35 = .ok (.if_icmp .lt 6, 3) := by decide +kernel
theorem dX8_bestPlace_38 : decode cX8_bestPlace 38 = .ok (.iload 4, 2) := by decide +kernel
theorem dX8_bestPlace_40 : decode cX8_bestPlace 40 = .ok (.ireturn, 1) := by decide +kernel
theorem dX8_bestPlace_41 : decode cX8_bestPlace 41 = .ok (.aload_n 0, 1) := by decide +kernel
theorem dX8_bestPlace_42 : decode cX8_bestPlace 42 = .ok (.aload_n 1, 1) := by decide +kernel
theorem dX8_bestPlace_43 : decode cX8_bestPlace 43 = .ok (.getfield 21, 3) := by decide +kernel
theorem dX8_bestPlace_46 : decode cX8_bestPlace 46 = .ok (.iload_n 2, 1) := by decide +kernel
theorem dX8_bestPlace_47 : decode cX8_bestPlace 47 = .ok (.invokevirtual 72, 3) := by decide +kernel
theorem dX8_bestPlace_50 : decode cX8_bestPlace 50 = .ok (.istore 5, 2) := by decide +kernel
theorem dX8_bestPlace_52 : decode cX8_bestPlace 52 = .ok (.iconst 0, 1) := by decide +kernel
theorem dX8_bestPlace_53 : decode cX8_bestPlace 53 = .ok (.istore 6, 2) := by decide +kernel
theorem dX8_bestPlace_55 : decode cX8_bestPlace 55 = .ok (.iload 6, 2) := by decide +kernel
theorem dX8_bestPlace_57 : decode cX8_bestPlace 57 = .ok (.aload_n 1, 1) := by decide +kernel
theorem dX8_bestPlace_58 : decode cX8_bestPlace 58 = .ok (.getfield 37, 3) := by decide +kernel
theorem dX8_bestPlace_61 : decode cX8_bestPlace 61 = .ok (.getfield 41, 3) := by decide +kernel
theorem dX8_bestPlace_64 : decode cX8_bestPlace 64 = .ok (.if_icmp .ge 30, 3) := by decide +kernel
theorem dX8_bestPlace_67 : decode cX8_bestPlace 67 = .ok (.aload_n 0, 1) := by decide +kernel
theorem dX8_bestPlace_68 : decode cX8_bestPlace 68 = .ok (.aload_n 1, 1) := by decide +kernel
theorem dX8_bestPlace_69 : decode cX8_bestPlace 69 = .ok (.getfield 37, 3) := by decide +kernel
theorem dX8_bestPlace_72 : decode cX8_bestPlace 72 = .ok (.iload_n 3, 1) := by decide +kernel
theorem dX8_bestPlace_73 : decode cX8_bestPlace 73 = .ok (.iload 4, 2) := by decide +kernel
theorem dX8_bestPlace_75 : decode cX8_bestPlace 75 = .ok (.iload 6, 2) := by decide +kernel
theorem dX8_bestPlace_77 : decode cX8_bestPlace 77 = .ok (.invokevirtual 50, 3) := by decide +kernel
theorem dX8_bestPlace_80 : decode cX8_bestPlace 80 = .ok (.iload 5, 2) := by decide +kernel
theorem dX8_bestPlace_82 : decode cX8_bestPlace 82 = .ok (.if_icmp .ne 6, 3) := by decide +kernel
theorem dX8_bestPlace_85 : decode cX8_bestPlace 85 = .ok (.iload 6, 2) := by decide +kernel
theorem dX8_bestPlace_87 : decode cX8_bestPlace 87 = .ok (.ireturn, 1) := by decide +kernel
theorem dX8_bestPlace_88 : decode cX8_bestPlace 88 = .ok (.iinc 6 1, 3) := by decide +kernel
theorem dX8_bestPlace_91 : decode cX8_bestPlace 91 = .ok (.goto (-36), 3) := by decide +kernel
theorem dX8_bestPlace_94 : decode cX8_bestPlace 94 = .ok (.iload 4, 2) := by decide +kernel
theorem dX8_bestPlace_96 : decode cX8_bestPlace 96 = .ok (.ireturn, 1) := by decide +kernel
theorem dX9_init_0 : decode cX9_init 0 = .ok (.aload_n 0, 1) := by decide +kernel
theorem dX9_init_1 : decode cX9_init 1 = .ok (.invokespecial 1, 3) := by decide +kernel
theorem dX9_init_4 : decode cX9_init 4 = .ok (.aload_n 0, 1) := by decide +kernel
theorem dX9_init_5 : decode cX9_init 5 = .ok (.new 7, 3) := by decide +kernel
theorem dX9_init_8 : decode cX9_init 8 = .ok (.dup, 1) := by decide +kernel
theorem dX9_init_9 : decode cX9_init 9 = .ok (.invokespecial 9, 3) := by decide +kernel
theorem dX9_init_12 : decode cX9_init 12 = .ok (.putfield 10, 3) := by decide +kernel
theorem dX9_init_15 : decode cX9_init 15 = .ok (.aload_n 0, 1) := by decide +kernel
theorem dX9_init_16 : decode cX9_init 16 = .ok (.new 16, 3) := by decide +kernel
theorem dX9_init_19 : decode cX9_init 19 = .ok (.dup, 1) := by decide +kernel
theorem dX9_init_20 : decode cX9_init 20 = .ok (.invokespecial 18, 3) := by decide +kernel
theorem dX9_init_23 : decode cX9_init 23 = .ok (.putfield 19, 3) := by decide +kernel
theorem dX9_init_26 : decode cX9_init 26 = .ok (.aload_n 0, 1) := by decide +kernel
theorem dX9_init_27 : decode cX9_init 27 = .ok (.new 23, 3) := by decide +kernel
theorem dX9_init_30 : decode cX9_init 30 = .ok (.dup, 1) := by decide +kernel
theorem dX9_init_31 : decode cX9_init 31 = .ok (.invokespecial 25, 3) := by decide +kernel
theorem dX9_init_34 : decode cX9_init 34 = .ok (.putfield 26, 3) := by decide +kernel
theorem dX9_init_37 : decode cX9_init 37 = .ok (.aload_n 0, 1) := by decide +kernel
theorem dX9_init_38 : decode cX9_init 38 = .ok (.new 30, 3) := by decide +kernel
theorem dX9_init_41 : decode cX9_init 41 = .ok (.dup, 1) := by decide +kernel
theorem dX9_init_42 : decode cX9_init 42 = .ok (.invokespecial 32, 3) := by decide +kernel
theorem dX9_init_45 : decode cX9_init 45 = .ok (.putfield 33, 3) := by decide +kernel
theorem dX9_init_48 : decode cX9_init 48 = .ok (.aload_n 0, 1) := by decide +kernel
theorem dX9_init_49 : decode cX9_init 49 = .ok (.new 37, 3) := by decide +kernel
theorem dX9_init_52 : decode cX9_init 52 = .ok (.dup, 1) := by decide +kernel
theorem dX9_init_53 : decode cX9_init 53 = .ok (.invokespecial 39, 3) := by decide +kernel
theorem dX9_init_56 : decode cX9_init 56 = .ok (.putfield 40, 3) := by decide +kernel
theorem dX9_init_59 : decode cX9_init 59 = .ok (.aload_n 0, 1) := by decide +kernel
theorem dX9_init_60 : decode cX9_init 60 = .ok (.new 44, 3) := by decide +kernel
theorem dX9_init_63 : decode cX9_init 63 = .ok (.dup, 1) := by decide +kernel
theorem dX9_init_64 : decode cX9_init 64 = .ok (.invokespecial 46, 3) := by decide +kernel
theorem dX9_init_67 : decode cX9_init 67 = .ok (.putfield 47, 3) := by decide +kernel
theorem dX9_init_70 : decode cX9_init 70 = .ok (.aload_n 0, 1) := by decide +kernel
theorem dX9_init_71 : decode cX9_init 71 = .ok (.new 51, 3) := by decide +kernel
theorem dX9_init_74 : decode cX9_init 74 = .ok (.dup, 1) := by decide +kernel
theorem dX9_init_75 : decode cX9_init 75 = .ok (.invokespecial 53, 3) := by decide +kernel
theorem dX9_init_78 : decode cX9_init 78 = .ok (.putfield 54, 3) := by decide +kernel
theorem dX9_init_81 : decode cX9_init 81 = .ok (.aload_n 0, 1) := by decide +kernel
theorem dX9_init_82 : decode cX9_init 82 = .ok (.iconst 2, 1) := by decide +kernel
theorem dX9_init_83 : decode cX9_init 83 = .ok (.anewarray 58, 3) := by decide +kernel
theorem dX9_init_86 : decode cX9_init 86 = .ok (.putfield 60, 3) := by decide +kernel
theorem dX9_init_89 : decode cX9_init 89 = .ok (.iconst 0, 1) := by decide +kernel
theorem dX9_init_90 : decode cX9_init 90 = .ok (.istore_n 1, 1) := by decide +kernel
theorem dX9_init_91 : decode cX9_init 91 = .ok (.iload_n 1, 1) := by decide +kernel
theorem dX9_init_92 : decode cX9_init 92 = .ok (.iconst 2, 1) := by decide +kernel
theorem dX9_init_93 : decode cX9_init 93 = .ok (.if_icmp .ge 22, 3) := by decide +kernel
theorem dX9_init_96 : decode cX9_init 96 = .ok (.aload_n 0, 1) := by decide +kernel
theorem dX9_init_97 : decode cX9_init 97 = .ok (.getfield 60, 3) := by decide +kernel
theorem dX9_init_100 : decode cX9_init 100 = .ok (.iload_n 1, 1) := by decide +kernel
theorem dX9_init_101 : decode cX9_init 101 = .ok (.new 58, 3) := by decide +kernel
theorem dX9_init_104 : decode cX9_init 104 = .ok (.dup, 1) := by decide +kernel
theorem dX9_init_105 : decode cX9_init 105 = .ok (.invokespecial 64, 3) := by decide +kernel
theorem dX9_init_108 : decode cX9_init 108 = .ok (.aastore, 1) := by decide +kernel
theorem dX9_init_109 : decode cX9_init 109 = .ok (.iinc 1 1, 3) := by decide +kernel
theorem dX9_init_112 : decode cX9_init 112 = .ok (.goto (-21), 3) := by decide +kernel
theorem dX9_init_115 : decode cX9_init 115 = .ok (.aload_n 0, 1) := by decide +kernel
theorem dX9_init_116 : decode cX9_init 116 = .ok (.iconst 2, 1) := by decide +kernel
theorem dX9_init_117 : decode cX9_init 117 = .ok (.newarray .boolean, 2) := by decide +kernel
theorem dX9_init_119 : decode cX9_init 119 = .ok (.putfield 65, 3) := by decide +kernel
theorem dX9_init_122 : decode cX9_init 122 = .ok (.return_, 1) := by decide +kernel
theorem dX9_type_0 : decode cX9_type 0 = .ok (.iload_n 1, 1) := by decide +kernel
theorem dX9_type_1 : decode cX9_type 1 = .ok (.ifCond .lt 10, 3) := by decide +kernel
theorem dX9_type_4 : decode cX9_type 4 = .ok (.iload_n 1, 1) := by decide +kernel
theorem dX9_type_5 : decode cX9_type 5 = .ok (.sipush 255, 3) := by decide +kernel
theorem dX9_type_8 : decode cX9_type 8 = .ok (.if_icmp .le 5, 3) := by decide +kernel
theorem dX9_type_11 : decode cX9_type 11 = .ok (.iconst (-1), 1) := by decide +kernel
theorem dX9_type_12 : decode cX9_type 12 = .ok (.ireturn, 1) := by decide +kernel
theorem dX9_type_13 : decode cX9_type 13 = .ok (.aload_n 0, 1) := by decide +kernel
theorem dX9_type_14 : decode cX9_type 14 = .ok (.getfield 10, 3) := by decide +kernel
theorem dX9_type_17 : decode cX9_type 17 = .ok (.iload_n 1, 1) := by decide +kernel
theorem dX9_type_18 : decode cX9_type 18 = .ok (.invokevirtual 69, 3) := by decide +kernel
theorem dX9_type_21 : decode cX9_type 21 = .ok (.ifCond .eq 13, 3) := by decide +kernel
theorem dX9_type_24 : decode cX9_type 24 = .ok (.aload_n 0, 1) := by decide +kernel
theorem dX9_type_25 : decode cX9_type 25 = .ok (.getfield 10, 3) := by decide +kernel
theorem dX9_type_28 : decode cX9_type 28 = .ok (.getfield 73, 3) := by decide +kernel
theorem dX9_type_31 : decode cX9_type 31 = .ok (.goto 5, 3) := by decide +kernel
theorem dX9_type_34 : decode cX9_type 34 = .ok (.bipush (-3), 2) := by decide +kernel
theorem dX9_type_36 : decode cX9_type 36 = .ok (.ireturn, 1) := by decide +kernel
theorem dX9_clear_0 : decode cX9_clear 0 = .ok (.aload_n 0, 1) := by decide +kernel
theorem dX9_clear_1 : decode cX9_clear 1 = .ok (.getfield 10, 3) := by decide +kernel
theorem dX9_clear_4 : decode cX9_clear 4 = .ok (.invokevirtual 77, 3) := by decide +kernel
theorem dX9_clear_7 : decode cX9_clear 7 = .ok (.ireturn, 1) := by decide +kernel
theorem dX9_town_0 : decode cX9_town 0 = .ok (.aload_n 0, 1) := by decide +kernel
theorem dX9_town_1 : decode cX9_town 1 = .ok (.getfield 10, 3) := by decide +kernel
theorem dX9_town_4 : decode cX9_town 4 = .ok (.invokevirtual 81, 3) := by decide +kernel
theorem dX9_town_7 : decode cX9_town 7 = .ok (.istore_n 1, 1) := by decide +kernel
theorem dX9_town_8 : decode cX9_town 8 = .ok (.aload_n 0, 1) := by decide +kernel
theorem dX9_town_9 : decode cX9_town 9 = .ok (.getfield 10, 3) := by decide +kernel
theorem dX9_town_12 : decode cX9_town 12 = .ok (.invokevirtual 84, 3) := by decide +kernel
theorem dX9_town_15 : decode cX9_town 15 = .ok (.ifCond .eq 14, 3) := by decide +kernel
theorem dX9_town_18 : decode cX9_town 18 = .ok (.bipush (-10), 2) := by decide +kernel
theorem dX9_town_20 : decode cX9_town 20 = .ok (.aload_n 0, 1) := by decide +kernel
theorem dX9_town_21 : decode cX9_town 21 = .ok (.getfield 10, 3) := by decide +kernel
theorem dX9_town_24 : decode cX9_town 24 = .ok (.getfield 88, 3) := by decide +kernel
theorem dX9_town_27 : decode cX9_town 27 = .ok (.isub, 1) := by decide +kernel
theorem dX9_town_28 : decode cX9_town 28 = .ok (.ireturn, 1) := by decide +kernel
theorem dX9_town_29 : decode cX9_town 29 = .ok (.aload_n 0, 1) := by decide +kernel
theorem dX9_town_30 : decode cX9_town 30 = .ok (.getfield 10, 3) := by decide +kernel
theorem dX9_town_33 : decode cX9_town 33 = .ok (.invokevirtual 77, 3) := by decide +kernel
theorem dX9_town_36 : decode cX9_town 36 = .ok (.pop, 1) := by decide +kernel
theorem dX9_town_37 : decode cX9_town 37 = .ok (.aload_n 0, 1) := by decide +kernel
theorem dX9_town_38 : decode cX9_town 38 = .ok (.getfield 19, 3) := by decide +kernel
theorem dX9_town_41 : decode cX9_town 41 = .ok (.aload_n 0, 1) := by decide +kernel
theorem dX9_town_42 : decode cX9_town 42 = .ok (.getfield 10, 3) := by decide +kernel
theorem dX9_town_45 : decode cX9_town 45 = .ok (.getfield 91, 3) := by decide +kernel
theorem dX9_town_48 : decode cX9_town 48 = .ok (.invokevirtual 95, 3) := by decide +kernel
theorem dX9_town_51 : decode cX9_town 51 = .ok (.aload_n 0, 1) := by decide +kernel
theorem dX9_town_52 : decode cX9_town 52 = .ok (.getfield 26, 3) := by decide +kernel
theorem dX9_town_55 : decode cX9_town 55 = .ok (.invokevirtual 99, 3) := by decide +kernel
theorem dX9_town_58 : decode cX9_town 58 = .ok (.aload_n 0, 1) := by decide +kernel
theorem dX9_town_59 : decode cX9_town 59 = .ok (.getfield 33, 3) := by decide +kernel
theorem dX9_town_62 : decode cX9_town 62 = .ok (.invokevirtual 102, 3) := by decide +kernel
theorem dX9_town_65 : decode cX9_town 65 = .ok (.pop, 1) := by decide +kernel
theorem dX9_town_66 : decode cX9_town 66 = .ok (.iconst 0, 1) := by decide +kernel
theorem dX9_town_67 : decode cX9_town 67 = .ok (.istore_n 2, 1) := by decide +kernel
theorem dX9_town_68 : decode cX9_town 68 = .ok (.iload_n 2, 1) := by decide +kernel
theorem dX9_town_69 : decode cX9_town 69 = .ok (.iconst 2, 1) := by decide +kernel
theorem dX9_town_70 : decode cX9_town 70 = .ok (.if_icmp .ge 16, 3) := by decide +kernel
theorem dX9_town_73 : decode cX9_town 73 = .ok (.aload_n 0, 1) := by decide +kernel
theorem dX9_town_74 : decode cX9_town 74 = .ok (.getfield 65, 3) := by decide +kernel
theorem dX9_town_77 : decode cX9_town 77 = .ok (.iload_n 2, 1) := by decide +kernel
theorem dX9_town_78 : decode cX9_town 78 = .ok (.iconst 0, 1) := by decide +kernel
theorem dX9_town_79 : decode cX9_town 79 = .ok (.bastore, 1) := by decide +kernel
theorem dX9_town_80 : decode cX9_town 80 = .ok (.iinc 2 1, 3) := by decide +kernel
theorem dX9_town_83 : decode cX9_town 83 = .ok (.goto (-15), 3) := by decide +kernel
theorem dX9_town_86 : decode cX9_town 86 = .ok (.iload_n 1, 1) := by decide +kernel
theorem dX9_town_87 : decode cX9_town 87 = .ok (.ireturn, 1) := by decide +kernel
theorem dX9_person_0 : decode cX9_person 0 = .ok (.aload_n 0, 1) := by decide +kernel
theorem dX9_person_1 : decode cX9_person 1 = .ok (.getfield 19, 3) := by decide +kernel
theorem dX9_person_4 : decode cX9_person 4 = .ok (.getfield 105, 3) := by decide +kernel
theorem dX9_person_7 : decode cX9_person 7 = .ok (.iload_n 1, 1) := by decide +kernel
theorem dX9_person_8 : decode cX9_person 8 = .ok (.invokevirtual 108, 3) := by decide +kernel
theorem dX9_person_11 : decode cX9_person 11 = .ok (.ifCond .ne 5, 3) := by decide +kernel
theorem dX9_person_14 : decode cX9_person 14 = .ok (.iconst (-1), 1) := by decide +kernel
theorem dX9_person_15 : decode cX9_person 15 = .ok (.ireturn, 1) := by decide +kernel
theorem dX9_person_16 : decode cX9_person 16 = .ok (.aload_n 0, 1) := by decide +kernel
theorem dX9_person_17 : decode cX9_person 17 = .ok (.getfield 19, 3) := by decide +kernel
theorem dX9_person_20 : decode cX9_person 20 = .ok (.getfield 113, 3) := by decide +kernel
theorem dX9_person_23 : decode cX9_person 23 = .ok (.astore_n 3, 1) := by decide +kernel
theorem dX9_person_24 : decode cX9_person 24 = .ok (.iload_n 2, 1) := by decide +kernel
theorem dX9_person_25 : decode cX9_person 25 = .ok (.tableswitch 110 0 5 #[39, 60, 67, 74, 81, 97], 39) := by decide +kernel
theorem dX9_person_64 : decode cX9_person 64 = .ok (.aload_n 3, 1) := by decide +kernel
theorem dX9_person_65 : decode cX9_person 65 = .ok (.getfield 117, 3) := by decide +kernel
theorem dX9_person_68 : decode cX9_person 68 = .ok (.iload_n 1, 1) := by decide +kernel
theorem dX9_person_69 : decode cX9_person 69 = .ok (.iaload, 1) := by decide +kernel
theorem dX9_person_70 : decode cX9_person 70 = .ok (.ifCond .le 8, 3) := by decide +kernel
theorem dX9_person_73 : decode cX9_person 73 = .ok (.bipush (-9), 2) := by decide +kernel
theorem dX9_person_75 : decode cX9_person 75 = .ok (.goto 9, 3) := by decide +kernel
theorem dX9_person_78 : decode cX9_person 78 = .ok (.aload_n 3, 1) := by decide +kernel
theorem dX9_person_79 : decode cX9_person 79 = .ok (.getfield 121, 3) := by decide +kernel
theorem dX9_person_82 : decode cX9_person 82 = .ok (.iload_n 1, 1) := by decide +kernel
theorem dX9_person_83 : decode cX9_person 83 = .ok (.iaload, 1) := by decide +kernel
theorem dX9_person_84 : decode cX9_person 84 = .ok (.ireturn, 1) := by decide +kernel
theorem dX9_person_85 : decode cX9_person 85 = .ok (.aload_n 3, 1) := by decide +kernel
theorem dX9_person_86 : decode cX9_person 86 = .ok (.getfield 121, 3) := by decide +kernel
theorem dX9_person_89 : decode cX9_person 89 = .ok (.iload_n 1, 1) := by decide +kernel
theorem dX9_person_90 : decode cX9_person 90 = .ok (.iaload, 1) := by decide +kernel
theorem dX9_person_91 : decode cX9_person 91 = .ok (.ireturn, 1) := by decide +kernel
theorem dX9_person_92 : decode cX9_person 92 = .ok (.aload_n 3, 1) := by decide +kernel
theorem dX9_person_93 : decode cX9_person 93 = .ok (.getfield 117, 3) := by decide +kernel
theorem dX9_person_96 : decode cX9_person 96 = .ok (.iload_n 1, 1) := by decide +kernel
theorem dX9_person_97 : decode cX9_person 97 = .ok (.iaload, 1) := by decide +kernel
theorem dX9_person_98 : decode cX9_person 98 = .ok (.ireturn, 1) := by decide +kernel
theorem dX9_person_99 : decode cX9_person 99 = .ok (.aload_n 3, 1) := by decide +kernel
theorem dX9_person_100 : decode cX9_person 100 = .ok (.getfield 124, 3) := by decide +kernel
theorem dX9_person_103 : decode cX9_person 103 = .ok (.iload_n 1, 1) := by decide +kernel
theorem dX9_person_104 : decode cX9_person 104 = .ok (.iaload, 1) := by decide +kernel
theorem dX9_person_105 : decode cX9_person 105 = .ok (.ireturn, 1) := by decide +kernel
theorem dX9_person_106 : decode cX9_person 106 = .ok (.aload_n 0, 1) := by decide +kernel
theorem dX9_person_107 : decode cX9_person 107 = .ok (.getfield 19, 3) := by decide +kernel
theorem dX9_person_110 : decode cX9_person 110 = .ok (.aload_n 3, 1) := by decide +kernel
theorem dX9_person_111 : decode cX9_person 111 = .ok (.getfield 127, 3) := by decide +kernel
theorem dX9_person_114 : decode cX9_person 114 = .ok (.invokevirtual 130, 3) := by decide +kernel
theorem dX9_person_117 : decode cX9_person 117 = .ok (.iload_n 1, 1) := by decide +kernel
theorem dX9_person_118 : decode cX9_person 118 = .ok (.invokestatic 134, 3) := by decide +kernel
theorem dX9_person_121 : decode cX9_person 121 = .ok (.ireturn, 1) := by decide +kernel
theorem dX9_person_122 : decode cX9_person 122 = .ok (.aload_n 0, 1) := by decide +kernel
theorem dX9_person_123 : decode cX9_person 123 = .ok (.getfield 19, 3) := by decide +kernel
theorem dX9_person_126 : decode cX9_person 126 = .ok (.getfield 105, 3) := by decide +kernel
theorem dX9_person_129 : decode cX9_person 129 = .ok (.getfield 138, 3) := by decide +kernel
theorem dX9_person_132 : decode cX9_person 132 = .ok (.iload_n 1, 1) := by decide +kernel
theorem dX9_person_133 : decode cX9_person 133 = .ok (.iaload, 1) := by decide +kernel
theorem dX9_person_134 : decode cX9_person 134 = .ok (.ireturn, 1) := by decide +kernel
theorem dX9_person_135 : decode cX9_person 135 = .ok (.iconst (-1), 1) := by decide +kernel
theorem dX9_person_136 : decode cX9_person 136 = .ok (.ireturn, 1) := by decide +kernel
theorem dX9_duty_0 : decode cX9_duty 0 = .ok (.aload_n 0, 1) := by decide +kernel
theorem dX9_duty_1 : decode cX9_duty 1 = .ok (.getfield 19, 3) := by decide +kernel
theorem dX9_duty_4 : decode cX9_duty 4 = .ok (.getfield 105, 3) := by decide +kernel
theorem dX9_duty_7 : decode cX9_duty 7 = .ok (.iload_n 1, 1) := by decide +kernel
theorem dX9_duty_8 : decode cX9_duty 8 = .ok (.invokevirtual 141, 3) := by decide +kernel
theorem dX9_duty_11 : decode cX9_duty 11 = .ok (.ifCond .ne 5, 3) := by decide +kernel
theorem dX9_duty_14 : decode cX9_duty 14 = .ok (.iconst (-1), 1) := by decide +kernel
theorem dX9_duty_15 : decode cX9_duty 15 = .ok (.ireturn, 1) := by decide +kernel
theorem dX9_duty_16 : decode cX9_duty 16 = .ok (.iload_n 2, 1) := by decide +kernel
theorem dX9_duty_17 : decode cX9_duty 17 = .ok (.tableswitch 102 0 4 #[35, 48, 61, 74, 87], 35) := by decide +kernel
theorem dX9_duty_52 : decode cX9_duty 52 = .ok (.aload_n 0, 1) := by decide +kernel
theorem dX9_duty_53 : decode cX9_duty 53 = .ok (.getfield 19, 3) := by decide +kernel
theorem dX9_duty_56 : decode cX9_duty 56 = .ok (.getfield 113, 3) := by decide +kernel
theorem dX9_duty_59 : decode cX9_duty 59 = .ok (.getfield 144, 3) := by decide +kernel
theorem dX9_duty_62 : decode cX9_duty 62 = .ok (.iload_n 1, 1) := by decide +kernel
theorem dX9_duty_63 : decode cX9_duty 63 = .ok (.iaload, 1) := by decide +kernel
theorem dX9_duty_64 : decode cX9_duty 64 = .ok (.ireturn, 1) := by decide +kernel
theorem dX9_duty_65 : decode cX9_duty 65 = .ok (.aload_n 0, 1) := by decide +kernel
theorem dX9_duty_66 : decode cX9_duty 66 = .ok (.getfield 19, 3) := by decide +kernel
theorem dX9_duty_69 : decode cX9_duty 69 = .ok (.getfield 105, 3) := by decide +kernel
theorem dX9_duty_72 : decode cX9_duty 72 = .ok (.getfield 147, 3) := by decide +kernel
theorem dX9_duty_75 : decode cX9_duty 75 = .ok (.iload_n 1, 1) := by decide +kernel
theorem dX9_duty_76 : decode cX9_duty 76 = .ok (.iaload, 1) := by decide +kernel
theorem dX9_duty_77 : decode cX9_duty 77 = .ok (.ireturn, 1) := by decide +kernel
theorem dX9_duty_78 : decode cX9_duty 78 = .ok (.aload_n 0, 1) := by decide +kernel
theorem dX9_duty_79 : decode cX9_duty 79 = .ok (.getfield 19, 3) := by decide +kernel
theorem dX9_duty_82 : decode cX9_duty 82 = .ok (.getfield 105, 3) := by decide +kernel
theorem dX9_duty_85 : decode cX9_duty 85 = .ok (.getfield 148, 3) := by decide +kernel
theorem dX9_duty_88 : decode cX9_duty 88 = .ok (.iload_n 1, 1) := by decide +kernel
theorem dX9_duty_89 : decode cX9_duty 89 = .ok (.iaload, 1) := by decide +kernel
theorem dX9_duty_90 : decode cX9_duty 90 = .ok (.ireturn, 1) := by decide +kernel
theorem dX9_duty_91 : decode cX9_duty 91 = .ok (.aload_n 0, 1) := by decide +kernel
theorem dX9_duty_92 : decode cX9_duty 92 = .ok (.getfield 19, 3) := by decide +kernel
theorem dX9_duty_95 : decode cX9_duty 95 = .ok (.getfield 105, 3) := by decide +kernel
theorem dX9_duty_98 : decode cX9_duty 98 = .ok (.getfield 151, 3) := by decide +kernel
theorem dX9_duty_101 : decode cX9_duty 101 = .ok (.iload_n 1, 1) := by decide +kernel
theorem dX9_duty_102 : decode cX9_duty 102 = .ok (.iaload, 1) := by decide +kernel
theorem dX9_duty_103 : decode cX9_duty 103 = .ok (.ireturn, 1) := by decide +kernel
theorem dX9_duty_104 : decode cX9_duty 104 = .ok (.aload_n 0, 1) := by decide +kernel
theorem dX9_duty_105 : decode cX9_duty 105 = .ok (.getfield 19, 3) := by decide +kernel
theorem dX9_duty_108 : decode cX9_duty 108 = .ok (.getfield 113, 3) := by decide +kernel
theorem dX9_duty_111 : decode cX9_duty 111 = .ok (.getfield 154, 3) := by decide +kernel
theorem dX9_duty_114 : decode cX9_duty 114 = .ok (.iload_n 1, 1) := by decide +kernel
theorem dX9_duty_115 : decode cX9_duty 115 = .ok (.invokestatic 134, 3) := by decide +kernel
theorem dX9_duty_118 : decode cX9_duty 118 = .ok (.ireturn, 1) := by decide +kernel
theorem dX9_duty_119 : decode cX9_duty 119 = .ok (.iconst (-1), 1) := by decide +kernel
theorem dX9_duty_120 : decode cX9_duty 120 = .ok (.ireturn, 1) := by decide +kernel
theorem dX9_now_0 : decode cX9_now 0 = .ok (.iload_n 1, 1) := by decide +kernel
theorem dX9_now_1 : decode cX9_now 1 = .ok (.tableswitch 93 0 5 #[39, 50, 61, 69, 77, 85], 39) := by decide +kernel
theorem dX9_now_40 : decode cX9_now 40 = .ok (.aload_n 0, 1) := by decide +kernel
theorem dX9_now_41 : decode cX9_now 41 = .ok (.getfield 19, 3) := by decide +kernel
theorem dX9_now_44 : decode cX9_now 44 = .ok (.getfield 113, 3) := by decide +kernel
theorem dX9_now_47 : decode cX9_now 47 = .ok (.getfield 127, 3) := by decide +kernel
theorem dX9_now_50 : decode cX9_now 50 = .ok (.ireturn, 1) := by decide +kernel
theorem dX9_now_51 : decode cX9_now 51 = .ok (.aload_n 0, 1) := by decide +kernel
theorem dX9_now_52 : decode cX9_now 52 = .ok (.getfield 19, 3) := by decide +kernel
theorem dX9_now_55 : decode cX9_now 55 = .ok (.getfield 113, 3) := by decide +kernel
theorem dX9_now_58 : decode cX9_now 58 = .ok (.getfield 154, 3) := by decide +kernel
theorem dX9_now_61 : decode cX9_now 61 = .ok (.ireturn, 1) := by decide +kernel
theorem dX9_now_62 : decode cX9_now 62 = .ok (.aload_n 0, 1) := by decide +kernel
theorem dX9_now_63 : decode cX9_now 63 = .ok (.getfield 19, 3) := by decide +kernel
theorem dX9_now_66 : decode cX9_now 66 = .ok (.invokevirtual 157, 3) := by decide +kernel
theorem dX9_now_69 : decode cX9_now 69 = .ok (.ireturn, 1) := by decide +kernel
theorem dX9_now_70 : decode cX9_now 70 = .ok (.aload_n 0, 1) := by decide +kernel
theorem dX9_now_71 : decode cX9_now 71 = .ok (.getfield 19, 3) := by decide +kernel
theorem dX9_now_74 : decode cX9_now 74 = .ok (.invokevirtual 160, 3) := by decide +kernel
theorem dX9_now_77 : decode cX9_now 77 = .ok (.ireturn, 1) := by decide +kernel
theorem dX9_now_78 : decode cX9_now 78 = .ok (.aload_n 0, 1) := by decide +kernel
theorem dX9_now_79 : decode cX9_now 79 = .ok (.getfield 19, 3) := by decide +kernel
theorem dX9_now_82 : decode cX9_now 82 = .ok (.invokevirtual 163, 3) := by decide +kernel
theorem dX9_now_85 : decode cX9_now 85 = .ok (.ireturn, 1) := by decide +kernel
theorem dX9_now_86 : decode cX9_now 86 = .ok (.aload_n 0, 1) := by decide +kernel
theorem dX9_now_87 : decode cX9_now 87 = .ok (.getfield 26, 3) := by decide +kernel
theorem dX9_now_90 : decode cX9_now 90 = .ok (.getfield 166, 3) := by decide +kernel
theorem dX9_now_93 : decode cX9_now 93 = .ok (.ireturn, 1) := by decide +kernel
theorem dX9_now_94 : decode cX9_now 94 = .ok (.iconst (-1), 1) := by decide +kernel
theorem dX9_now_95 : decode cX9_now 95 = .ok (.ireturn, 1) := by decide +kernel
theorem dX9_goes_0 : decode cX9_goes 0 = .ok (.aload_n 0, 1) := by decide +kernel
theorem dX9_goes_1 : decode cX9_goes 1 = .ok (.getfield 19, 3) := by decide +kernel
theorem dX9_goes_4 : decode cX9_goes 4 = .ok (.getfield 105, 3) := by decide +kernel
theorem dX9_goes_7 : decode cX9_goes 7 = .ok (.iload_n 1, 1) := by decide +kernel
theorem dX9_goes_8 : decode cX9_goes 8 = .ok (.invokevirtual 108, 3) := by decide +kernel
theorem dX9_goes_11 : decode cX9_goes 11 = .ok (.ifCond .eq 17, 3) := by decide +kernel
theorem dX9_goes_14 : decode cX9_goes 14 = .ok (.aload_n 0, 1) := by decide +kernel
theorem dX9_goes_15 : decode cX9_goes 15 = .ok (.getfield 19, 3) := by decide +kernel
theorem dX9_goes_18 : decode cX9_goes 18 = .ok (.getfield 105, 3) := by decide +kernel
theorem dX9_goes_21 : decode cX9_goes 21 = .ok (.iload_n 2, 1) := by decide +kernel
theorem dX9_goes_22 : decode cX9_goes 22 = .ok (.invokevirtual 169, 3) := by decide +kernel
theorem dX9_goes_25 : decode cX9_goes 25 = .ok (.ifCond .ne 5, 3) := by decide +kernel
theorem dX9_goes_28 : decode cX9_goes 28 = .ok (.iconst (-1), 1) := by decide +kernel
theorem dX9_goes_29 : decode cX9_goes 29 = .ok (.ireturn, 1) := by decide +kernel
theorem dX9_goes_30 : decode cX9_goes 30 = .ok (.aload_n 0, 1) := by decide +kernel
theorem dX9_goes_31 : decode cX9_goes 31 = .ok (.getfield 19, 3) := by decide +kernel
theorem dX9_goes_34 : decode cX9_goes 34 = .ok (.getfield 113, 3) := by decide +kernel
theorem dX9_goes_37 : decode cX9_goes 37 = .ok (.astore_n 3, 1) := by decide +kernel
theorem dX9_goes_38 : decode cX9_goes 38 = .ok (.aload_n 3, 1) := by decide +kernel
theorem dX9_goes_39 : decode cX9_goes 39 = .ok (.getfield 117, 3) := by decide +kernel
theorem dX9_goes_42 : decode cX9_goes 42 = .ok (.iload_n 1, 1) := by decide +kernel
theorem dX9_goes_43 : decode cX9_goes 43 = .ok (.iaload, 1) := by decide +kernel
theorem dX9_goes_44 : decode cX9_goes 44 = .ok (.ifCond .gt 13, 3) := by decide +kernel
theorem dX9_goes_47 : decode cX9_goes 47 = .ok (.aload_n 3, 1) := by decide +kernel
theorem dX9_goes_48 : decode cX9_goes 48 = .ok (.getfield 121, 3) := by decide +kernel
theorem dX9_goes_51 : decode cX9_goes 51 = .ok (.iload_n 1, 1) := by decide +kernel
theorem dX9_goes_52 : decode cX9_goes 52 = .ok (.iaload, 1) := by decide +kernel
theorem dX9_goes_53 : decode cX9_goes 53 = .ok (.iload_n 2, 1) := by decide +kernel
theorem dX9_goes_54 : decode cX9_goes 54 = .ok (.if_icmp .ne 6, 3) := by decide +kernel
theorem dX9_goes_57 : decode cX9_goes 57 = .ok (.bipush (-2), 2) := by decide +kernel
theorem dX9_goes_59 : decode cX9_goes 59 = .ok (.ireturn, 1) := by decide +kernel
theorem dX9_goes_60 : decode cX9_goes 60 = .ok (.aload_n 0, 1) := by decide +kernel
theorem dX9_goes_61 : decode cX9_goes 61 = .ok (.getfield 26, 3) := by decide +kernel
theorem dX9_goes_64 : decode cX9_goes 64 = .ok (.aload_n 3, 1) := by decide +kernel
theorem dX9_goes_65 : decode cX9_goes 65 = .ok (.invokevirtual 172, 3) := by decide +kernel
theorem dX9_goes_68 : decode cX9_goes 68 = .ok (.aload_n 3, 1) := by decide +kernel
theorem dX9_goes_69 : decode cX9_goes 69 = .ok (.getfield 117, 3) := by decide +kernel
theorem dX9_goes_72 : decode cX9_goes 72 = .ok (.iload_n 1, 1) := by decide +kernel
theorem dX9_goes_73 : decode cX9_goes 73 = .ok (.aload_n 0, 1) := by decide +kernel
theorem dX9_goes_74 : decode cX9_goes 74 = .ok (.getfield 19, 3) := by decide +kernel
theorem dX9_goes_77 : decode cX9_goes 77 = .ok (.getfield 105, 3) := by decide +kernel
theorem dX9_goes_80 : decode cX9_goes 80 = .ok (.aload_n 3, 1) := by decide +kernel
theorem dX9_goes_81 : decode cX9_goes 81 = .ok (.getfield 121, 3) := by decide +kernel
theorem dX9_goes_84 : decode cX9_goes 84 = .ok (.iload_n 1, 1) := by decide +kernel
theorem dX9_goes_85 : decode cX9_goes 85 = .ok (.iaload, 1) := by decide +kernel
theorem dX9_goes_86 : decode cX9_goes 86 = .ok (.iload_n 2, 1) := by decide +kernel
theorem dX9_goes_87 : decode cX9_goes 87 = .ok (.invokevirtual 176, 3) := by decide +kernel
theorem dX9_goes_90 : decode cX9_goes 90 = .ok (.iastore, 1) := by decide +kernel
theorem dX9_goes_91 : decode cX9_goes 91 = .ok (.aload_n 3, 1) := by decide +kernel
theorem dX9_goes_92 : decode cX9_goes 92 = .ok (.getfield 121, 3) := by decide +kernel
theorem dX9_goes_95 : decode cX9_goes 95 = .ok (.iload_n 1, 1) := by decide +kernel
theorem dX9_goes_96 : decode cX9_goes 96 = .ok (.iload_n 2, 1) := by decide +kernel
theorem dX9_goes_97 : decode cX9_goes 97 = .ok (.iastore, 1) := by decide +kernel
theorem dX9_goes_98 : decode cX9_goes 98 = .ok (.aload_n 3, 1) := by decide +kernel
theorem dX9_goes_99 : decode cX9_goes 99 = .ok (.getfield 117, 3) := by decide +kernel
theorem dX9_goes_102 : decode cX9_goes 102 = .ok (.iload_n 1, 1) := by decide +kernel
theorem dX9_goes_103 : decode cX9_goes 103 = .ok (.iaload, 1) := by decide +kernel
theorem dX9_goes_104 : decode cX9_goes 104 = .ok (.ireturn, 1) := by decide +kernel
theorem dX9_passes_0 : decode cX9_passes 0 = .ok (.iload_n 1, 1) := by decide +kernel
theorem dX9_passes_1 : decode cX9_passes 1 = .ok (.iconst 1, 1) := by decide +kernel
theorem dX9_passes_2 : decode cX9_passes 2 = .ok (.if_icmp .lt 10, 3) := by decide +kernel
theorem dX9_passes_5 : decode cX9_passes 5 = .ok (.iload_n 1, 1) := by decide +kernel
theorem dX9_passes_6 : decode cX9_passes 6 = .ok (.sipush 240, 3) := by decide +kernel
theorem dX9_passes_9 : decode cX9_passes 9 = .ok (.if_icmp .le 5, 3) := by decide +kernel
theorem dX9_passes_12 : decode cX9_passes 12 = .ok (.iconst (-1), 1) := by decide +kernel
theorem dX9_passes_13 : decode cX9_passes 13 = .ok (.ireturn, 1) := by decide +kernel
theorem dX9_passes_14 : decode cX9_passes 14 = .ok (.aload_n 0, 1) := by decide +kernel
theorem dX9_passes_15 : decode cX9_passes 15 = .ok (.getfield 19, 3) := by decide +kernel
theorem dX9_passes_18 : decode cX9_passes 18 = .ok (.getfield 113, 3) := by decide +kernel
theorem dX9_passes_21 : decode cX9_passes 21 = .ok (.getfield 127, 3) := by decide +kernel
theorem dX9_passes_24 : decode cX9_passes 24 = .ok (.iload_n 1, 1) := by decide +kernel
theorem dX9_passes_25 : decode cX9_passes 25 = .ok (.iadd, 1) := by decide +kernel
theorem dX9_passes_26 : decode cX9_passes 26 = .ok (.sipush 240, 3) := by decide +kernel
theorem dX9_passes_29 : decode cX9_passes 29 = .ok (.if_icmp .le 6, 3) := by decide +kernel
theorem dX9_passes_32 : decode cX9_passes 32 = .ok (.bipush (-2), 2) := by decide +kernel
theorem dX9_passes_34 : decode cX9_passes 34 = .ok (.ireturn, 1) := by decide +kernel
theorem dX9_passes_35 : decode cX9_passes 35 = .ok (.aload_n 0, 1) := by decide +kernel
theorem dX9_passes_36 : decode cX9_passes 36 = .ok (.getfield 26, 3) := by decide +kernel
theorem dX9_passes_39 : decode cX9_passes 39 = .ok (.aload_n 0, 1) := by decide +kernel
theorem dX9_passes_40 : decode cX9_passes 40 = .ok (.getfield 19, 3) := by decide +kernel
theorem dX9_passes_43 : decode cX9_passes 43 = .ok (.getfield 113, 3) := by decide +kernel
theorem dX9_passes_46 : decode cX9_passes 46 = .ok (.invokevirtual 172, 3) := by decide +kernel
theorem dX9_passes_49 : decode cX9_passes 49 = .ok (.iconst 0, 1) := by decide +kernel
theorem dX9_passes_50 : decode cX9_passes 50 = .ok (.istore_n 2, 1) := by decide +kernel
theorem dX9_passes_51 : decode cX9_passes 51 = .ok (.iconst 0, 1) := by decide +kernel
theorem dX9_passes_52 : decode cX9_passes 52 = .ok (.istore_n 3, 1) := by decide +kernel
theorem dX9_passes_53 : decode cX9_passes 53 = .ok (.iload_n 3, 1) := by decide +kernel
theorem dX9_passes_54 : decode cX9_passes 54 = .ok (.iload_n 1, 1) := by decide +kernel
theorem dX9_passes_55 : decode cX9_passes 55 = .ok (.if_icmp .ge 19, 3) := by decide +kernel
theorem dX9_passes_58 : decode cX9_passes 58 = .ok (.iload_n 2, 1) := by decide +kernel
theorem dX9_passes_59 : decode cX9_passes 59 = .ok (.aload_n 0, 1) := by decide +kernel
theorem dX9_passes_60 : decode cX9_passes 60 = .ok (.getfield 19, 3) := by decide +kernel
theorem dX9_passes_63 : decode cX9_passes 63 = .ok (.invokevirtual 179, 3) := by decide +kernel
theorem dX9_passes_66 : decode cX9_passes 66 = .ok (.iadd, 1) := by decide +kernel
theorem dX9_passes_67 : decode cX9_passes 67 = .ok (.istore_n 2, 1) := by decide +kernel
theorem dX9_passes_68 : decode cX9_passes 68 = .ok (.iinc 3 1, 3) := by decide +kernel
theorem dX9_passes_71 : decode cX9_passes 71 = .ok (.goto (-18), 3) := by decide +kernel
theorem dX9_passes_74 : decode cX9_passes 74 = .ok (.iload_n 2, 1) := by decide +kernel
theorem dX9_passes_75 : decode cX9_passes 75 = .ok (.ireturn, 1) := by decide +kernel
theorem dX9_excuses_0 : decode cX9_excuses 0 = .ok (.aload_n 0, 1) := by decide +kernel
theorem dX9_excuses_1 : decode cX9_excuses 1 = .ok (.getfield 19, 3) := by decide +kernel
theorem dX9_excuses_4 : decode cX9_excuses 4 = .ok (.getfield 105, 3) := by decide +kernel
theorem dX9_excuses_7 : decode cX9_excuses 7 = .ok (.iload_n 1, 1) := by decide +kernel
theorem dX9_excuses_8 : decode cX9_excuses 8 = .ok (.invokevirtual 141, 3) := by decide +kernel
theorem dX9_excuses_11 : decode cX9_excuses 11 = .ok (.ifCond .eq 10, 3) := by decide +kernel
theorem dX9_excuses_14 : decode cX9_excuses 14 = .ok (.iload_n 2, 1) := by decide +kernel
theorem dX9_excuses_15 : decode cX9_excuses 15 = .ok (.invokestatic 182, 3) := by decide +kernel
theorem dX9_excuses_18 : decode cX9_excuses 18 = .ok (.ifCond .ne 5, 3) := by decide +kernel
theorem dX9_excuses_21 : decode cX9_excuses 21 = .ok (.iconst (-1), 1) := by decide +kernel
theorem dX9_excuses_22 : decode cX9_excuses 22 = .ok (.ireturn, 1) := by decide +kernel
theorem dX9_excuses_23 : decode cX9_excuses 23 = .ok (.aload_n 0, 1) := by decide +kernel
theorem dX9_excuses_24 : decode cX9_excuses 24 = .ok (.getfield 19, 3) := by decide +kernel
theorem dX9_excuses_27 : decode cX9_excuses 27 = .ok (.getfield 113, 3) := by decide +kernel
theorem dX9_excuses_30 : decode cX9_excuses 30 = .ok (.astore_n 3, 1) := by decide +kernel
theorem dX9_excuses_31 : decode cX9_excuses 31 = .ok (.aload_n 3, 1) := by decide +kernel
theorem dX9_excuses_32 : decode cX9_excuses 32 = .ok (.getfield 154, 3) := by decide +kernel
theorem dX9_excuses_35 : decode cX9_excuses 35 = .ok (.iload_n 1, 1) := by decide +kernel
theorem dX9_excuses_36 : decode cX9_excuses 36 = .ok (.invokestatic 134, 3) := by decide +kernel
theorem dX9_excuses_39 : decode cX9_excuses 39 = .ok (.iload_n 2, 1) := by decide +kernel
theorem dX9_excuses_40 : decode cX9_excuses 40 = .ok (.if_icmp .ne 6, 3) := by decide +kernel
theorem dX9_excuses_43 : decode cX9_excuses 43 = .ok (.bipush (-2), 2) := by decide +kernel
theorem dX9_excuses_45 : decode cX9_excuses 45 = .ok (.ireturn, 1) := by decide +kernel
theorem dX9_excuses_46 : decode cX9_excuses 46 = .ok (.aload_n 0, 1) := by decide +kernel
theorem dX9_excuses_47 : decode cX9_excuses 47 = .ok (.getfield 26, 3) := by decide +kernel
theorem dX9_excuses_50 : decode cX9_excuses 50 = .ok (.aload_n 3, 1) := by decide +kernel
theorem dX9_excuses_51 : decode cX9_excuses 51 = .ok (.invokevirtual 172, 3) := by decide +kernel
theorem dX9_excuses_54 : decode cX9_excuses 54 = .ok (.aload_n 3, 1) := by decide +kernel
theorem dX9_excuses_55 : decode cX9_excuses 55 = .ok (.dup, 1) := by decide +kernel
theorem dX9_excuses_56 : decode cX9_excuses 56 = .ok (.getfield 154, 3) := by decide +kernel
theorem dX9_excuses_59 : decode cX9_excuses 59 = .ok (.iconst 1, 1) := by decide +kernel
theorem dX9_excuses_60 : decode cX9_excuses 60 = .ok (.iload_n 1, 1) := by decide +kernel
theorem dX9_excuses_61 : decode cX9_excuses 61 = .ok (.ishl, 1) := by decide +kernel
theorem dX9_excuses_62 : decode cX9_excuses 62 = .ok (.ixor, 1) := by decide +kernel
theorem dX9_excuses_63 : decode cX9_excuses 63 = .ok (.putfield 154, 3) := by decide +kernel
theorem dX9_excuses_66 : decode cX9_excuses 66 = .ok (.aload_n 3, 1) := by decide +kernel
theorem dX9_excuses_67 : decode cX9_excuses 67 = .ok (.getfield 154, 3) := by decide +kernel
theorem dX9_excuses_70 : decode cX9_excuses 70 = .ok (.invokestatic 185, 3) := by decide +kernel
theorem dX9_excuses_73 : decode cX9_excuses 73 = .ok (.ireturn, 1) := by decide +kernel
theorem dX9_swaps_0 : decode cX9_swaps 0 = .ok (.aload_n 0, 1) := by decide +kernel
theorem dX9_swaps_1 : decode cX9_swaps 1 = .ok (.getfield 19, 3) := by decide +kernel
theorem dX9_swaps_4 : decode cX9_swaps 4 = .ok (.getfield 105, 3) := by decide +kernel
theorem dX9_swaps_7 : decode cX9_swaps 7 = .ok (.iload_n 1, 1) := by decide +kernel
theorem dX9_swaps_8 : decode cX9_swaps 8 = .ok (.invokevirtual 141, 3) := by decide +kernel
theorem dX9_swaps_11 : decode cX9_swaps 11 = .ok (.ifCond .eq 17, 3) := by decide +kernel
theorem dX9_swaps_14 : decode cX9_swaps 14 = .ok (.aload_n 0, 1) := by decide +kernel
theorem dX9_swaps_15 : decode cX9_swaps 15 = .ok (.getfield 19, 3) := by decide +kernel
theorem dX9_swaps_18 : decode cX9_swaps 18 = .ok (.getfield 105, 3) := by decide +kernel
theorem dX9_swaps_21 : decode cX9_swaps 21 = .ok (.iload_n 2, 1) := by decide +kernel
theorem dX9_swaps_22 : decode cX9_swaps 22 = .ok (.invokevirtual 141, 3) := by decide +kernel
theorem dX9_swaps_25 : decode cX9_swaps 25 = .ok (.ifCond .ne 5, 3) := by decide +kernel
theorem dX9_swaps_28 : decode cX9_swaps 28 = .ok (.iconst (-1), 1) := by decide +kernel
theorem dX9_swaps_29 : decode cX9_swaps 29 = .ok (.ireturn, 1) := by decide +kernel
theorem dX9_swaps_30 : decode cX9_swaps 30 = .ok (.aload_n 0, 1) := by decide +kernel
theorem dX9_swaps_31 : decode cX9_swaps 31 = .ok (.getfield 19, 3) := by decide +kernel
theorem dX9_swaps_34 : decode cX9_swaps 34 = .ok (.getfield 113, 3) := by decide +kernel
theorem dX9_swaps_37 : decode cX9_swaps 37 = .ok (.getfield 144, 3) := by decide +kernel
theorem dX9_swaps_40 : decode cX9_swaps 40 = .ok (.astore_n 3, 1) := by decide +kernel
theorem dX9_swaps_41 : decode cX9_swaps 41 = .ok (.aload_n 3, 1) := by decide +kernel
theorem dX9_swaps_42 : decode cX9_swaps 42 = .ok (.iload_n 1, 1) := by decide +kernel
theorem dX9_swaps_43 : decode cX9_swaps 43 = .ok (.iaload, 1) := by decide +kernel
theorem dX9_swaps_44 : decode cX9_swaps 44 = .ok (.aload_n 3, 1) := by decide +kernel
theorem dX9_swaps_45 : decode cX9_swaps 45 = .ok (.iload_n 2, 1) := by decide +kernel
theorem dX9_swaps_46 : decode cX9_swaps 46 = .ok (.iaload, 1) := by decide +kernel
theorem dX9_swaps_47 : decode cX9_swaps 47 = .ok (.if_icmp .ne 6, 3) := by decide +kernel
theorem dX9_swaps_50 : decode cX9_swaps 50 = .ok (.bipush (-2), 2) := by decide +kernel
theorem dX9_swaps_52 : decode cX9_swaps 52 = .ok (.ireturn, 1) := by decide +kernel
theorem dX9_swaps_53 : decode cX9_swaps 53 = .ok (.aload_n 0, 1) := by decide +kernel
theorem dX9_swaps_54 : decode cX9_swaps 54 = .ok (.getfield 26, 3) := by decide +kernel
theorem dX9_swaps_57 : decode cX9_swaps 57 = .ok (.aload_n 0, 1) := by decide +kernel
theorem dX9_swaps_58 : decode cX9_swaps 58 = .ok (.getfield 19, 3) := by decide +kernel
theorem dX9_swaps_61 : decode cX9_swaps 61 = .ok (.getfield 113, 3) := by decide +kernel
theorem dX9_swaps_64 : decode cX9_swaps 64 = .ok (.invokevirtual 172, 3) := by decide +kernel
theorem dX9_swaps_67 : decode cX9_swaps 67 = .ok (.aload_n 3, 1) := by decide +kernel
theorem dX9_swaps_68 : decode cX9_swaps 68 = .ok (.iload_n 1, 1) := by decide +kernel
theorem dX9_swaps_69 : decode cX9_swaps 69 = .ok (.iaload, 1) := by decide +kernel
theorem dX9_swaps_70 : decode cX9_swaps 70 = .ok (.istore 4, 2) := by decide +kernel
theorem dX9_swaps_72 : decode cX9_swaps 72 = .ok (.aload_n 3, 1) := by decide +kernel
theorem dX9_swaps_73 : decode cX9_swaps 73 = .ok (.iload_n 1, 1) := by decide +kernel
theorem dX9_swaps_74 : decode cX9_swaps 74 = .ok (.aload_n 3, 1) := by decide +kernel
theorem dX9_swaps_75 : decode cX9_swaps 75 = .ok (.iload_n 2, 1) := by decide +kernel
theorem dX9_swaps_76 : decode cX9_swaps 76 = .ok (.iaload, 1) := by decide +kernel
theorem dX9_swaps_77 : decode cX9_swaps 77 = .ok (.iastore, 1) := by decide +kernel
theorem dX9_swaps_78 : decode cX9_swaps 78 = .ok (.aload_n 3, 1) := by decide +kernel
theorem dX9_swaps_79 : decode cX9_swaps 79 = .ok (.iload_n 2, 1) := by decide +kernel
theorem dX9_swaps_80 : decode cX9_swaps 80 = .ok (.iload 4, 2) := by decide +kernel
theorem dX9_swaps_82 : decode cX9_swaps 82 = .ok (.iastore, 1) := by decide +kernel
theorem dX9_swaps_83 : decode cX9_swaps 83 = .ok (.aload_n 3, 1) := by decide +kernel
theorem dX9_swaps_84 : decode cX9_swaps 84 = .ok (.iload_n 1, 1) := by decide +kernel
theorem dX9_swaps_85 : decode cX9_swaps 85 = .ok (.iaload, 1) := by decide +kernel
theorem dX9_swaps_86 : decode cX9_swaps 86 = .ok (.ireturn, 1) := by decide +kernel
theorem dX9_undo_0 : decode cX9_undo 0 = .ok (.aload_n 0, 1) := by decide +kernel
theorem dX9_undo_1 : decode cX9_undo 1 = .ok (.getfield 26, 3) := by decide +kernel
theorem dX9_undo_4 : decode cX9_undo 4 = .ok (.getfield 166, 3) := by decide +kernel
theorem dX9_undo_7 : decode cX9_undo 7 = .ok (.ifCond .ne 6, 3) := by decide +kernel
theorem dX9_undo_10 : decode cX9_undo 10 = .ok (.bipush (-2), 2) := by decide +kernel
theorem dX9_undo_12 : decode cX9_undo 12 = .ok (.ireturn, 1) := by decide +kernel
theorem dX9_undo_13 : decode cX9_undo 13 = .ok (.aload_n 0, 1) := by decide +kernel
theorem dX9_undo_14 : decode cX9_undo 14 = .ok (.getfield 26, 3) := by decide +kernel
theorem dX9_undo_17 : decode cX9_undo 17 = .ok (.aload_n 0, 1) := by decide +kernel
theorem dX9_undo_18 : decode cX9_undo 18 = .ok (.getfield 19, 3) := by decide +kernel
theorem dX9_undo_21 : decode cX9_undo 21 = .ok (.getfield 113, 3) := by decide +kernel
theorem dX9_undo_24 : decode cX9_undo 24 = .ok (.invokevirtual 190, 3) := by decide +kernel
theorem dX9_undo_27 : decode cX9_undo 27 = .ok (.aload_n 0, 1) := by decide +kernel
theorem dX9_undo_28 : decode cX9_undo 28 = .ok (.getfield 26, 3) := by decide +kernel
theorem dX9_undo_31 : decode cX9_undo 31 = .ok (.getfield 166, 3) := by decide +kernel
theorem dX9_undo_34 : decode cX9_undo 34 = .ok (.ireturn, 1) := by decide +kernel
theorem dX9_rings_0 : decode cX9_rings 0 = .ok (.iload_n 1, 1) := by decide +kernel
theorem dX9_rings_1 : decode cX9_rings 1 = .ok (.aload_n 0, 1) := by decide +kernel
theorem dX9_rings_2 : decode cX9_rings 2 = .ok (.getfield 19, 3) := by decide +kernel
theorem dX9_rings_5 : decode cX9_rings 5 = .ok (.getfield 113, 3) := by decide +kernel
theorem dX9_rings_8 : decode cX9_rings 8 = .ok (.getfield 127, 3) := by decide +kernel
theorem dX9_rings_11 : decode cX9_rings 11 = .ok (.if_icmp .lt 10, 3) := by decide +kernel
theorem dX9_rings_14 : decode cX9_rings 14 = .ok (.iload_n 1, 1) := by decide +kernel
theorem dX9_rings_15 : decode cX9_rings 15 = .ok (.sipush 240, 3) := by decide +kernel
theorem dX9_rings_18 : decode cX9_rings 18 = .ok (.if_icmp .lt 5, 3) := by decide +kernel
theorem dX9_rings_21 : decode cX9_rings 21 = .ok (.iconst (-1), 1) := by decide +kernel
theorem dX9_rings_22 : decode cX9_rings 22 = .ok (.ireturn, 1) := by decide +kernel
theorem dX9_rings_23 : decode cX9_rings 23 = .ok (.aload_n 0, 1) := by decide +kernel
theorem dX9_rings_24 : decode cX9_rings 24 = .ok (.getfield 19, 3) := by decide +kernel
theorem dX9_rings_27 : decode cX9_rings 27 = .ok (.iload_n 1, 1) := by decide +kernel
theorem dX9_rings_28 : decode cX9_rings 28 = .ok (.invokevirtual 130, 3) := by decide +kernel
theorem dX9_rings_31 : decode cX9_rings 31 = .ok (.ireturn, 1) := by decide +kernel
theorem dX9_chord_0 : decode cX9_chord 0 = .ok (.aload_n 0, 1) := by decide +kernel
theorem dX9_chord_1 : decode cX9_chord 1 = .ok (.getfield 19, 3) := by decide +kernel
theorem dX9_chord_4 : decode cX9_chord 4 = .ok (.getfield 105, 3) := by decide +kernel
theorem dX9_chord_7 : decode cX9_chord 7 = .ok (.iload_n 1, 1) := by decide +kernel
theorem dX9_chord_8 : decode cX9_chord 8 = .ok (.invokevirtual 193, 3) := by decide +kernel
theorem dX9_chord_11 : decode cX9_chord 11 = .ok (.ifCond .eq 10, 3) := by decide +kernel
theorem dX9_chord_14 : decode cX9_chord 14 = .ok (.iload_n 2, 1) := by decide +kernel
theorem dX9_chord_15 : decode cX9_chord 15 = .ok (.invokestatic 182, 3) := by decide +kernel
theorem dX9_chord_18 : decode cX9_chord 18 = .ok (.ifCond .ne 5, 3) := by decide +kernel
theorem dX9_chord_21 : decode cX9_chord 21 = .ok (.iconst (-1), 1) := by decide +kernel
theorem dX9_chord_22 : decode cX9_chord 22 = .ok (.ireturn, 1) := by decide +kernel
theorem dX9_chord_23 : decode cX9_chord 23 = .ok (.iload_n 2, 1) := by decide +kernel
theorem dX9_chord_24 : decode cX9_chord 24 = .ok (.ifCond .ne 14, 3) := by decide +kernel
theorem dX9_chord_27 : decode cX9_chord 27 = .ok (.aload_n 0, 1) := by decide +kernel
theorem dX9_chord_28 : decode cX9_chord 28 = .ok (.getfield 19, 3) := by decide +kernel
theorem dX9_chord_31 : decode cX9_chord 31 = .ok (.iload_n 1, 1) := by decide +kernel
theorem dX9_chord_32 : decode cX9_chord 32 = .ok (.invokevirtual 196, 3) := by decide +kernel
theorem dX9_chord_35 : decode cX9_chord 35 = .ok (.goto 11, 3) := by decide +kernel
theorem dX9_chord_38 : decode cX9_chord 38 = .ok (.aload_n 0, 1) := by decide +kernel
theorem dX9_chord_39 : decode cX9_chord 39 = .ok (.getfield 19, 3) := by decide +kernel
theorem dX9_chord_42 : decode cX9_chord 42 = .ok (.iload_n 1, 1) := by decide +kernel
theorem dX9_chord_43 : decode cX9_chord 43 = .ok (.invokevirtual 199, 3) := by decide +kernel
theorem dX9_chord_46 : decode cX9_chord 46 = .ok (.ireturn, 1) := by decide +kernel
theorem dX9_silence_0 : decode cX9_silence 0 = .ok (.iload_n 1, 1) := by decide +kernel
theorem dX9_silence_1 : decode cX9_silence 1 = .ok (.ifCond .eq 17, 3) := by decide +kernel
theorem dX9_silence_4 : decode cX9_silence 4 = .ok (.aload_n 0, 1) := by decide +kernel
theorem dX9_silence_5 : decode cX9_silence 5 = .ok (.getfield 19, 3) := by decide +kernel
theorem dX9_silence_8 : decode cX9_silence 8 = .ok (.getfield 105, 3) := by decide +kernel
theorem dX9_silence_11 : decode cX9_silence 11 = .ok (.iload_n 1, 1) := by decide +kernel
theorem dX9_silence_12 : decode cX9_silence 12 = .ok (.invokevirtual 193, 3) := by decide +kernel
theorem dX9_silence_15 : decode cX9_silence 15 = .ok (.ifCond .ne 5, 3) := by decide +kernel
theorem dX9_silence_18 : decode cX9_silence 18 = .ok (.iconst (-1), 1) := by decide +kernel
theorem dX9_silence_19 : decode cX9_silence 19 = .ok (.ireturn, 1) := by decide +kernel
theorem dX9_silence_20 : decode cX9_silence 20 = .ok (.aload_n 0, 1) := by decide +kernel
theorem dX9_silence_21 : decode cX9_silence 21 = .ok (.getfield 47, 3) := by decide +kernel
theorem dX9_silence_24 : decode cX9_silence 24 = .ok (.aload_n 0, 1) := by decide +kernel
theorem dX9_silence_25 : decode cX9_silence 25 = .ok (.getfield 19, 3) := by decide +kernel
theorem dX9_silence_28 : decode cX9_silence 28 = .ok (.iload_n 1, 1) := by decide +kernel
theorem dX9_silence_29 : decode cX9_silence 29 = .ok (.invokevirtual 202, 3) := by decide +kernel
theorem dX9_silence_32 : decode cX9_silence 32 = .ok (.ireturn, 1) := by decide +kernel
theorem dX9_least_0 : decode cX9_least 0 = .ok (.aload_n 0, 1) := by decide +kernel
theorem dX9_least_1 : decode cX9_least 1 = .ok (.getfield 19, 3) := by decide +kernel
theorem dX9_least_4 : decode cX9_least 4 = .ok (.getfield 105, 3) := by decide +kernel
theorem dX9_least_7 : decode cX9_least 7 = .ok (.iload_n 1, 1) := by decide +kernel
theorem dX9_least_8 : decode cX9_least 8 = .ok (.invokevirtual 108, 3) := by decide +kernel
theorem dX9_least_11 : decode cX9_least 11 = .ok (.ifCond .eq 10, 3) := by decide +kernel
theorem dX9_least_14 : decode cX9_least 14 = .ok (.iload_n 2, 1) := by decide +kernel
theorem dX9_least_15 : decode cX9_least 15 = .ok (.invokestatic 182, 3) := by decide +kernel
theorem dX9_least_18 : decode cX9_least 18 = .ok (.ifCond .ne 5, 3) := by decide +kernel
theorem dX9_least_21 : decode cX9_least 21 = .ok (.iconst (-1), 1) := by decide +kernel
theorem dX9_least_22 : decode cX9_least 22 = .ok (.ireturn, 1) := by decide +kernel
theorem dX9_least_23 : decode cX9_least 23 = .ok (.aload_n 0, 1) := by decide +kernel
theorem dX9_least_24 : decode cX9_least 24 = .ok (.getfield 40, 3) := by decide +kernel
theorem dX9_least_27 : decode cX9_least 27 = .ok (.aload_n 0, 1) := by decide +kernel
theorem dX9_least_28 : decode cX9_least 28 = .ok (.getfield 19, 3) := by decide +kernel
theorem dX9_least_31 : decode cX9_least 31 = .ok (.iload_n 1, 1) := by decide +kernel
theorem dX9_least_32 : decode cX9_least 32 = .ok (.invokevirtual 206, 3) := by decide +kernel
theorem dX9_least_35 : decode cX9_least 35 = .ok (.iload_n 2, 1) := by decide +kernel
theorem dX9_least_36 : decode cX9_least 36 = .ok (.ifCond .ne 21, 3) := by decide +kernel
theorem dX9_least_39 : decode cX9_least 39 = .ok (.aload_n 0, 1) := by decide +kernel
theorem dX9_least_40 : decode cX9_least 40 = .ok (.getfield 40, 3) := by decide +kernel
theorem dX9_least_43 : decode cX9_least 43 = .ok (.aload_n 0, 1) := by decide +kernel
theorem dX9_least_44 : decode cX9_least 44 = .ok (.getfield 19, 3) := by decide +kernel
theorem dX9_least_47 : decode cX9_least 47 = .ok (.getfield 113, 3) := by decide +kernel
theorem dX9_least_50 : decode cX9_least 50 = .ok (.iload_n 1, 1) := by decide +kernel
theorem dX9_least_51 : decode cX9_least 51 = .ok (.invokevirtual 210, 3) := by decide +kernel
theorem dX9_least_54 : decode cX9_least 54 = .ok (.goto 15, 3) := by decide +kernel
theorem dX9_least_57 : decode cX9_least 57 = .ok (.aload_n 0, 1) := by decide +kernel
theorem dX9_least_58 : decode cX9_least 58 = .ok (.getfield 40, 3) := by decide +kernel
theorem dX9_least_61 : decode cX9_least 61 = .ok (.aload_n 0, 1) := by decide +kernel
theorem dX9_least_62 : decode cX9_least 62 = .ok (.getfield 19, 3) := by decide +kernel
theorem dX9_least_65 : decode cX9_least 65 = .ok (.iload_n 1, 1) := by decide +kernel
theorem dX9_least_66 : decode cX9_least 66 = .ok (.invokevirtual 214, 3) := by decide +kernel
theorem dX9_least_69 : decode cX9_least 69 = .ok (.ireturn, 1) := by decide +kernel
theorem dX9_hears_0 : decode cX9_hears 0 = .ok (.aload_n 0, 1) := by decide +kernel
theorem dX9_hears_1 : decode cX9_hears 1 = .ok (.getfield 19, 3) := by decide +kernel
theorem dX9_hears_4 : decode cX9_hears 4 = .ok (.getfield 105, 3) := by decide +kernel
theorem dX9_hears_7 : decode cX9_hears 7 = .ok (.iload_n 1, 1) := by decide +kernel
theorem dX9_hears_8 : decode cX9_hears 8 = .ok (.invokevirtual 108, 3) := by decide +kernel
theorem dX9_hears_11 : decode cX9_hears 11 = .ok (.ifCond .eq 17, 3) := by decide +kernel
theorem dX9_hears_14 : decode cX9_hears 14 = .ok (.iload_n 2, 1) := by decide +kernel
theorem dX9_hears_15 : decode cX9_hears 15 = .ok (.invokestatic 217, 3) := by decide +kernel
theorem dX9_hears_18 : decode cX9_hears 18 = .ok (.ifCond .eq 10, 3) := by decide +kernel
theorem dX9_hears_21 : decode cX9_hears 21 = .ok (.iload_n 3, 1) := by decide +kernel
theorem dX9_hears_22 : decode cX9_hears 22 = .ok (.invokestatic 182, 3) := by decide +kernel
theorem dX9_hears_25 : decode cX9_hears 25 = .ok (.ifCond .ne 5, 3) := by decide +kernel
theorem dX9_hears_28 : decode cX9_hears 28 = .ok (.iconst (-1), 1) := by decide +kernel
theorem dX9_hears_29 : decode cX9_hears 29 = .ok (.ireturn, 1) := by decide +kernel
theorem dX9_hears_30 : decode cX9_hears 30 = .ok (.aload_n 0, 1) := by decide +kernel
theorem dX9_hears_31 : decode cX9_hears 31 = .ok (.getfield 33, 3) := by decide +kernel
theorem dX9_hears_34 : decode cX9_hears 34 = .ok (.iload_n 1, 1) := by decide +kernel
theorem dX9_hears_35 : decode cX9_hears 35 = .ok (.iload_n 2, 1) := by decide +kernel
theorem dX9_hears_36 : decode cX9_hears 36 = .ok (.iload_n 3, 1) := by decide +kernel
theorem dX9_hears_37 : decode cX9_hears 37 = .ok (.invokevirtual 220, 3) := by decide +kernel
theorem dX9_hears_40 : decode cX9_hears 40 = .ok (.ifCond .eq 13, 3) := by decide +kernel
theorem dX9_hears_43 : decode cX9_hears 43 = .ok (.aload_n 0, 1) := by decide +kernel
theorem dX9_hears_44 : decode cX9_hears 44 = .ok (.getfield 33, 3) := by decide +kernel
theorem dX9_hears_47 : decode cX9_hears 47 = .ok (.getfield 224, 3) := by decide +kernel
theorem dX9_hears_50 : decode cX9_hears 50 = .ok (.goto 5, 3) := by decide +kernel
theorem dX9_hears_53 : decode cX9_hears 53 = .ok (.bipush (-3), 2) := by decide +kernel
theorem dX9_hears_55 : decode cX9_hears 55 = .ok (.ireturn, 1) := by decide +kernel
theorem dX9_forget_0 : decode cX9_forget 0 = .ok (.aload_n 0, 1) := by decide +kernel
theorem dX9_forget_1 : decode cX9_forget 1 = .ok (.getfield 33, 3) := by decide +kernel
theorem dX9_forget_4 : decode cX9_forget 4 = .ok (.invokevirtual 102, 3) := by decide +kernel
theorem dX9_forget_7 : decode cX9_forget 7 = .ok (.ireturn, 1) := by decide +kernel
theorem dX9_can_0 : decode cX9_can 0 = .ok (.aload_n 0, 1) := by decide +kernel
theorem dX9_can_1 : decode cX9_can 1 = .ok (.getfield 19, 3) := by decide +kernel
theorem dX9_can_4 : decode cX9_can 4 = .ok (.getfield 105, 3) := by decide +kernel
theorem dX9_can_7 : decode cX9_can 7 = .ok (.iload_n 1, 1) := by decide +kernel
theorem dX9_can_8 : decode cX9_can 8 = .ok (.invokevirtual 108, 3) := by decide +kernel
theorem dX9_can_11 : decode cX9_can 11 = .ok (.ifCond .eq 18, 3) := by decide +kernel
theorem dX9_can_14 : decode cX9_can 14 = .ok (.aload_n 0, 1) := by decide +kernel
theorem dX9_can_15 : decode cX9_can 15 = .ok (.getfield 33, 3) := by decide +kernel
theorem dX9_can_18 : decode cX9_can 18 = .ok (.aload_n 0, 1) := by decide +kernel
theorem dX9_can_19 : decode cX9_can 19 = .ok (.getfield 19, 3) := by decide +kernel
theorem dX9_can_22 : decode cX9_can 22 = .ok (.iload_n 1, 1) := by decide +kernel
theorem dX9_can_23 : decode cX9_can 23 = .ok (.invokevirtual 227, 3) := by decide +kernel
theorem dX9_can_26 : decode cX9_can 26 = .ok (.goto 4, 3) := by decide +kernel
theorem dX9_can_29 : decode cX9_can 29 = .ok (.iconst (-1), 1) := by decide +kernel
theorem dX9_can_30 : decode cX9_can 30 = .ok (.ireturn, 1) := by decide +kernel
theorem dX9_tells_0 : decode cX9_tells 0 = .ok (.aload_n 0, 1) := by decide +kernel
theorem dX9_tells_1 : decode cX9_tells 1 = .ok (.getfield 19, 3) := by decide +kernel
theorem dX9_tells_4 : decode cX9_tells 4 = .ok (.getfield 105, 3) := by decide +kernel
theorem dX9_tells_7 : decode cX9_tells 7 = .ok (.iload_n 1, 1) := by decide +kernel
theorem dX9_tells_8 : decode cX9_tells 8 = .ok (.invokevirtual 108, 3) := by decide +kernel
theorem dX9_tells_11 : decode cX9_tells 11 = .ok (.ifCond .eq 31, 3) := by decide +kernel
theorem dX9_tells_14 : decode cX9_tells 14 = .ok (.aload_n 0, 1) := by decide +kernel
theorem dX9_tells_15 : decode cX9_tells 15 = .ok (.getfield 19, 3) := by decide +kernel
theorem dX9_tells_18 : decode cX9_tells 18 = .ok (.getfield 105, 3) := by decide +kernel
theorem dX9_tells_21 : decode cX9_tells 21 = .ok (.iload_n 2, 1) := by decide +kernel
theorem dX9_tells_22 : decode cX9_tells 22 = .ok (.invokevirtual 169, 3) := by decide +kernel
theorem dX9_tells_25 : decode cX9_tells 25 = .ok (.ifCond .eq 17, 3) := by decide +kernel
theorem dX9_tells_28 : decode cX9_tells 28 = .ok (.aload_n 0, 1) := by decide +kernel
theorem dX9_tells_29 : decode cX9_tells 29 = .ok (.getfield 19, 3) := by decide +kernel
theorem dX9_tells_32 : decode cX9_tells 32 = .ok (.getfield 105, 3) := by decide +kernel
theorem dX9_tells_35 : decode cX9_tells 35 = .ok (.iload_n 3, 1) := by decide +kernel
theorem dX9_tells_36 : decode cX9_tells 36 = .ok (.invokevirtual 169, 3) := by decide +kernel
theorem dX9_tells_39 : decode cX9_tells 39 = .ok (.ifCond .ne 5, 3) := by decide +kernel
theorem dX9_tells_42 : decode cX9_tells 42 = .ok (.iconst (-1), 1) := by decide +kernel
theorem dX9_tells_43 : decode cX9_tells 43 = .ok (.ireturn, 1) := by decide +kernel
theorem dX9_tells_44 : decode cX9_tells 44 = .ok (.aload_n 0, 1) := by decide +kernel
theorem dX9_tells_45 : decode cX9_tells 45 = .ok (.getfield 19, 3) := by decide +kernel
theorem dX9_tells_48 : decode cX9_tells 48 = .ok (.iload_n 1, 1) := by decide +kernel
theorem dX9_tells_49 : decode cX9_tells 49 = .ok (.iload_n 2, 1) := by decide +kernel
theorem dX9_tells_50 : decode cX9_tells 50 = .ok (.iload_n 3, 1) := by decide +kernel
theorem dX9_tells_51 : decode cX9_tells 51 = .ok (.invokevirtual 230, 3) := by decide +kernel
theorem dX9_tells_54 : decode cX9_tells 54 = .ok (.ireturn, 1) := by decide +kernel
theorem dX9_odds_0 : decode cX9_odds 0 = .ok (.aload_n 0, 1) := by decide +kernel
theorem dX9_odds_1 : decode cX9_odds 1 = .ok (.getfield 19, 3) := by decide +kernel
theorem dX9_odds_4 : decode cX9_odds 4 = .ok (.getfield 105, 3) := by decide +kernel
theorem dX9_odds_7 : decode cX9_odds 7 = .ok (.iload_n 1, 1) := by decide +kernel
theorem dX9_odds_8 : decode cX9_odds 8 = .ok (.invokevirtual 108, 3) := by decide +kernel
theorem dX9_odds_11 : decode cX9_odds 11 = .ok (.ifCond .eq 28, 3) := by decide +kernel
theorem dX9_odds_14 : decode cX9_odds 14 = .ok (.iload_n 2, 1) := by decide +kernel
theorem dX9_odds_15 : decode cX9_odds 15 = .ok (.invokestatic 217, 3) := by decide +kernel
theorem dX9_odds_18 : decode cX9_odds 18 = .ok (.ifCond .eq 21, 3) := by decide +kernel
theorem dX9_odds_21 : decode cX9_odds 21 = .ok (.iload_n 3, 1) := by decide +kernel
theorem dX9_odds_22 : decode cX9_odds 22 = .ok (.ifCond .lt 17, 3) := by decide +kernel
theorem dX9_odds_25 : decode cX9_odds 25 = .ok (.iload_n 3, 1) := by decide +kernel
theorem dX9_odds_26 : decode cX9_odds 26 = .ok (.bipush 10, 2) := by decide +kernel
theorem dX9_odds_28 : decode cX9_odds 28 = .ok (.if_icmp .gt 11, 3) := by decide +kernel
theorem dX9_odds_31 : decode cX9_odds 31 = .ok (.iload 4, 2) := by decide +kernel
theorem dX9_odds_33 : decode cX9_odds 33 = .ok (.invokestatic 182, 3) := by decide +kernel
theorem dX9_odds_36 : decode cX9_odds 36 = .ok (.ifCond .ne 5, 3) := by decide +kernel
theorem dX9_odds_39 : decode cX9_odds 39 = .ok (.iconst (-1), 1) := by decide +kernel
theorem dX9_odds_40 : decode cX9_odds 40 = .ok (.ireturn, 1) := by decide +kernel
theorem dX9_odds_41 : decode cX9_odds 41 = .ok (.aload_n 0, 1) := by decide +kernel
theorem dX9_odds_42 : decode cX9_odds 42 = .ok (.getfield 19, 3) := by decide +kernel
theorem dX9_odds_45 : decode cX9_odds 45 = .ok (.iload_n 1, 1) := by decide +kernel
theorem dX9_odds_46 : decode cX9_odds 46 = .ok (.iload_n 2, 1) := by decide +kernel
theorem dX9_odds_47 : decode cX9_odds 47 = .ok (.invokevirtual 234, 3) := by decide +kernel
theorem dX9_odds_50 : decode cX9_odds 50 = .ok (.istore 5, 2) := by decide +kernel
theorem dX9_odds_52 : decode cX9_odds 52 = .ok (.bipush 10, 2) := by decide +kernel
theorem dX9_odds_54 : decode cX9_odds 54 = .ok (.iload 5, 2) := by decide +kernel
theorem dX9_odds_56 : decode cX9_odds 56 = .ok (.invokestatic 237, 3) := by decide +kernel
theorem dX9_odds_59 : decode cX9_odds 59 = .ok (.istore 6, 2) := by decide +kernel
theorem dX9_odds_61 : decode cX9_odds 61 = .ok (.iload 6, 2) := by decide +kernel
theorem dX9_odds_63 : decode cX9_odds 63 = .ok (.iload_n 3, 1) := by decide +kernel
theorem dX9_odds_64 : decode cX9_odds 64 = .ok (.iload 5, 2) := by decide +kernel
theorem dX9_odds_66 : decode cX9_odds 66 = .ok (.invokestatic 237, 3) := by decide +kernel
theorem dX9_odds_69 : decode cX9_odds 69 = .ok (.isub, 1) := by decide +kernel
theorem dX9_odds_70 : decode cX9_odds 70 = .ok (.istore 7, 2) := by decide +kernel
theorem dX9_odds_72 : decode cX9_odds 72 = .ok (.iload 6, 2) := by decide +kernel
theorem dX9_odds_74 : decode cX9_odds 74 = .ok (.iload 7, 2) := by decide +kernel
theorem dX9_odds_76 : decode cX9_odds 76 = .ok (.invokestatic 240, 3) := by decide +kernel
theorem dX9_odds_79 : decode cX9_odds 79 = .ok (.istore 8, 2) := by decide +kernel
theorem dX9_odds_81 : decode cX9_odds 81 = .ok (.iload 4, 2) := by decide +kernel
theorem dX9_odds_83 : decode cX9_odds 83 = .ok (.ifCond .ne 8, 3) := by decide +kernel
theorem dX9_odds_86 : decode cX9_odds 86 = .ok (.iload 7, 2) := by decide +kernel
theorem dX9_odds_88 : decode cX9_odds 88 = .ok (.goto 5, 3) := by decide +kernel
theorem dX9_odds_91 : decode cX9_odds 91 = .ok (.iload 6, 2) := by decide +kernel
theorem dX9_odds_93 : decode cX9_odds 93 = .ok (.iload 8, 2) := by decide +kernel
theorem dX9_odds_95 : decode cX9_odds 95 = .ok (.idiv, 1) := by decide +kernel
theorem dX9_odds_96 : decode cX9_odds 96 = .ok (.ireturn, 1) := by decide +kernel
theorem dX9_rate_0 : decode cX9_rate 0 = .ok (.iload_n 1, 1) := by decide +kernel
theorem dX9_rate_1 : decode cX9_rate 1 = .ok (.ifCond .lt 23, 3) := by decide +kernel
theorem dX9_rate_4 : decode cX9_rate 4 = .ok (.iload_n 1, 1) := by decide +kernel
theorem dX9_rate_5 : decode cX9_rate 5 = .ok (.bipush 6, 2) := by decide +kernel
theorem dX9_rate_7 : decode cX9_rate 7 = .ok (.if_icmp .ge 17, 3) := by decide +kernel
theorem dX9_rate_10 : decode cX9_rate 10 = .ok (.aload_n 0, 1) := by decide +kernel
theorem dX9_rate_11 : decode cX9_rate 11 = .ok (.getfield 19, 3) := by decide +kernel
theorem dX9_rate_14 : decode cX9_rate 14 = .ok (.getfield 105, 3) := by decide +kernel
theorem dX9_rate_17 : decode cX9_rate 17 = .ok (.iload_n 2, 1) := by decide +kernel
theorem dX9_rate_18 : decode cX9_rate 18 = .ok (.invokevirtual 141, 3) := by decide +kernel
theorem dX9_rate_21 : decode cX9_rate 21 = .ok (.ifCond .ne 6, 3) := by decide +kernel
theorem dX9_rate_24 : decode cX9_rate 24 = .ok (.ldc 243, 2) := by decide +kernel
theorem dX9_rate_26 : decode cX9_rate 26 = .ok (.ireturn, 1) := by decide +kernel
theorem dX9_rate_27 : decode cX9_rate 27 = .ok (.aload_n 0, 1) := by decide +kernel
theorem dX9_rate_28 : decode cX9_rate 28 = .ok (.getfield 54, 3) := by decide +kernel
theorem dX9_rate_31 : decode cX9_rate 31 = .ok (.iload_n 1, 1) := by decide +kernel
theorem dX9_rate_32 : decode cX9_rate 32 = .ok (.aload_n 0, 1) := by decide +kernel
theorem dX9_rate_33 : decode cX9_rate 33 = .ok (.getfield 19, 3) := by decide +kernel
theorem dX9_rate_36 : decode cX9_rate 36 = .ok (.iload_n 2, 1) := by decide +kernel
theorem dX9_rate_37 : decode cX9_rate 37 = .ok (.invokevirtual 244, 3) := by decide +kernel
theorem dX9_rate_40 : decode cX9_rate 40 = .ok (.ireturn, 1) := by decide +kernel
theorem dX9_keep_0 : decode cX9_keep 0 = .ok (.iload_n 1, 1) := by decide +kernel
theorem dX9_keep_1 : decode cX9_keep 1 = .ok (.invokestatic 248, 3) := by decide +kernel
theorem dX9_keep_4 : decode cX9_keep 4 = .ok (.ifCond .ne 5, 3) := by decide +kernel
theorem dX9_keep_7 : decode cX9_keep 7 = .ok (.iconst (-1), 1) := by decide +kernel
theorem dX9_keep_8 : decode cX9_keep 8 = .ok (.ireturn, 1) := by decide +kernel
theorem dX9_keep_9 : decode cX9_keep 9 = .ok (.aload_n 0, 1) := by decide +kernel
theorem dX9_keep_10 : decode cX9_keep 10 = .ok (.getfield 60, 3) := by decide +kernel
theorem dX9_keep_13 : decode cX9_keep 13 = .ok (.iload_n 1, 1) := by decide +kernel
theorem dX9_keep_14 : decode cX9_keep 14 = .ok (.aaload, 1) := by decide +kernel
theorem dX9_keep_15 : decode cX9_keep 15 = .ok (.aload_n 0, 1) := by decide +kernel
theorem dX9_keep_16 : decode cX9_keep 16 = .ok (.getfield 19, 3) := by decide +kernel
theorem dX9_keep_19 : decode cX9_keep 19 = .ok (.getfield 113, 3) := by decide +kernel
theorem dX9_keep_22 : decode cX9_keep 22 = .ok (.invokevirtual 251, 3) := by decide +kernel
theorem dX9_keep_25 : decode cX9_keep 25 = .ok (.aload_n 0, 1) := by decide +kernel
theorem dX9_keep_26 : decode cX9_keep 26 = .ok (.getfield 65, 3) := by decide +kernel
theorem dX9_keep_29 : decode cX9_keep 29 = .ok (.iload_n 1, 1) := by decide +kernel
theorem dX9_keep_30 : decode cX9_keep 30 = .ok (.iconst 1, 1) := by decide +kernel
theorem dX9_keep_31 : decode cX9_keep 31 = .ok (.bastore, 1) := by decide +kernel
theorem dX9_keep_32 : decode cX9_keep 32 = .ok (.aload_n 0, 1) := by decide +kernel
theorem dX9_keep_33 : decode cX9_keep 33 = .ok (.getfield 19, 3) := by decide +kernel
theorem dX9_keep_36 : decode cX9_keep 36 = .ok (.getfield 113, 3) := by decide +kernel
theorem dX9_keep_39 : decode cX9_keep 39 = .ok (.getfield 127, 3) := by decide +kernel
theorem dX9_keep_42 : decode cX9_keep 42 = .ok (.ireturn, 1) := by decide +kernel
theorem dX9_back_0 : decode cX9_back 0 = .ok (.iload_n 1, 1) := by decide +kernel
theorem dX9_back_1 : decode cX9_back 1 = .ok (.invokestatic 248, 3) := by decide +kernel
theorem dX9_back_4 : decode cX9_back 4 = .ok (.ifCond .ne 5, 3) := by decide +kernel
theorem dX9_back_7 : decode cX9_back 7 = .ok (.iconst (-1), 1) := by decide +kernel
theorem dX9_back_8 : decode cX9_back 8 = .ok (.ireturn, 1) := by decide +kernel
theorem dX9_back_9 : decode cX9_back 9 = .ok (.aload_n 0, 1) := by decide +kernel
theorem dX9_back_10 : decode cX9_back 10 = .ok (.getfield 65, 3) := by decide +kernel
theorem dX9_back_13 : decode cX9_back 13 = .ok (.iload_n 1, 1) := by decide +kernel
theorem dX9_back_14 : decode cX9_back 14 = .ok (.baload, 1) := by decide +kernel
theorem dX9_back_15 : decode cX9_back 15 = .ok (.ifCond .ne 6, 3) := by decide +kernel
theorem dX9_back_18 : decode cX9_back 18 = .ok (.bipush (-2), 2) := by decide +kernel
theorem dX9_back_20 : decode cX9_back 20 = .ok (.ireturn, 1) := by decide +kernel
theorem dX9_back_21 : decode cX9_back 21 = .ok (.aload_n 0, 1) := by decide +kernel
theorem dX9_back_22 : decode cX9_back 22 = .ok (.getfield 19, 3) := by decide +kernel
theorem dX9_back_25 : decode cX9_back 25 = .ok (.getfield 113, 3) := by decide +kernel
theorem dX9_back_28 : decode cX9_back 28 = .ok (.aload_n 0, 1) := by decide +kernel
theorem dX9_back_29 : decode cX9_back 29 = .ok (.getfield 60, 3) := by decide +kernel
theorem dX9_back_32 : decode cX9_back 32 = .ok (.iload_n 1, 1) := by decide +kernel
theorem dX9_back_33 : decode cX9_back 33 = .ok (.aaload, 1) := by decide +kernel
theorem dX9_back_34 : decode cX9_back 34 = .ok (.invokevirtual 251, 3) := by decide +kernel
theorem dX9_back_37 : decode cX9_back 37 = .ok (.aload_n 0, 1) := by decide +kernel
theorem dX9_back_38 : decode cX9_back 38 = .ok (.getfield 26, 3) := by decide +kernel
theorem dX9_back_41 : decode cX9_back 41 = .ok (.invokevirtual 99, 3) := by decide +kernel
theorem dX9_back_44 : decode cX9_back 44 = .ok (.aload_n 0, 1) := by decide +kernel
theorem dX9_back_45 : decode cX9_back 45 = .ok (.getfield 19, 3) := by decide +kernel
theorem dX9_back_48 : decode cX9_back 48 = .ok (.getfield 113, 3) := by decide +kernel
theorem dX9_back_51 : decode cX9_back 51 = .ok (.getfield 127, 3) := by decide +kernel
theorem dX9_back_54 : decode cX9_back 54 = .ok (.ireturn, 1) := by decide +kernel
theorem dX9_count_0 : decode cX9_count 0 = .ok (.iload_n 1, 1) := by decide +kernel
theorem dX9_count_1 : decode cX9_count 1 = .ok (.tableswitch 114 0 6 #[43, 54, 65, 76, 87, 98, 106], 43) := by decide +kernel
theorem dX9_count_44 : decode cX9_count 44 = .ok (.aload_n 0, 1) := by decide +kernel
theorem dX9_count_45 : decode cX9_count 45 = .ok (.getfield 19, 3) := by decide +kernel
theorem dX9_count_48 : decode cX9_count 48 = .ok (.getfield 105, 3) := by decide +kernel
theorem dX9_count_51 : decode cX9_count 51 = .ok (.getfield 254, 3) := by decide +kernel
theorem dX9_count_54 : decode cX9_count 54 = .ok (.ireturn, 1) := by decide +kernel
theorem dX9_count_55 : decode cX9_count 55 = .ok (.aload_n 0, 1) := by decide +kernel
theorem dX9_count_56 : decode cX9_count 56 = .ok (.getfield 19, 3) := by decide +kernel
theorem dX9_count_59 : decode cX9_count 59 = .ok (.getfield 105, 3) := by decide +kernel
theorem dX9_count_62 : decode cX9_count 62 = .ok (.getfield 257, 3) := by decide +kernel
theorem dX9_count_65 : decode cX9_count 65 = .ok (.ireturn, 1) := by decide +kernel
theorem dX9_count_66 : decode cX9_count 66 = .ok (.aload_n 0, 1) := by decide +kernel
theorem dX9_count_67 : decode cX9_count 67 = .ok (.getfield 19, 3) := by decide +kernel
theorem dX9_count_70 : decode cX9_count 70 = .ok (.getfield 105, 3) := by decide +kernel
theorem dX9_count_73 : decode cX9_count 73 = .ok (.getfield 260, 3) := by decide +kernel
theorem dX9_count_76 : decode cX9_count 76 = .ok (.ireturn, 1) := by decide +kernel
theorem dX9_count_77 : decode cX9_count 77 = .ok (.aload_n 0, 1) := by decide +kernel
theorem dX9_count_78 : decode cX9_count 78 = .ok (.getfield 19, 3) := by decide +kernel
theorem dX9_count_81 : decode cX9_count 81 = .ok (.getfield 105, 3) := by decide +kernel
theorem dX9_count_84 : decode cX9_count 84 = .ok (.getfield 263, 3) := by decide +kernel
theorem dX9_count_87 : decode cX9_count 87 = .ok (.ireturn, 1) := by decide +kernel
theorem dX9_count_88 : decode cX9_count 88 = .ok (.aload_n 0, 1) := by decide +kernel
theorem dX9_count_89 : decode cX9_count 89 = .ok (.getfield 19, 3) := by decide +kernel
theorem dX9_count_92 : decode cX9_count 92 = .ok (.getfield 105, 3) := by decide +kernel
theorem dX9_count_95 : decode cX9_count 95 = .ok (.getfield 266, 3) := by decide +kernel
theorem dX9_count_98 : decode cX9_count 98 = .ok (.ireturn, 1) := by decide +kernel
theorem dX9_count_99 : decode cX9_count 99 = .ok (.aload_n 0, 1) := by decide +kernel
theorem dX9_count_100 : decode cX9_count 100 = .ok (.getfield 33, 3) := by decide +kernel
theorem dX9_count_103 : decode cX9_count 103 = .ok (.getfield 224, 3) := by decide +kernel
theorem dX9_count_106 : decode cX9_count 106 = .ok (.ireturn, 1) := by decide +kernel
theorem dX9_count_107 : decode cX9_count 107 = .ok (.aload_n 0, 1) := by decide +kernel
theorem dX9_count_108 : decode cX9_count 108 = .ok (.getfield 10, 3) := by decide +kernel
theorem dX9_count_111 : decode cX9_count 111 = .ok (.getfield 73, 3) := by decide +kernel
theorem dX9_count_114 : decode cX9_count 114 = .ok (.ireturn, 1) := by decide +kernel
theorem dX9_count_115 : decode cX9_count 115 = .ok (.iconst (-1), 1) := by decide +kernel
theorem dX9_count_116 : decode cX9_count 116 = .ok (.ireturn, 1) := by decide +kernel
theorem dX9_trace_0 : decode cX9_trace 0 = .ok (.aload_n 0, 1) := by decide +kernel
theorem dX9_trace_1 : decode cX9_trace 1 = .ok (.getfield 54, 3) := by decide +kernel
theorem dX9_trace_4 : decode cX9_trace 4 = .ok (.getfield 269, 3) := by decide +kernel
theorem dX9_trace_7 : decode cX9_trace 7 = .ok (.lreturn, 1) := by decide +kernel
theorem dX9_bit_0 : decode cX9_bit 0 = .ok (.iload_n 0, 1) := by decide +kernel
theorem dX9_bit_1 : decode cX9_bit 1 = .ok (.iload_n 1, 1) := by decide +kernel
theorem dX9_bit_2 : decode cX9_bit 2 = .ok (.ishr, 1) := by decide +kernel
theorem dX9_bit_3 : decode cX9_bit 3 = .ok (.iconst 1, 1) := by decide +kernel
theorem dX9_bit_4 : decode cX9_bit 4 = .ok (.iand, 1) := by decide +kernel
theorem dX9_bit_5 : decode cX9_bit 5 = .ok (.ireturn, 1) := by decide +kernel
theorem dX9_isBit_0 : decode cX9_isBit 0 = .ok (.iload_n 0, 1) := by decide +kernel
theorem dX9_isBit_1 : decode cX9_isBit 1 = .ok (.ifCond .eq 8, 3) := by decide +kernel
theorem dX9_isBit_4 : decode cX9_isBit 4 = .ok (.iload_n 0, 1) := by decide +kernel
theorem dX9_isBit_5 : decode cX9_isBit 5 = .ok (.iconst 1, 1) := by decide +kernel
theorem dX9_isBit_6 : decode cX9_isBit 6 = .ok (.if_icmp .ne 7, 3) := by decide +kernel
theorem dX9_isBit_9 : decode cX9_isBit 9 = .ok (.iconst 1, 1) := by decide +kernel
theorem dX9_isBit_10 : decode cX9_isBit 10 = .ok (.goto 4, 3) := by decide +kernel
theorem dX9_isBit_13 : decode cX9_isBit 13 = .ok (.iconst 0, 1) := by decide +kernel
theorem dX9_isBit_14 : decode cX9_isBit 14 = .ok (.ireturn, 1) := by decide +kernel
theorem dX9_isMinute_0 : decode cX9_isMinute 0 = .ok (.iload_n 0, 1) := by decide +kernel
theorem dX9_isMinute_1 : decode cX9_isMinute 1 = .ok (.ifCond .lt 14, 3) := by decide +kernel
theorem dX9_isMinute_4 : decode cX9_isMinute 4 = .ok (.iload_n 0, 1) := by decide +kernel
theorem dX9_isMinute_5 : decode cX9_isMinute 5 = .ok (.sipush 240, 3) := by decide +kernel
theorem dX9_isMinute_8 : decode cX9_isMinute 8 = .ok (.if_icmp .ge 7, 3) := by decide +kernel
theorem dX9_isMinute_11 : decode cX9_isMinute 11 = .ok (.iconst 1, 1) := by decide +kernel
theorem dX9_isMinute_12 : decode cX9_isMinute 12 = .ok (.goto 4, 3) := by decide +kernel
theorem dX9_isMinute_15 : decode cX9_isMinute 15 = .ok (.iconst 0, 1) := by decide +kernel
theorem dX9_isMinute_16 : decode cX9_isMinute 16 = .ok (.ireturn, 1) := by decide +kernel
theorem dX9_isImage_0 : decode cX9_isImage 0 = .ok (.iload_n 0, 1) := by decide +kernel
theorem dX9_isImage_1 : decode cX9_isImage 1 = .ok (.ifCond .lt 12, 3) := by decide +kernel
theorem dX9_isImage_4 : decode cX9_isImage 4 = .ok (.iload_n 0, 1) := by decide +kernel
theorem dX9_isImage_5 : decode cX9_isImage 5 = .ok (.iconst 2, 1) := by decide +kernel
theorem dX9_isImage_6 : decode cX9_isImage 6 = .ok (.if_icmp .ge 7, 3) := by decide +kernel
theorem dX9_isImage_9 : decode cX9_isImage 9 = .ok (.iconst 1, 1) := by decide +kernel
theorem dX9_isImage_10 : decode cX9_isImage 10 = .ok (.goto 4, 3) := by decide +kernel
theorem dX9_isImage_13 : decode cX9_isImage 13 = .ok (.iconst 0, 1) := by decide +kernel
theorem dX9_isImage_14 : decode cX9_isImage 14 = .ok (.ireturn, 1) := by decide +kernel
theorem dX9_power_0 : decode cX9_power 0 = .ok (.iconst 1, 1) := by decide +kernel
theorem dX9_power_1 : decode cX9_power 1 = .ok (.istore_n 2, 1) := by decide +kernel
theorem dX9_power_2 : decode cX9_power 2 = .ok (.iconst 0, 1) := by decide +kernel
theorem dX9_power_3 : decode cX9_power 3 = .ok (.istore_n 3, 1) := by decide +kernel
theorem dX9_power_4 : decode cX9_power 4 = .ok (.iload_n 3, 1) := by decide +kernel
theorem dX9_power_5 : decode cX9_power 5 = .ok (.iload_n 1, 1) := by decide +kernel
theorem dX9_power_6 : decode cX9_power 6 = .ok (.if_icmp .ge 19, 3) := by decide +kernel
theorem dX9_power_9 : decode cX9_power 9 = .ok (.iload_n 3, 1) := by decide +kernel
theorem dX9_power_10 : decode cX9_power 10 = .ok (.bipush 8, 2) := by decide +kernel
theorem dX9_power_12 : decode cX9_power 12 = .ok (.if_icmp .ge 13, 3) := by decide +kernel
theorem dX9_power_15 : decode cX9_power 15 = .ok (.iload_n 2, 1) := by decide +kernel
theorem dX9_power_16 : decode cX9_power 16 = .ok (.iload_n 0, 1) := by decide +kernel
theorem dX9_power_17 : decode cX9_power 17 = .ok (.imul, 1) := by decide +kernel
theorem dX9_power_18 : decode cX9_power 18 = .ok (.istore_n 2, 1) := by decide +kernel
theorem dX9_power_19 : decode cX9_power 19 = .ok (.iinc 3 1, 3) := by decide +kernel
theorem dX9_power_22 : decode cX9_power 22 = .ok (.goto (-18), 3) := by decide +kernel
theorem dX9_power_25 : decode cX9_power 25 = .ok (.iload_n 2, 1) := by decide +kernel
theorem dX9_power_26 : decode cX9_power 26 = .ok (.ireturn, 1) := by decide +kernel
theorem dX9_greatestDivisor_0 : decode cX9_greatestDivisor 0 = .ok (.iconst 1, 1) := by decide +kernel
theorem dX9_greatestDivisor_1 : decode cX9_greatestDivisor 1 = .ok (.iload_n 0, 1) := by decide +kernel
theorem dX9_greatestDivisor_2 : decode cX9_greatestDivisor 2 = .ok (.invokestatic 273, 3) := by decide +kernel
theorem dX9_greatestDivisor_5 : decode cX9_greatestDivisor 5 = .ok (.istore_n 2, 1) := by decide +kernel
theorem dX9_greatestDivisor_6 : decode cX9_greatestDivisor 6 = .ok (.iload_n 1, 1) := by decide +kernel
theorem dX9_greatestDivisor_7 : decode cX9_greatestDivisor 7 = .ok (.istore_n 3, 1) := by decide +kernel
theorem dX9_greatestDivisor_8 : decode cX9_greatestDivisor 8 = .ok (.iconst 0, 1) := by decide +kernel
theorem dX9_greatestDivisor_9 : decode cX9_greatestDivisor 9 = .ok (.istore 4, 2) := by decide +kernel
theorem dX9_greatestDivisor_11 : decode cX9_greatestDivisor 11 = .ok (.iload 4, 2) := by decide +kernel
theorem dX9_greatestDivisor_13 : decode cX9_greatestDivisor 13 = .ok (.bipush 100, 2) := by decide +kernel
theorem dX9_greatestDivisor_15 : decode cX9_greatestDivisor 15 = .ok (.if_icmp .ge 23, 3) := by decide +kernel
theorem dX9_greatestDivisor_18 : decode cX9_greatestDivisor 18 = .ok (.iload_n 3, 1) := by decide +kernel
theorem dX9_greatestDivisor_19 : decode cX9_greatestDivisor 19 = .ok (.ifCond .le 19, 3) := by decide +kernel
theorem dX9_greatestDivisor_22 : decode cX9_greatestDivisor 22 = .ok (.iload_n 2, 1) := by decide +kernel
theorem dX9_greatestDivisor_23 : decode cX9_greatestDivisor 23 = .ok (.iload_n 3, 1) := by decide +kernel
theorem dX9_greatestDivisor_24 : decode cX9_greatestDivisor 24 = .ok (.irem, 1) := by decide +kernel
theorem dX9_greatestDivisor_25 : decode cX9_greatestDivisor 25 = .ok (.istore 5, 2) := by decide +kernel
theorem dX9_greatestDivisor_27 : decode cX9_greatestDivisor 27 = .ok (.iload_n 3, 1) := by decide +kernel
theorem dX9_greatestDivisor_28 : decode cX9_greatestDivisor 28 = .ok (.istore_n 2, 1) := by decide +kernel
theorem dX9_greatestDivisor_29 : decode cX9_greatestDivisor 29 = .ok (.iload 5, 2) := by decide +kernel
theorem dX9_greatestDivisor_31 : decode cX9_greatestDivisor 31 = .ok (.istore_n 3, 1) := by decide +kernel
theorem dX9_greatestDivisor_32 : decode cX9_greatestDivisor 32 = .ok (.iinc 4 1, 3) := by decide +kernel
theorem dX9_greatestDivisor_35 : decode cX9_greatestDivisor 35 = .ok (.goto (-24), 3) := by decide +kernel
theorem dX9_greatestDivisor_38 : decode cX9_greatestDivisor 38 = .ok (.iload_n 2, 1) := by decide +kernel
theorem dX9_greatestDivisor_39 : decode cX9_greatestDivisor 39 = .ok (.ireturn, 1) := by decide +kernel
theorem dX10_init_0 : decode cX10_init 0 = .ok (.aload_n 0, 1) := by decide +kernel
theorem dX10_init_1 : decode cX10_init 1 = .ok (.invokespecial 1, 3) := by decide +kernel
theorem dX10_init_4 : decode cX10_init 4 = .ok (.aload_n 0, 1) := by decide +kernel
theorem dX10_init_5 : decode cX10_init 5 = .ok (.sipush 200, 3) := by decide +kernel
theorem dX10_init_8 : decode cX10_init 8 = .ok (.newarray .int, 2) := by decide +kernel
theorem dX10_init_10 : decode cX10_init 10 = .ok (.putfield 7, 3) := by decide +kernel
theorem dX10_init_13 : decode cX10_init 13 = .ok (.aload_n 0, 1) := by decide +kernel
theorem dX10_init_14 : decode cX10_init 14 = .ok (.bipush 10, 2) := by decide +kernel
theorem dX10_init_16 : decode cX10_init 16 = .ok (.newarray .int, 2) := by decide +kernel
theorem dX10_init_18 : decode cX10_init 18 = .ok (.putfield 13, 3) := by decide +kernel
theorem dX10_init_21 : decode cX10_init 21 = .ok (.aload_n 0, 1) := by decide +kernel
theorem dX10_init_22 : decode cX10_init 22 = .ok (.bipush 10, 2) := by decide +kernel
theorem dX10_init_24 : decode cX10_init 24 = .ok (.newarray .int, 2) := by decide +kernel
theorem dX10_init_26 : decode cX10_init 26 = .ok (.putfield 16, 3) := by decide +kernel
theorem dX10_init_29 : decode cX10_init 29 = .ok (.aload_n 0, 1) := by decide +kernel
theorem dX10_init_30 : decode cX10_init 30 = .ok (.bipush 8, 2) := by decide +kernel
theorem dX10_init_32 : decode cX10_init 32 = .ok (.newarray .int, 2) := by decide +kernel
theorem dX10_init_34 : decode cX10_init 34 = .ok (.putfield 19, 3) := by decide +kernel
theorem dX10_init_37 : decode cX10_init 37 = .ok (.aload_n 0, 1) := by decide +kernel
theorem dX10_init_38 : decode cX10_init 38 = .ok (.bipush 16, 2) := by decide +kernel
theorem dX10_init_40 : decode cX10_init 40 = .ok (.newarray .int, 2) := by decide +kernel
theorem dX10_init_42 : decode cX10_init 42 = .ok (.putfield 22, 3) := by decide +kernel
theorem dX10_init_45 : decode cX10_init 45 = .ok (.aload_n 0, 1) := by decide +kernel
theorem dX10_init_46 : decode cX10_init 46 = .ok (.bipush 16, 2) := by decide +kernel
theorem dX10_init_48 : decode cX10_init 48 = .ok (.newarray .int, 2) := by decide +kernel
theorem dX10_init_50 : decode cX10_init 50 = .ok (.putfield 25, 3) := by decide +kernel
theorem dX10_init_53 : decode cX10_init 53 = .ok (.aload_n 0, 1) := by decide +kernel
theorem dX10_init_54 : decode cX10_init 54 = .ok (.bipush 16, 2) := by decide +kernel
theorem dX10_init_56 : decode cX10_init 56 = .ok (.newarray .int, 2) := by decide +kernel
theorem dX10_init_58 : decode cX10_init 58 = .ok (.putfield 28, 3) := by decide +kernel
theorem dX10_init_61 : decode cX10_init 61 = .ok (.aload_n 0, 1) := by decide +kernel
theorem dX10_init_62 : decode cX10_init 62 = .ok (.bipush 25, 2) := by decide +kernel
theorem dX10_init_64 : decode cX10_init 64 = .ok (.newarray .int, 2) := by decide +kernel
theorem dX10_init_66 : decode cX10_init 66 = .ok (.putfield 31, 3) := by decide +kernel
theorem dX10_init_69 : decode cX10_init 69 = .ok (.aload_n 0, 1) := by decide +kernel
theorem dX10_init_70 : decode cX10_init 70 = .ok (.bipush 50, 2) := by decide +kernel
theorem dX10_init_72 : decode cX10_init 72 = .ok (.newarray .int, 2) := by decide +kernel
theorem dX10_init_74 : decode cX10_init 74 = .ok (.putfield 34, 3) := by decide +kernel
theorem dX10_init_77 : decode cX10_init 77 = .ok (.aload_n 0, 1) := by decide +kernel
theorem dX10_init_78 : decode cX10_init 78 = .ok (.iconst 2, 1) := by decide +kernel
theorem dX10_init_79 : decode cX10_init 79 = .ok (.newarray .boolean, 2) := by decide +kernel
theorem dX10_init_81 : decode cX10_init 81 = .ok (.putfield 37, 3) := by decide +kernel
theorem dX10_init_84 : decode cX10_init 84 = .ok (.aload_n 0, 1) := by decide +kernel
theorem dX10_init_85 : decode cX10_init 85 = .ok (.sipush 250, 3) := by decide +kernel
theorem dX10_init_88 : decode cX10_init 88 = .ok (.newarray .int, 2) := by decide +kernel
theorem dX10_init_90 : decode cX10_init 90 = .ok (.putfield 41, 3) := by decide +kernel
theorem dX10_init_93 : decode cX10_init 93 = .ok (.aload_n 0, 1) := by decide +kernel
theorem dX10_init_94 : decode cX10_init 94 = .ok (.bipush 6, 2) := by decide +kernel
theorem dX10_init_96 : decode cX10_init 96 = .ok (.newarray .int, 2) := by decide +kernel
theorem dX10_init_98 : decode cX10_init 98 = .ok (.putfield 44, 3) := by decide +kernel
theorem dX10_init_101 : decode cX10_init 101 = .ok (.aload_n 0, 1) := by decide +kernel
theorem dX10_init_102 : decode cX10_init 102 = .ok (.bipush 6, 2) := by decide +kernel
theorem dX10_init_104 : decode cX10_init 104 = .ok (.newarray .int, 2) := by decide +kernel
theorem dX10_init_106 : decode cX10_init 106 = .ok (.putfield 47, 3) := by decide +kernel
theorem dX10_init_109 : decode cX10_init 109 = .ok (.aload_n 0, 1) := by decide +kernel
theorem dX10_init_110 : decode cX10_init 110 = .ok (.bipush 6, 2) := by decide +kernel
theorem dX10_init_112 : decode cX10_init 112 = .ok (.newarray .int, 2) := by decide +kernel
theorem dX10_init_114 : decode cX10_init 114 = .ok (.putfield 50, 3) := by decide +kernel
theorem dX10_init_117 : decode cX10_init 117 = .ok (.aload_n 0, 1) := by decide +kernel
theorem dX10_init_118 : decode cX10_init 118 = .ok (.sipush 1446, 3) := by decide +kernel
theorem dX10_init_121 : decode cX10_init 121 = .ok (.newarray .int, 2) := by decide +kernel
theorem dX10_init_123 : decode cX10_init 123 = .ok (.putfield 53, 3) := by decide +kernel
theorem dX10_init_126 : decode cX10_init 126 = .ok (.aload_n 0, 1) := by decide +kernel
theorem dX10_init_127 : decode cX10_init 127 = .ok (.invokevirtual 56, 3) := by decide +kernel
theorem dX10_init_130 : decode cX10_init 130 = .ok (.aload_n 0, 1) := by decide +kernel
theorem dX10_init_131 : decode cX10_init 131 = .ok (.invokevirtual 59, 3) := by decide +kernel
theorem dX10_init_134 : decode cX10_init 134 = .ok (.return_, 1) := by decide +kernel
theorem dX10_in_0 : decode cX10_in 0 = .ok (.iload_n 0, 1) := by decide +kernel
theorem dX10_in_1 : decode cX10_in 1 = .ok (.iload_n 1, 1) := by decide +kernel
theorem dX10_in_2 : decode cX10_in 2 = .ok (.if_icmp .lt 12, 3) := by decide +kernel
theorem dX10_in_5 : decode cX10_in 5 = .ok (.iload_n 0, 1) := by decide +kernel
theorem dX10_in_6 : decode cX10_in 6 = .ok (.iload_n 2, 1) := by decide +kernel
theorem dX10_in_7 : decode cX10_in 7 = .ok (.if_icmp .gt 7, 3) := by decide +kernel
theorem dX10_in_10 : decode cX10_in 10 = .ok (.iconst 1, 1) := by decide +kernel
theorem dX10_in_11 : decode cX10_in 11 = .ok (.goto 4, 3) := by decide +kernel
theorem dX10_in_14 : decode cX10_in 14 = .ok (.iconst 0, 1) := by decide +kernel
theorem dX10_in_15 : decode cX10_in 15 = .ok (.ireturn, 1) := by decide +kernel
theorem dX10_ones_0 : decode cX10_ones 0 = .ok (.iconst 0, 1) := by decide +kernel
theorem dX10_ones_1 : decode cX10_ones 1 = .ok (.istore_n 1, 1) := by decide +kernel
theorem dX10_ones_2 : decode cX10_ones 2 = .ok (.iconst 0, 1) := by decide +kernel
theorem dX10_ones_3 : decode cX10_ones 3 = .ok (.istore_n 2, 1) := by decide +kernel
theorem dX10_ones_4 : decode cX10_ones 4 = .ok (.iload_n 2, 1) := by decide +kernel
theorem dX10_ones_5 : decode cX10_ones 5 = .ok (.bipush 8, 2) := by decide +kernel
theorem dX10_ones_7 : decode cX10_ones 7 = .ok (.if_icmp .ge 17, 3) := by decide +kernel
theorem dX10_ones_10 : decode cX10_ones 10 = .ok (.iload_n 1, 1) := by decide +kernel
theorem dX10_ones_11 : decode cX10_ones 11 = .ok (.iload_n 0, 1) := by decide +kernel
theorem dX10_ones_12 : decode cX10_ones 12 = .ok (.iload_n 2, 1) := by decide +kernel
theorem dX10_ones_13 : decode cX10_ones 13 = .ok (.ishr, 1) := by decide +kernel
theorem dX10_ones_14 : decode cX10_ones 14 = .ok (.iconst 1, 1) := by decide +kernel
theorem dX10_ones_15 : decode cX10_ones 15 = .ok (.iand, 1) := by decide +kernel
theorem dX10_ones_16 : decode cX10_ones 16 = .ok (.iadd, 1) := by decide +kernel
theorem dX10_ones_17 : decode cX10_ones 17 = .ok (.istore_n 1, 1) := by decide +kernel
theorem dX10_ones_18 : decode cX10_ones 18 = .ok (.iinc 2 1, 3) := by decide +kernel
theorem dX10_ones_21 : decode cX10_ones 21 = .ok (.goto (-17), 3) := by decide +kernel
theorem dX10_ones_24 : decode cX10_ones 24 = .ok (.iload_n 1, 1) := by decide +kernel
theorem dX10_ones_25 : decode cX10_ones 25 = .ok (.ireturn, 1) := by decide +kernel
theorem dX10_type_0 : decode cX10_type 0 = .ok (.aload_n 0, 1) := by decide +kernel
theorem dX10_type_1 : decode cX10_type 1 = .ok (.iconst 0, 1) := by decide +kernel
theorem dX10_type_2 : decode cX10_type 2 = .ok (.putfield 62, 3) := by decide +kernel
theorem dX10_type_5 : decode cX10_type 5 = .ok (.iload_n 1, 1) := by decide +kernel
theorem dX10_type_6 : decode cX10_type 6 = .ok (.iconst 0, 1) := by decide +kernel
theorem dX10_type_7 : decode cX10_type 7 = .ok (.sipush 255, 3) := by decide +kernel
theorem dX10_type_10 : decode cX10_type 10 = .ok (.invokestatic 66, 3) := by decide +kernel
theorem dX10_type_13 : decode cX10_type 13 = .ok (.ifCond .ne 5, 3) := by decide +kernel
theorem dX10_type_16 : decode cX10_type 16 = .ok (.iconst (-1), 1) := by decide +kernel
theorem dX10_type_17 : decode cX10_type 17 = .ok (.ireturn, 1) := by decide +kernel
theorem dX10_type_18 : decode cX10_type 18 = .ok (.aload_n 0, 1) := by decide +kernel
theorem dX10_type_19 : decode cX10_type 19 = .ok (.getfield 70, 3) := by decide +kernel
theorem dX10_type_22 : decode cX10_type 22 = .ok (.sipush 200, 3) := by decide +kernel
theorem dX10_type_25 : decode cX10_type 25 = .ok (.if_icmp .ne 6, 3) := by decide +kernel
theorem dX10_type_28 : decode cX10_type 28 = .ok (.bipush (-3), 2) := by decide +kernel
theorem dX10_type_30 : decode cX10_type 30 = .ok (.ireturn, 1) := by decide +kernel
theorem dX10_type_31 : decode cX10_type 31 = .ok (.aload_n 0, 1) := by decide +kernel
theorem dX10_type_32 : decode cX10_type 32 = .ok (.getfield 7, 3) := by decide +kernel
theorem dX10_type_35 : decode cX10_type 35 = .ok (.aload_n 0, 1) := by decide +kernel
theorem dX10_type_36 : decode cX10_type 36 = .ok (.getfield 70, 3) := by decide +kernel
theorem dX10_type_39 : decode cX10_type 39 = .ok (.iload_n 1, 1) := by decide +kernel
theorem dX10_type_40 : decode cX10_type 40 = .ok (.iastore, 1) := by decide +kernel
theorem dX10_type_41 : decode cX10_type 41 = .ok (.aload_n 0, 1) := by decide +kernel
theorem dX10_type_42 : decode cX10_type 42 = .ok (.dup, 1) := by decide +kernel
theorem dX10_type_43 : decode cX10_type 43 = .ok (.getfield 70, 3) := by decide +kernel
theorem dX10_type_46 : decode cX10_type 46 = .ok (.iconst 1, 1) := by decide +kernel
theorem dX10_type_47 : decode cX10_type 47 = .ok (.iadd, 1) := by decide +kernel
theorem dX10_type_48 : decode cX10_type 48 = .ok (.putfield 70, 3) := by decide +kernel
theorem dX10_type_51 : decode cX10_type 51 = .ok (.aload_n 0, 1) := by decide +kernel
theorem dX10_type_52 : decode cX10_type 52 = .ok (.getfield 70, 3) := by decide +kernel
theorem dX10_type_55 : decode cX10_type 55 = .ok (.ireturn, 1) := by decide +kernel
theorem dX10_clear_0 : decode cX10_clear 0 = .ok (.aload_n 0, 1) := by decide +kernel
theorem dX10_clear_1 : decode cX10_clear 1 = .ok (.iconst 0, 1) := by decide +kernel
theorem dX10_clear_2 : decode cX10_clear 2 = .ok (.putfield 62, 3) := by decide +kernel
theorem dX10_clear_5 : decode cX10_clear 5 = .ok (.aload_n 0, 1) := by decide +kernel
theorem dX10_clear_6 : decode cX10_clear 6 = .ok (.getfield 70, 3) := by decide +kernel
theorem dX10_clear_9 : decode cX10_clear 9 = .ok (.istore_n 1, 1) := by decide +kernel
theorem dX10_clear_10 : decode cX10_clear 10 = .ok (.aload_n 0, 1) := by decide +kernel
theorem dX10_clear_11 : decode cX10_clear 11 = .ok (.iconst 0, 1) := by decide +kernel
theorem dX10_clear_12 : decode cX10_clear 12 = .ok (.putfield 70, 3) := by decide +kernel
theorem dX10_clear_15 : decode cX10_clear 15 = .ok (.iload_n 1, 1) := by decide +kernel
theorem dX10_clear_16 : decode cX10_clear 16 = .ok (.ireturn, 1) := by decide +kernel
theorem dX10_letterAt_0 : decode cX10_letterAt 0 = .ok (.iload_n 1, 1) := by decide +kernel
theorem dX10_letterAt_1 : decode cX10_letterAt 1 = .ok (.aload_n 0, 1) := by decide +kernel
theorem dX10_letterAt_2 : decode cX10_letterAt 2 = .ok (.getfield 70, 3) := by decide +kernel
theorem dX10_letterAt_5 : decode cX10_letterAt 5 = .ok (.if_icmp .ge 12, 3) := by decide +kernel
theorem dX10_letterAt_8 : decode cX10_letterAt 8 = .ok (.aload_n 0, 1) := by decide +kernel
theorem dX10_letterAt_9 : decode cX10_letterAt 9 = .ok (.getfield 7, 3) := by decide +kernel
theorem dX10_letterAt_12 : decode cX10_letterAt 12 = .ok (.iload_n 1, 1) := by decide +kernel
theorem dX10_letterAt_13 : decode cX10_letterAt 13 = .ok (.iaload, 1) := by decide +kernel
theorem dX10_letterAt_14 : decode cX10_letterAt 14 = .ok (.goto 4, 3) := by decide +kernel
theorem dX10_letterAt_17 : decode cX10_letterAt 17 = .ok (.iconst (-1), 1) := by decide +kernel
theorem dX10_letterAt_18 : decode cX10_letterAt 18 = .ok (.ireturn, 1) := by decide +kernel
theorem dX10_isLetter_0 : decode cX10_isLetter 0 = .ok (.iload_n 0, 1) := by decide +kernel
theorem dX10_isLetter_1 : decode cX10_isLetter 1 = .ok (.bipush 119, 2) := by decide +kernel
theorem dX10_isLetter_3 : decode cX10_isLetter 3 = .ok (.if_icmp .eq 27, 3) := by decide +kernel
theorem dX10_isLetter_6 : decode cX10_isLetter 6 = .ok (.iload_n 0, 1) := by decide +kernel
theorem dX10_isLetter_7 : decode cX10_isLetter 7 = .ok (.bipush 112, 2) := by decide +kernel
theorem dX10_isLetter_9 : decode cX10_isLetter 9 = .ok (.if_icmp .eq 21, 3) := by decide +kernel
theorem dX10_isLetter_12 : decode cX10_isLetter 12 = .ok (.iload_n 0, 1) := by decide +kernel
theorem dX10_isLetter_13 : decode cX10_isLetter 13 = .ok (.bipush 100, 2) := by decide +kernel
theorem dX10_isLetter_15 : decode cX10_isLetter 15 = .ok (.if_icmp .eq 15, 3) := by decide +kernel
theorem dX10_isLetter_18 : decode cX10_isLetter 18 = .ok (.iload_n 0, 1) := by decide +kernel
theorem dX10_isLetter_19 : decode cX10_isLetter 19 = .ok (.bipush 103, 2) := by decide +kernel
theorem dX10_isLetter_21 : decode cX10_isLetter 21 = .ok (.if_icmp .eq 9, 3) := by decide +kernel
theorem dX10_isLetter_24 : decode cX10_isLetter 24 = .ok (.iload_n 0, 1) := by decide +kernel
theorem dX10_isLetter_25 : decode cX10_isLetter 25 = .ok (.bipush 102, 2) := by decide +kernel
theorem dX10_isLetter_27 : decode cX10_isLetter 27 = .ok (.if_icmp .ne 7, 3) := by decide +kernel
theorem dX10_isLetter_30 : decode cX10_isLetter 30 = .ok (.iconst 1, 1) := by decide +kernel
theorem dX10_isLetter_31 : decode cX10_isLetter 31 = .ok (.goto 4, 3) := by decide +kernel
theorem dX10_isLetter_34 : decode cX10_isLetter 34 = .ok (.iconst 0, 1) := by decide +kernel
theorem dX10_isLetter_35 : decode cX10_isLetter 35 = .ok (.ireturn, 1) := by decide +kernel
theorem dX10_advances_0 : decode cX10_advances 0 = .ok (.aload_n 0, 1) := by decide +kernel
theorem dX10_advances_1 : decode cX10_advances 1 = .ok (.aload_n 0, 1) := by decide +kernel
theorem dX10_advances_2 : decode cX10_advances 2 = .ok (.getfield 73, 3) := by decide +kernel
theorem dX10_advances_5 : decode cX10_advances 5 = .ok (.invokevirtual 76, 3) := by decide +kernel
theorem dX10_advances_8 : decode cX10_advances 8 = .ok (.bipush 32, 2) := by decide +kernel
theorem dX10_advances_10 : decode cX10_advances 10 = .ok (.if_icmp .ne 16, 3) := by decide +kernel
theorem dX10_advances_13 : decode cX10_advances 13 = .ok (.aload_n 0, 1) := by decide +kernel
theorem dX10_advances_14 : decode cX10_advances 14 = .ok (.dup, 1) := by decide +kernel
theorem dX10_advances_15 : decode cX10_advances 15 = .ok (.getfield 73, 3) := by decide +kernel
theorem dX10_advances_18 : decode cX10_advances 18 = .ok (.iconst 1, 1) := by decide +kernel
theorem dX10_advances_19 : decode cX10_advances 19 = .ok (.iadd, 1) := by decide +kernel
theorem dX10_advances_20 : decode cX10_advances 20 = .ok (.putfield 73, 3) := by decide +kernel
theorem dX10_advances_23 : decode cX10_advances 23 = .ok (.goto (-23), 3) := by decide +kernel
theorem dX10_advances_26 : decode cX10_advances 26 = .ok (.aload_n 0, 1) := by decide +kernel
theorem dX10_advances_27 : decode cX10_advances 27 = .ok (.aload_n 0, 1) := by decide +kernel
theorem dX10_advances_28 : decode cX10_advances 28 = .ok (.getfield 73, 3) := by decide +kernel
theorem dX10_advances_31 : decode cX10_advances 31 = .ok (.putfield 80, 3) := by decide +kernel
theorem dX10_advances_34 : decode cX10_advances 34 = .ok (.aload_n 0, 1) := by decide +kernel
theorem dX10_advances_35 : decode cX10_advances 35 = .ok (.aload_n 0, 1) := by decide +kernel
theorem dX10_advances_36 : decode cX10_advances 36 = .ok (.getfield 73, 3) := by decide +kernel
theorem dX10_advances_39 : decode cX10_advances 39 = .ok (.invokevirtual 76, 3) := by decide +kernel
theorem dX10_advances_42 : decode cX10_advances 42 = .ok (.istore_n 1, 1) := by decide +kernel
theorem dX10_advances_43 : decode cX10_advances 43 = .ok (.iload_n 1, 1) := by decide +kernel
theorem dX10_advances_44 : decode cX10_advances 44 = .ok (.ifCond .ge 11, 3) := by decide +kernel
theorem dX10_advances_47 : decode cX10_advances 47 = .ok (.aload_n 0, 1) := by decide +kernel
theorem dX10_advances_48 : decode cX10_advances 48 = .ok (.iconst 0, 1) := by decide +kernel
theorem dX10_advances_49 : decode cX10_advances 49 = .ok (.putfield 83, 3) := by decide +kernel
theorem dX10_advances_52 : decode cX10_advances 52 = .ok (.goto 172, 3) := by decide +kernel
theorem dX10_advances_55 : decode cX10_advances 55 = .ok (.iload_n 1, 1) := by decide +kernel
theorem dX10_advances_56 : decode cX10_advances 56 = .ok (.bipush 48, 2) := by decide +kernel
end
section
theorem dX10_advances_58 : decode cX10_advances 58 = .ok (.bipush 57, 2) := by decide +kernel
theorem dX10_advances_60 : decode cX10_advances 60 = .ok (.invokestatic 66, 3) := by decide +kernel
theorem dX10_advances_63 : decode cX10_advances 63 = .ok (.ifCond .eq 120, 3) := by decide +kernel
theorem dX10_advances_66 : decode cX10_advances 66 = .ok (.aload_n 0, 1) := by decide +kernel
theorem dX10_advances_67 : decode cX10_advances 67 = .ok (.iconst 0, 1) := by decide +kernel
theorem dX10_advances_68 : decode cX10_advances 68 = .ok (.putfield 86, 3) := by decide +kernel
theorem dX10_advances_71 : decode cX10_advances 71 = .ok (.aload_n 0, 1) := by decide +kernel
theorem dX10_advances_72 : decode cX10_advances 72 = .ok (.aload_n 0, 1) := by decide +kernel
theorem dX10_advances_73 : decode cX10_advances 73 = .ok (.getfield 73, 3) := by decide +kernel
theorem dX10_advances_76 : decode cX10_advances 76 = .ok (.invokevirtual 76, 3) := by decide +kernel
theorem dX10_advances_79 : decode cX10_advances 79 = .ok (.bipush 48, 2) := by decide +kernel
theorem dX10_advances_81 : decode cX10_advances 81 = .ok (.bipush 57, 2) := by decide +kernel
theorem dX10_advances_83 : decode cX10_advances 83 = .ok (.invokestatic 66, 3) := by decide +kernel
theorem dX10_advances_86 : decode cX10_advances 86 = .ok (.ifCond .eq 56, 3) := by decide +kernel
theorem dX10_advances_89 : decode cX10_advances 89 = .ok (.aload_n 0, 1) := by decide +kernel
theorem dX10_advances_90 : decode cX10_advances 90 = .ok (.aload_n 0, 1) := by decide +kernel
theorem dX10_advances_91 : decode cX10_advances 91 = .ok (.getfield 86, 3) := by decide +kernel
theorem dX10_advances_94 : decode cX10_advances 94 = .ok (.sipush 239, 3) := by decide +kernel
theorem dX10_advances_97 : decode cX10_advances 97 = .ok (.if_icmp .le 10, 3) := by decide +kernel
theorem dX10_advances_100 : decode cX10_advances 100 = .ok (.aload_n 0, 1) := by decide +kernel
theorem dX10_advances_101 : decode cX10_advances 101 = .ok (.getfield 86, 3) := by decide +kernel
theorem dX10_advances_104 : decode cX10_advances 104 = .ok (.goto 22, 3) := by decide +kernel
theorem dX10_advances_107 : decode cX10_advances 107 = .ok (.bipush 10, 2) := by decide +kernel
theorem dX10_advances_109 : decode cX10_advances 109 = .ok (.aload_n 0, 1) := by decide +kernel
theorem dX10_advances_110 : decode cX10_advances 110 = .ok (.getfield 86, 3) := by decide +kernel
theorem dX10_advances_113 : decode cX10_advances 113 = .ok (.imul, 1) := by decide +kernel
theorem dX10_advances_114 : decode cX10_advances 114 = .ok (.aload_n 0, 1) := by decide +kernel
theorem dX10_advances_115 : decode cX10_advances 115 = .ok (.aload_n 0, 1) := by decide +kernel
theorem dX10_advances_116 : decode cX10_advances 116 = .ok (.getfield 73, 3) := by decide +kernel
theorem dX10_advances_119 : decode cX10_advances 119 = .ok (.invokevirtual 76, 3) := by decide +kernel
theorem dX10_advances_122 : decode cX10_advances 122 = .ok (.iadd, 1) := by decide +kernel
theorem dX10_advances_123 : decode cX10_advances 123 = .ok (.bipush 48, 2) := by decide +kernel
theorem dX10_advances_125 : decode cX10_advances 125 = .ok (.isub, 1) := by decide +kernel
theorem dX10_advances_126 : decode cX10_advances 126 = .ok (.putfield 86, 3) := by decide +kernel
theorem dX10_advances_129 : decode cX10_advances 129 = .ok (.aload_n 0, 1) := by decide +kernel
theorem dX10_advances_130 : decode cX10_advances 130 = .ok (.dup, 1) := by decide +kernel
theorem dX10_advances_131 : decode cX10_advances 131 = .ok (.getfield 73, 3) := by decide +kernel
theorem dX10_advances_134 : decode cX10_advances 134 = .ok (.iconst 1, 1) := by decide +kernel
theorem dX10_advances_135 : decode cX10_advances 135 = .ok (.iadd, 1) := by decide +kernel
theorem dX10_advances_136 : decode cX10_advances 136 = .ok (.putfield 73, 3) := by decide +kernel
theorem dX10_advances_139 : decode cX10_advances 139 = .ok (.goto (-68), 3) := by decide +kernel
theorem dX10_advances_142 : decode cX10_advances 142 = .ok (.aload_n 0, 1) := by decide +kernel
theorem dX10_advances_143 : decode cX10_advances 143 = .ok (.aload_n 0, 1) := by decide +kernel
theorem dX10_advances_144 : decode cX10_advances 144 = .ok (.getfield 86, 3) := by decide +kernel
theorem dX10_advances_147 : decode cX10_advances 147 = .ok (.sipush 239, 3) := by decide +kernel
theorem dX10_advances_150 : decode cX10_advances 150 = .ok (.if_icmp .gt 22, 3) := by decide +kernel
theorem dX10_advances_153 : decode cX10_advances 153 = .ok (.iload_n 1, 1) := by decide +kernel
theorem dX10_advances_154 : decode cX10_advances 154 = .ok (.bipush 48, 2) := by decide +kernel
theorem dX10_advances_156 : decode cX10_advances 156 = .ok (.if_icmp .ne 20, 3) := by decide +kernel
theorem dX10_advances_159 : decode cX10_advances 159 = .ok (.aload_n 0, 1) := by decide +kernel
theorem dX10_advances_160 : decode cX10_advances 160 = .ok (.getfield 73, 3) := by decide +kernel
theorem dX10_advances_163 : decode cX10_advances 163 = .ok (.aload_n 0, 1) := by decide +kernel
theorem dX10_advances_164 : decode cX10_advances 164 = .ok (.getfield 80, 3) := by decide +kernel
theorem dX10_advances_167 : decode cX10_advances 167 = .ok (.isub, 1) := by decide +kernel
theorem dX10_advances_168 : decode cX10_advances 168 = .ok (.iconst 1, 1) := by decide +kernel
theorem dX10_advances_169 : decode cX10_advances 169 = .ok (.if_icmp .le 7, 3) := by decide +kernel
theorem dX10_advances_172 : decode cX10_advances 172 = .ok (.iconst 4, 1) := by decide +kernel
theorem dX10_advances_173 : decode cX10_advances 173 = .ok (.goto 4, 3) := by decide +kernel
theorem dX10_advances_176 : decode cX10_advances 176 = .ok (.iconst 2, 1) := by decide +kernel
theorem dX10_advances_177 : decode cX10_advances 177 = .ok (.putfield 83, 3) := by decide +kernel
theorem dX10_advances_180 : decode cX10_advances 180 = .ok (.goto 44, 3) := by decide +kernel
theorem dX10_advances_183 : decode cX10_advances 183 = .ok (.aload_n 0, 1) := by decide +kernel
theorem dX10_advances_184 : decode cX10_advances 184 = .ok (.dup, 1) := by decide +kernel
theorem dX10_advances_185 : decode cX10_advances 185 = .ok (.getfield 73, 3) := by decide +kernel
theorem dX10_advances_188 : decode cX10_advances 188 = .ok (.iconst 1, 1) := by decide +kernel
theorem dX10_advances_189 : decode cX10_advances 189 = .ok (.iadd, 1) := by decide +kernel
theorem dX10_advances_190 : decode cX10_advances 190 = .ok (.putfield 73, 3) := by decide +kernel
theorem dX10_advances_193 : decode cX10_advances 193 = .ok (.aload_n 0, 1) := by decide +kernel
theorem dX10_advances_194 : decode cX10_advances 194 = .ok (.iload_n 1, 1) := by decide +kernel
theorem dX10_advances_195 : decode cX10_advances 195 = .ok (.putfield 86, 3) := by decide +kernel
theorem dX10_advances_198 : decode cX10_advances 198 = .ok (.aload_n 0, 1) := by decide +kernel
theorem dX10_advances_199 : decode cX10_advances 199 = .ok (.iload_n 1, 1) := by decide +kernel
theorem dX10_advances_200 : decode cX10_advances 200 = .ok (.bipush 59, 2) := by decide +kernel
theorem dX10_advances_202 : decode cX10_advances 202 = .ok (.if_icmp .ne 7, 3) := by decide +kernel
theorem dX10_advances_205 : decode cX10_advances 205 = .ok (.iconst 3, 1) := by decide +kernel
theorem dX10_advances_206 : decode cX10_advances 206 = .ok (.goto 15, 3) := by decide +kernel
theorem dX10_advances_209 : decode cX10_advances 209 = .ok (.iload_n 1, 1) := by decide +kernel
theorem dX10_advances_210 : decode cX10_advances 210 = .ok (.invokestatic 89, 3) := by decide +kernel
theorem dX10_advances_213 : decode cX10_advances 213 = .ok (.ifCond .eq 7, 3) := by decide +kernel
theorem dX10_advances_216 : decode cX10_advances 216 = .ok (.iconst 1, 1) := by decide +kernel
theorem dX10_advances_217 : decode cX10_advances 217 = .ok (.goto 4, 3) := by decide +kernel
theorem dX10_advances_220 : decode cX10_advances 220 = .ok (.iconst 4, 1) := by decide +kernel
theorem dX10_advances_221 : decode cX10_advances 221 = .ok (.putfield 83, 3) := by decide +kernel
theorem dX10_advances_224 : decode cX10_advances 224 = .ok (.return_, 1) := by decide +kernel
theorem dX10_isWell_0 : decode cX10_isWell 0 = .ok (.aload_n 0, 1) := by decide +kernel
theorem dX10_isWell_1 : decode cX10_isWell 1 = .ok (.getfield 93, 3) := by decide +kernel
theorem dX10_isWell_4 : decode cX10_isWell 4 = .ok (.ifCond .ge 7, 3) := by decide +kernel
theorem dX10_isWell_7 : decode cX10_isWell 7 = .ok (.iconst 1, 1) := by decide +kernel
theorem dX10_isWell_8 : decode cX10_isWell 8 = .ok (.goto 4, 3) := by decide +kernel
theorem dX10_isWell_11 : decode cX10_isWell 11 = .ok (.iconst 0, 1) := by decide +kernel
theorem dX10_isWell_12 : decode cX10_isWell 12 = .ok (.ireturn, 1) := by decide +kernel
theorem dX10_takes_0 : decode cX10_takes 0 = .ok (.aload_n 0, 1) := by decide +kernel
theorem dX10_takes_1 : decode cX10_takes 1 = .ok (.invokevirtual 96, 3) := by decide +kernel
theorem dX10_takes_4 : decode cX10_takes 4 = .ok (.ifCond .ne 5, 3) := by decide +kernel
theorem dX10_takes_7 : decode cX10_takes 7 = .ok (.iconst 0, 1) := by decide +kernel
theorem dX10_takes_8 : decode cX10_takes 8 = .ok (.ireturn, 1) := by decide +kernel
theorem dX10_takes_9 : decode cX10_takes 9 = .ok (.iload_n 1, 1) := by decide +kernel
theorem dX10_takes_10 : decode cX10_takes 10 = .ok (.ifCond .ne 13, 3) := by decide +kernel
theorem dX10_takes_13 : decode cX10_takes 13 = .ok (.aload_n 0, 1) := by decide +kernel
theorem dX10_takes_14 : decode cX10_takes 14 = .ok (.aload_n 0, 1) := by decide +kernel
theorem dX10_takes_15 : decode cX10_takes 15 = .ok (.getfield 80, 3) := by decide +kernel
theorem dX10_takes_18 : decode cX10_takes 18 = .ok (.putfield 93, 3) := by decide +kernel
theorem dX10_takes_21 : decode cX10_takes 21 = .ok (.iconst 0, 1) := by decide +kernel
theorem dX10_takes_22 : decode cX10_takes 22 = .ok (.ireturn, 1) := by decide +kernel
theorem dX10_takes_23 : decode cX10_takes 23 = .ok (.aload_n 0, 1) := by decide +kernel
theorem dX10_takes_24 : decode cX10_takes 24 = .ok (.getfield 86, 3) := by decide +kernel
theorem dX10_takes_27 : decode cX10_takes 27 = .ok (.istore_n 2, 1) := by decide +kernel
theorem dX10_takes_28 : decode cX10_takes 28 = .ok (.aload_n 0, 1) := by decide +kernel
theorem dX10_takes_29 : decode cX10_takes 29 = .ok (.invokevirtual 100, 3) := by decide +kernel
theorem dX10_takes_32 : decode cX10_takes 32 = .ok (.iload_n 2, 1) := by decide +kernel
theorem dX10_takes_33 : decode cX10_takes 33 = .ok (.ireturn, 1) := by decide +kernel
theorem dX10_number_0 : decode cX10_number 0 = .ok (.aload_n 0, 1) := by decide +kernel
theorem dX10_number_1 : decode cX10_number 1 = .ok (.aload_n 0, 1) := by decide +kernel
theorem dX10_number_2 : decode cX10_number 2 = .ok (.getfield 83, 3) := by decide +kernel
theorem dX10_number_5 : decode cX10_number 5 = .ok (.iconst 2, 1) := by decide +kernel
theorem dX10_number_6 : decode cX10_number 6 = .ok (.if_icmp .ne 19, 3) := by decide +kernel
theorem dX10_number_9 : decode cX10_number 9 = .ok (.aload_n 0, 1) := by decide +kernel
theorem dX10_number_10 : decode cX10_number 10 = .ok (.getfield 86, 3) := by decide +kernel
theorem dX10_number_13 : decode cX10_number 13 = .ok (.iload_n 1, 1) := by decide +kernel
theorem dX10_number_14 : decode cX10_number 14 = .ok (.iload_n 2, 1) := by decide +kernel
theorem dX10_number_15 : decode cX10_number 15 = .ok (.invokestatic 66, 3) := by decide +kernel
theorem dX10_number_18 : decode cX10_number 18 = .ok (.ifCond .eq 7, 3) := by decide +kernel
theorem dX10_number_21 : decode cX10_number 21 = .ok (.iconst 1, 1) := by decide +kernel
theorem dX10_number_22 : decode cX10_number 22 = .ok (.goto 4, 3) := by decide +kernel
theorem dX10_number_25 : decode cX10_number 25 = .ok (.iconst 0, 1) := by decide +kernel
theorem dX10_number_26 : decode cX10_number 26 = .ok (.invokevirtual 103, 3) := by decide +kernel
theorem dX10_number_29 : decode cX10_number 29 = .ok (.ireturn, 1) := by decide +kernel
theorem dX10_begins_0 : decode cX10_begins 0 = .ok (.aload_n 0, 1) := by decide +kernel
theorem dX10_begins_1 : decode cX10_begins 1 = .ok (.iconst 0, 1) := by decide +kernel
theorem dX10_begins_2 : decode cX10_begins 2 = .ok (.putfield 107, 3) := by decide +kernel
theorem dX10_begins_5 : decode cX10_begins 5 = .ok (.aload_n 0, 1) := by decide +kernel
theorem dX10_begins_6 : decode cX10_begins 6 = .ok (.getfield 13, 3) := by decide +kernel
theorem dX10_begins_9 : decode cX10_begins 9 = .ok (.iconst 5, 1) := by decide +kernel
theorem dX10_begins_10 : decode cX10_begins 10 = .ok (.iconst 2, 1) := by decide +kernel
theorem dX10_begins_11 : decode cX10_begins 11 = .ok (.iastore, 1) := by decide +kernel
theorem dX10_begins_12 : decode cX10_begins 12 = .ok (.aload_n 0, 1) := by decide +kernel
theorem dX10_begins_13 : decode cX10_begins 13 = .ok (.getfield 13, 3) := by decide +kernel
theorem dX10_begins_16 : decode cX10_begins 16 = .ok (.bipush 6, 2) := by decide +kernel
theorem dX10_begins_18 : decode cX10_begins 18 = .ok (.iconst 0, 1) := by decide +kernel
theorem dX10_begins_19 : decode cX10_begins 19 = .ok (.iastore, 1) := by decide +kernel
theorem dX10_begins_20 : decode cX10_begins 20 = .ok (.aload_n 0, 1) := by decide +kernel
theorem dX10_begins_21 : decode cX10_begins 21 = .ok (.getfield 13, 3) := by decide +kernel
theorem dX10_begins_24 : decode cX10_begins 24 = .ok (.bipush 7, 2) := by decide +kernel
theorem dX10_begins_26 : decode cX10_begins 26 = .ok (.iconst 0, 1) := by decide +kernel
theorem dX10_begins_27 : decode cX10_begins 27 = .ok (.iastore, 1) := by decide +kernel
theorem dX10_begins_28 : decode cX10_begins 28 = .ok (.aload_n 0, 1) := by decide +kernel
theorem dX10_begins_29 : decode cX10_begins 29 = .ok (.getfield 13, 3) := by decide +kernel
theorem dX10_begins_32 : decode cX10_begins 32 = .ok (.bipush 8, 2) := by decide +kernel
theorem dX10_begins_34 : decode cX10_begins 34 = .ok (.iconst 2, 1) := by decide +kernel
theorem dX10_begins_35 : decode cX10_begins 35 = .ok (.iastore, 1) := by decide +kernel
theorem dX10_begins_36 : decode cX10_begins 36 = .ok (.aload_n 0, 1) := by decide +kernel
theorem dX10_begins_37 : decode cX10_begins 37 = .ok (.getfield 13, 3) := by decide +kernel
theorem dX10_begins_40 : decode cX10_begins 40 = .ok (.bipush 9, 2) := by decide +kernel
theorem dX10_begins_42 : decode cX10_begins 42 = .ok (.iconst 3, 1) := by decide +kernel
theorem dX10_begins_43 : decode cX10_begins 43 = .ok (.iastore, 1) := by decide +kernel
theorem dX10_begins_44 : decode cX10_begins 44 = .ok (.return_, 1) := by decide +kernel
theorem dX10_mayBegin_0 : decode cX10_mayBegin 0 = .ok (.aload_n 0, 1) := by decide +kernel
theorem dX10_mayBegin_1 : decode cX10_mayBegin 1 = .ok (.getfield 86, 3) := by decide +kernel
theorem dX10_mayBegin_4 : decode cX10_mayBegin 4 = .ok (.bipush 119, 2) := by decide +kernel
theorem dX10_mayBegin_6 : decode cX10_mayBegin 6 = .ok (.if_icmp .ne 13, 3) := by decide +kernel
theorem dX10_mayBegin_9 : decode cX10_mayBegin 9 = .ok (.iload_n 1, 1) := by decide +kernel
theorem dX10_mayBegin_10 : decode cX10_mayBegin 10 = .ok (.ifCond .ne 7, 3) := by decide +kernel
theorem dX10_mayBegin_13 : decode cX10_mayBegin 13 = .ok (.iconst 1, 1) := by decide +kernel
theorem dX10_mayBegin_14 : decode cX10_mayBegin 14 = .ok (.goto 4, 3) := by decide +kernel
theorem dX10_mayBegin_17 : decode cX10_mayBegin 17 = .ok (.iconst 0, 1) := by decide +kernel
theorem dX10_mayBegin_18 : decode cX10_mayBegin 18 = .ok (.ireturn, 1) := by decide +kernel
theorem dX10_mayBegin_19 : decode cX10_mayBegin 19 = .ok (.aload_n 0, 1) := by decide +kernel
theorem dX10_mayBegin_20 : decode cX10_mayBegin 20 = .ok (.getfield 86, 3) := by decide +kernel
theorem dX10_mayBegin_23 : decode cX10_mayBegin 23 = .ok (.bipush 112, 2) := by decide +kernel
theorem dX10_mayBegin_25 : decode cX10_mayBegin 25 = .ok (.if_icmp .eq 12, 3) := by decide +kernel
theorem dX10_mayBegin_28 : decode cX10_mayBegin 28 = .ok (.aload_n 0, 1) := by decide +kernel
theorem dX10_mayBegin_29 : decode cX10_mayBegin 29 = .ok (.getfield 86, 3) := by decide +kernel
theorem dX10_mayBegin_32 : decode cX10_mayBegin 32 = .ok (.bipush 100, 2) := by decide +kernel
theorem dX10_mayBegin_34 : decode cX10_mayBegin 34 = .ok (.if_icmp .ne 49, 3) := by decide +kernel
theorem dX10_mayBegin_37 : decode cX10_mayBegin 37 = .ok (.aload_n 0, 1) := by decide +kernel
theorem dX10_mayBegin_38 : decode cX10_mayBegin 38 = .ok (.getfield 86, 3) := by decide +kernel
theorem dX10_mayBegin_41 : decode cX10_mayBegin 41 = .ok (.bipush 112, 2) := by decide +kernel
theorem dX10_mayBegin_43 : decode cX10_mayBegin 43 = .ok (.if_icmp .ne 22, 3) := by decide +kernel
theorem dX10_mayBegin_46 : decode cX10_mayBegin 46 = .ok (.aload_n 0, 1) := by decide +kernel
theorem dX10_mayBegin_47 : decode cX10_mayBegin 47 = .ok (.getfield 13, 3) := by decide +kernel
theorem dX10_mayBegin_50 : decode cX10_mayBegin 50 = .ok (.bipush 6, 2) := by decide +kernel
theorem dX10_mayBegin_52 : decode cX10_mayBegin 52 = .ok (.iaload, 1) := by decide +kernel
theorem dX10_mayBegin_53 : decode cX10_mayBegin 53 = .ok (.iconst 5, 1) := by decide +kernel
theorem dX10_mayBegin_54 : decode cX10_mayBegin 54 = .ok (.if_icmp .ge 7, 3) := by decide +kernel
theorem dX10_mayBegin_57 : decode cX10_mayBegin 57 = .ok (.iconst 1, 1) := by decide +kernel
theorem dX10_mayBegin_58 : decode cX10_mayBegin 58 = .ok (.goto 24, 3) := by decide +kernel
theorem dX10_mayBegin_61 : decode cX10_mayBegin 61 = .ok (.iconst 0, 1) := by decide +kernel
theorem dX10_mayBegin_62 : decode cX10_mayBegin 62 = .ok (.goto 20, 3) := by decide +kernel
theorem dX10_mayBegin_65 : decode cX10_mayBegin 65 = .ok (.aload_n 0, 1) := by decide +kernel
theorem dX10_mayBegin_66 : decode cX10_mayBegin 66 = .ok (.getfield 13, 3) := by decide +kernel
theorem dX10_mayBegin_69 : decode cX10_mayBegin 69 = .ok (.bipush 7, 2) := by decide +kernel
theorem dX10_mayBegin_71 : decode cX10_mayBegin 71 = .ok (.iaload, 1) := by decide +kernel
theorem dX10_mayBegin_72 : decode cX10_mayBegin 72 = .ok (.bipush 8, 2) := by decide +kernel
theorem dX10_mayBegin_74 : decode cX10_mayBegin 74 = .ok (.if_icmp .ge 7, 3) := by decide +kernel
theorem dX10_mayBegin_77 : decode cX10_mayBegin 77 = .ok (.iconst 1, 1) := by decide +kernel
theorem dX10_mayBegin_78 : decode cX10_mayBegin 78 = .ok (.goto 4, 3) := by decide +kernel
theorem dX10_mayBegin_81 : decode cX10_mayBegin 81 = .ok (.iconst 0, 1) := by decide +kernel
theorem dX10_mayBegin_82 : decode cX10_mayBegin 82 = .ok (.ireturn, 1) := by decide +kernel
theorem dX10_mayBegin_83 : decode cX10_mayBegin 83 = .ok (.aload_n 0, 1) := by decide +kernel
theorem dX10_mayBegin_84 : decode cX10_mayBegin 84 = .ok (.getfield 107, 3) := by decide +kernel
theorem dX10_mayBegin_87 : decode cX10_mayBegin 87 = .ok (.aload_n 0, 1) := by decide +kernel
theorem dX10_mayBegin_88 : decode cX10_mayBegin 88 = .ok (.getfield 86, 3) := by decide +kernel
theorem dX10_mayBegin_91 : decode cX10_mayBegin 91 = .ok (.bipush 103, 2) := by decide +kernel
theorem dX10_mayBegin_93 : decode cX10_mayBegin 93 = .ok (.if_icmp .ne 7, 3) := by decide +kernel
theorem dX10_mayBegin_96 : decode cX10_mayBegin 96 = .ok (.iconst 1, 1) := by decide +kernel
theorem dX10_mayBegin_97 : decode cX10_mayBegin 97 = .ok (.goto 4, 3) := by decide +kernel
theorem dX10_mayBegin_100 : decode cX10_mayBegin 100 = .ok (.iconst 2, 1) := by decide +kernel
theorem dX10_mayBegin_101 : decode cX10_mayBegin 101 = .ok (.iand, 1) := by decide +kernel
theorem dX10_mayBegin_102 : decode cX10_mayBegin 102 = .ok (.ifCond .ne 7, 3) := by decide +kernel
theorem dX10_mayBegin_105 : decode cX10_mayBegin 105 = .ok (.iconst 1, 1) := by decide +kernel
theorem dX10_mayBegin_106 : decode cX10_mayBegin 106 = .ok (.goto 4, 3) := by decide +kernel
theorem dX10_mayBegin_109 : decode cX10_mayBegin 109 = .ok (.iconst 0, 1) := by decide +kernel
theorem dX10_mayBegin_110 : decode cX10_mayBegin 110 = .ok (.ireturn, 1) := by decide +kernel
theorem dX10_readsItem_0 : decode cX10_readsItem 0 = .ok (.aload_n 0, 1) := by decide +kernel
theorem dX10_readsItem_1 : decode cX10_readsItem 1 = .ok (.getfield 13, 3) := by decide +kernel
theorem dX10_readsItem_4 : decode cX10_readsItem 4 = .ok (.iconst 5, 1) := by decide +kernel
theorem dX10_readsItem_5 : decode cX10_readsItem 5 = .ok (.iaload, 1) := by decide +kernel
theorem dX10_readsItem_6 : decode cX10_readsItem 6 = .ok (.iconst 1, 1) := by decide +kernel
theorem dX10_readsItem_7 : decode cX10_readsItem 7 = .ok (.isub, 1) := by decide +kernel
theorem dX10_readsItem_8 : decode cX10_readsItem 8 = .ok (.istore_n 2, 1) := by decide +kernel
theorem dX10_readsItem_9 : decode cX10_readsItem 9 = .ok (.iload_n 1, 1) := by decide +kernel
theorem dX10_readsItem_10 : decode cX10_readsItem 10 = .ok (.bipush 119, 2) := by decide +kernel
theorem dX10_readsItem_12 : decode cX10_readsItem 12 = .ok (.if_icmp .ne 19, 3) := by decide +kernel
theorem dX10_readsItem_15 : decode cX10_readsItem 15 = .ok (.aload_n 0, 1) := by decide +kernel
theorem dX10_readsItem_16 : decode cX10_readsItem 16 = .ok (.getfield 13, 3) := by decide +kernel
theorem dX10_readsItem_19 : decode cX10_readsItem 19 = .ok (.iconst 5, 1) := by decide +kernel
theorem dX10_readsItem_20 : decode cX10_readsItem 20 = .ok (.aload_n 0, 1) := by decide +kernel
theorem dX10_readsItem_21 : decode cX10_readsItem 21 = .ok (.iconst 2, 1) := by decide +kernel
theorem dX10_readsItem_22 : decode cX10_readsItem 22 = .ok (.bipush 6, 2) := by decide +kernel
theorem dX10_readsItem_24 : decode cX10_readsItem 24 = .ok (.invokevirtual 110, 3) := by decide +kernel
theorem dX10_readsItem_27 : decode cX10_readsItem 27 = .ok (.iastore, 1) := by decide +kernel
theorem dX10_readsItem_28 : decode cX10_readsItem 28 = .ok (.goto 196, 3) := by decide +kernel
theorem dX10_readsItem_31 : decode cX10_readsItem 31 = .ok (.iload_n 1, 1) := by decide +kernel
theorem dX10_readsItem_32 : decode cX10_readsItem 32 = .ok (.bipush 112, 2) := by decide +kernel
theorem dX10_readsItem_34 : decode cX10_readsItem 34 = .ok (.if_icmp .ne 37, 3) := by decide +kernel
theorem dX10_readsItem_37 : decode cX10_readsItem 37 = .ok (.aload_n 0, 1) := by decide +kernel
theorem dX10_readsItem_38 : decode cX10_readsItem 38 = .ok (.getfield 16, 3) := by decide +kernel
theorem dX10_readsItem_41 : decode cX10_readsItem 41 = .ok (.iconst 5, 1) := by decide +kernel
theorem dX10_readsItem_42 : decode cX10_readsItem 42 = .ok (.aload_n 0, 1) := by decide +kernel
theorem dX10_readsItem_43 : decode cX10_readsItem 43 = .ok (.getfield 13, 3) := by decide +kernel
theorem dX10_readsItem_46 : decode cX10_readsItem 46 = .ok (.bipush 6, 2) := by decide +kernel
theorem dX10_readsItem_48 : decode cX10_readsItem 48 = .ok (.iaload, 1) := by decide +kernel
theorem dX10_readsItem_49 : decode cX10_readsItem 49 = .ok (.iadd, 1) := by decide +kernel
theorem dX10_readsItem_50 : decode cX10_readsItem 50 = .ok (.aload_n 0, 1) := by decide +kernel
theorem dX10_readsItem_51 : decode cX10_readsItem 51 = .ok (.iconst 0, 1) := by decide +kernel
theorem dX10_readsItem_52 : decode cX10_readsItem 52 = .ok (.iload_n 2, 1) := by decide +kernel
theorem dX10_readsItem_53 : decode cX10_readsItem 53 = .ok (.invokevirtual 110, 3) := by decide +kernel
theorem dX10_readsItem_56 : decode cX10_readsItem 56 = .ok (.iastore, 1) := by decide +kernel
theorem dX10_readsItem_57 : decode cX10_readsItem 57 = .ok (.aload_n 0, 1) := by decide +kernel
theorem dX10_readsItem_58 : decode cX10_readsItem 58 = .ok (.getfield 13, 3) := by decide +kernel
theorem dX10_readsItem_61 : decode cX10_readsItem 61 = .ok (.bipush 6, 2) := by decide +kernel
theorem dX10_readsItem_63 : decode cX10_readsItem 63 = .ok (.dup2, 1) := by decide +kernel
theorem dX10_readsItem_64 : decode cX10_readsItem 64 = .ok (.iaload, 1) := by decide +kernel
theorem dX10_readsItem_65 : decode cX10_readsItem 65 = .ok (.iconst 1, 1) := by decide +kernel
theorem dX10_readsItem_66 : decode cX10_readsItem 66 = .ok (.iadd, 1) := by decide +kernel
theorem dX10_readsItem_67 : decode cX10_readsItem 67 = .ok (.iastore, 1) := by decide +kernel
theorem dX10_readsItem_68 : decode cX10_readsItem 68 = .ok (.goto 156, 3) := by decide +kernel
theorem dX10_readsItem_71 : decode cX10_readsItem 71 = .ok (.iload_n 1, 1) := by decide +kernel
theorem dX10_readsItem_72 : decode cX10_readsItem 72 = .ok (.bipush 100, 2) := by decide +kernel
theorem dX10_readsItem_74 : decode cX10_readsItem 74 = .ok (.if_icmp .ne 93, 3) := by decide +kernel
theorem dX10_readsItem_77 : decode cX10_readsItem 77 = .ok (.aload_n 0, 1) := by decide +kernel
theorem dX10_readsItem_78 : decode cX10_readsItem 78 = .ok (.getfield 13, 3) := by decide +kernel
theorem dX10_readsItem_81 : decode cX10_readsItem 81 = .ok (.bipush 7, 2) := by decide +kernel
theorem dX10_readsItem_83 : decode cX10_readsItem 83 = .ok (.iaload, 1) := by decide +kernel
theorem dX10_readsItem_84 : decode cX10_readsItem 84 = .ok (.istore_n 3, 1) := by decide +kernel
theorem dX10_readsItem_85 : decode cX10_readsItem 85 = .ok (.aload_n 0, 1) := by decide +kernel
theorem dX10_readsItem_86 : decode cX10_readsItem 86 = .ok (.getfield 19, 3) := by decide +kernel
theorem dX10_readsItem_89 : decode cX10_readsItem 89 = .ok (.iload_n 3, 1) := by decide +kernel
theorem dX10_readsItem_90 : decode cX10_readsItem 90 = .ok (.aload_n 0, 1) := by decide +kernel
theorem dX10_readsItem_91 : decode cX10_readsItem 91 = .ok (.iconst 0, 1) := by decide +kernel
theorem dX10_readsItem_92 : decode cX10_readsItem 92 = .ok (.aload_n 0, 1) := by decide +kernel
theorem dX10_readsItem_93 : decode cX10_readsItem 93 = .ok (.getfield 13, 3) := by decide +kernel
theorem dX10_readsItem_96 : decode cX10_readsItem 96 = .ok (.bipush 6, 2) := by decide +kernel
theorem dX10_readsItem_98 : decode cX10_readsItem 98 = .ok (.iaload, 1) := by decide +kernel
theorem dX10_readsItem_99 : decode cX10_readsItem 99 = .ok (.iconst 1, 1) := by decide +kernel
theorem dX10_readsItem_100 : decode cX10_readsItem 100 = .ok (.isub, 1) := by decide +kernel
theorem dX10_readsItem_101 : decode cX10_readsItem 101 = .ok (.invokevirtual 110, 3) := by decide +kernel
theorem dX10_readsItem_104 : decode cX10_readsItem 104 = .ok (.iastore, 1) := by decide +kernel
theorem dX10_readsItem_105 : decode cX10_readsItem 105 = .ok (.aload_n 0, 1) := by decide +kernel
theorem dX10_readsItem_106 : decode cX10_readsItem 106 = .ok (.getfield 22, 3) := by decide +kernel
theorem dX10_readsItem_109 : decode cX10_readsItem 109 = .ok (.bipush 8, 2) := by decide +kernel
theorem dX10_readsItem_111 : decode cX10_readsItem 111 = .ok (.iload_n 3, 1) := by decide +kernel
theorem dX10_readsItem_112 : decode cX10_readsItem 112 = .ok (.iadd, 1) := by decide +kernel
theorem dX10_readsItem_113 : decode cX10_readsItem 113 = .ok (.aload_n 0, 1) := by decide +kernel
theorem dX10_readsItem_114 : decode cX10_readsItem 114 = .ok (.iconst 0, 1) := by decide +kernel
theorem dX10_readsItem_115 : decode cX10_readsItem 115 = .ok (.iload_n 2, 1) := by decide +kernel
theorem dX10_readsItem_116 : decode cX10_readsItem 116 = .ok (.invokevirtual 110, 3) := by decide +kernel
theorem dX10_readsItem_119 : decode cX10_readsItem 119 = .ok (.iastore, 1) := by decide +kernel
theorem dX10_readsItem_120 : decode cX10_readsItem 120 = .ok (.aload_n 0, 1) := by decide +kernel
theorem dX10_readsItem_121 : decode cX10_readsItem 121 = .ok (.getfield 25, 3) := by decide +kernel
theorem dX10_readsItem_124 : decode cX10_readsItem 124 = .ok (.bipush 8, 2) := by decide +kernel
theorem dX10_readsItem_126 : decode cX10_readsItem 126 = .ok (.iload_n 3, 1) := by decide +kernel
theorem dX10_readsItem_127 : decode cX10_readsItem 127 = .ok (.iadd, 1) := by decide +kernel
theorem dX10_readsItem_128 : decode cX10_readsItem 128 = .ok (.aload_n 0, 1) := by decide +kernel
theorem dX10_readsItem_129 : decode cX10_readsItem 129 = .ok (.iconst 0, 1) := by decide +kernel
theorem dX10_readsItem_130 : decode cX10_readsItem 130 = .ok (.sipush 239, 3) := by decide +kernel
theorem dX10_readsItem_133 : decode cX10_readsItem 133 = .ok (.invokevirtual 110, 3) := by decide +kernel
theorem dX10_readsItem_136 : decode cX10_readsItem 136 = .ok (.iastore, 1) := by decide +kernel
theorem dX10_readsItem_137 : decode cX10_readsItem 137 = .ok (.aload_n 0, 1) := by decide +kernel
theorem dX10_readsItem_138 : decode cX10_readsItem 138 = .ok (.getfield 28, 3) := by decide +kernel
theorem dX10_readsItem_141 : decode cX10_readsItem 141 = .ok (.bipush 8, 2) := by decide +kernel
theorem dX10_readsItem_143 : decode cX10_readsItem 143 = .ok (.iload_n 3, 1) := by decide +kernel
theorem dX10_readsItem_144 : decode cX10_readsItem 144 = .ok (.iadd, 1) := by decide +kernel
theorem dX10_readsItem_145 : decode cX10_readsItem 145 = .ok (.aload_n 0, 1) := by decide +kernel
theorem dX10_readsItem_146 : decode cX10_readsItem 146 = .ok (.iconst 1, 1) := by decide +kernel
theorem dX10_readsItem_147 : decode cX10_readsItem 147 = .ok (.bipush 60, 2) := by decide +kernel
theorem dX10_readsItem_149 : decode cX10_readsItem 149 = .ok (.invokevirtual 110, 3) := by decide +kernel
theorem dX10_readsItem_152 : decode cX10_readsItem 152 = .ok (.iastore, 1) := by decide +kernel
theorem dX10_readsItem_153 : decode cX10_readsItem 153 = .ok (.aload_n 0, 1) := by decide +kernel
theorem dX10_readsItem_154 : decode cX10_readsItem 154 = .ok (.getfield 13, 3) := by decide +kernel
theorem dX10_readsItem_157 : decode cX10_readsItem 157 = .ok (.bipush 7, 2) := by decide +kernel
theorem dX10_readsItem_159 : decode cX10_readsItem 159 = .ok (.dup2, 1) := by decide +kernel
theorem dX10_readsItem_160 : decode cX10_readsItem 160 = .ok (.iaload, 1) := by decide +kernel
theorem dX10_readsItem_161 : decode cX10_readsItem 161 = .ok (.iconst 1, 1) := by decide +kernel
theorem dX10_readsItem_162 : decode cX10_readsItem 162 = .ok (.iadd, 1) := by decide +kernel
theorem dX10_readsItem_163 : decode cX10_readsItem 163 = .ok (.iastore, 1) := by decide +kernel
theorem dX10_readsItem_164 : decode cX10_readsItem 164 = .ok (.goto 60, 3) := by decide +kernel
theorem dX10_readsItem_167 : decode cX10_readsItem 167 = .ok (.iload_n 1, 1) := by decide +kernel
theorem dX10_readsItem_168 : decode cX10_readsItem 168 = .ok (.bipush 103, 2) := by decide +kernel
theorem dX10_readsItem_170 : decode cX10_readsItem 170 = .ok (.if_icmp .ne 30, 3) := by decide +kernel
theorem dX10_readsItem_173 : decode cX10_readsItem 173 = .ok (.aload_n 0, 1) := by decide +kernel
theorem dX10_readsItem_174 : decode cX10_readsItem 174 = .ok (.getfield 13, 3) := by decide +kernel
theorem dX10_readsItem_177 : decode cX10_readsItem 177 = .ok (.bipush 8, 2) := by decide +kernel
theorem dX10_readsItem_179 : decode cX10_readsItem 179 = .ok (.aload_n 0, 1) := by decide +kernel
theorem dX10_readsItem_180 : decode cX10_readsItem 180 = .ok (.iconst 1, 1) := by decide +kernel
theorem dX10_readsItem_181 : decode cX10_readsItem 181 = .ok (.bipush 9, 2) := by decide +kernel
theorem dX10_readsItem_183 : decode cX10_readsItem 183 = .ok (.invokevirtual 110, 3) := by decide +kernel
theorem dX10_readsItem_186 : decode cX10_readsItem 186 = .ok (.iastore, 1) := by decide +kernel
theorem dX10_readsItem_187 : decode cX10_readsItem 187 = .ok (.aload_n 0, 1) := by decide +kernel
theorem dX10_readsItem_188 : decode cX10_readsItem 188 = .ok (.dup, 1) := by decide +kernel
theorem dX10_readsItem_189 : decode cX10_readsItem 189 = .ok (.getfield 107, 3) := by decide +kernel
theorem dX10_readsItem_192 : decode cX10_readsItem 192 = .ok (.iconst 1, 1) := by decide +kernel
theorem dX10_readsItem_193 : decode cX10_readsItem 193 = .ok (.ior, 1) := by decide +kernel
theorem dX10_readsItem_194 : decode cX10_readsItem 194 = .ok (.putfield 107, 3) := by decide +kernel
theorem dX10_readsItem_197 : decode cX10_readsItem 197 = .ok (.goto 27, 3) := by decide +kernel
theorem dX10_readsItem_200 : decode cX10_readsItem 200 = .ok (.aload_n 0, 1) := by decide +kernel
theorem dX10_readsItem_201 : decode cX10_readsItem 201 = .ok (.getfield 13, 3) := by decide +kernel
theorem dX10_readsItem_204 : decode cX10_readsItem 204 = .ok (.bipush 9, 2) := by decide +kernel
theorem dX10_readsItem_206 : decode cX10_readsItem 206 = .ok (.aload_n 0, 1) := by decide +kernel
theorem dX10_readsItem_207 : decode cX10_readsItem 207 = .ok (.iconst 0, 1) := by decide +kernel
theorem dX10_readsItem_208 : decode cX10_readsItem 208 = .ok (.bipush 9, 2) := by decide +kernel
theorem dX10_readsItem_210 : decode cX10_readsItem 210 = .ok (.invokevirtual 110, 3) := by decide +kernel
theorem dX10_readsItem_213 : decode cX10_readsItem 213 = .ok (.iastore, 1) := by decide +kernel
theorem dX10_readsItem_214 : decode cX10_readsItem 214 = .ok (.aload_n 0, 1) := by decide +kernel
theorem dX10_readsItem_215 : decode cX10_readsItem 215 = .ok (.dup, 1) := by decide +kernel
theorem dX10_readsItem_216 : decode cX10_readsItem 216 = .ok (.getfield 107, 3) := by decide +kernel
theorem dX10_readsItem_219 : decode cX10_readsItem 219 = .ok (.iconst 2, 1) := by decide +kernel
theorem dX10_readsItem_220 : decode cX10_readsItem 220 = .ok (.ior, 1) := by decide +kernel
theorem dX10_readsItem_221 : decode cX10_readsItem 221 = .ok (.putfield 107, 3) := by decide +kernel
theorem dX10_readsItem_224 : decode cX10_readsItem 224 = .ok (.return_, 1) := by decide +kernel
theorem dX10_town_0 : decode cX10_town 0 = .ok (.aload_n 0, 1) := by decide +kernel
theorem dX10_town_1 : decode cX10_town 1 = .ok (.iconst 0, 1) := by decide +kernel
theorem dX10_town_2 : decode cX10_town 2 = .ok (.putfield 62, 3) := by decide +kernel
theorem dX10_town_5 : decode cX10_town 5 = .ok (.aload_n 0, 1) := by decide +kernel
theorem dX10_town_6 : decode cX10_town 6 = .ok (.iconst (-1), 1) := by decide +kernel
theorem dX10_town_7 : decode cX10_town 7 = .ok (.putfield 93, 3) := by decide +kernel
theorem dX10_town_10 : decode cX10_town 10 = .ok (.aload_n 0, 1) := by decide +kernel
theorem dX10_town_11 : decode cX10_town 11 = .ok (.iconst 0, 1) := by decide +kernel
theorem dX10_town_12 : decode cX10_town 12 = .ok (.putfield 73, 3) := by decide +kernel
theorem dX10_town_15 : decode cX10_town 15 = .ok (.aload_n 0, 1) := by decide +kernel
theorem dX10_town_16 : decode cX10_town 16 = .ok (.invokevirtual 56, 3) := by decide +kernel
theorem dX10_town_19 : decode cX10_town 19 = .ok (.iconst 0, 1) := by decide +kernel
theorem dX10_town_20 : decode cX10_town 20 = .ok (.istore_n 1, 1) := by decide +kernel
theorem dX10_town_21 : decode cX10_town 21 = .ok (.aload_n 0, 1) := by decide +kernel
theorem dX10_town_22 : decode cX10_town 22 = .ok (.invokevirtual 100, 3) := by decide +kernel
theorem dX10_town_25 : decode cX10_town 25 = .ok (.aload_n 0, 1) := by decide +kernel
theorem dX10_town_26 : decode cX10_town 26 = .ok (.invokevirtual 96, 3) := by decide +kernel
theorem dX10_town_29 : decode cX10_town 29 = .ok (.ifCond .eq 72, 3) := by decide +kernel
theorem dX10_town_32 : decode cX10_town 32 = .ok (.aload_n 0, 1) := by decide +kernel
theorem dX10_town_33 : decode cX10_town 33 = .ok (.getfield 83, 3) := by decide +kernel
theorem dX10_town_36 : decode cX10_town 36 = .ok (.ifCond .eq 65, 3) := by decide +kernel
theorem dX10_town_39 : decode cX10_town 39 = .ok (.aload_n 0, 1) := by decide +kernel
theorem dX10_town_40 : decode cX10_town 40 = .ok (.aload_n 0, 1) := by decide +kernel
theorem dX10_town_41 : decode cX10_town 41 = .ok (.getfield 83, 3) := by decide +kernel
theorem dX10_town_44 : decode cX10_town 44 = .ok (.iconst 1, 1) := by decide +kernel
theorem dX10_town_45 : decode cX10_town 45 = .ok (.if_icmp .ne 15, 3) := by decide +kernel
theorem dX10_town_48 : decode cX10_town 48 = .ok (.aload_n 0, 1) := by decide +kernel
theorem dX10_town_49 : decode cX10_town 49 = .ok (.iload_n 1, 1) := by decide +kernel
theorem dX10_town_50 : decode cX10_town 50 = .ok (.invokevirtual 114, 3) := by decide +kernel
theorem dX10_town_53 : decode cX10_town 53 = .ok (.ifCond .eq 7, 3) := by decide +kernel
theorem dX10_town_56 : decode cX10_town 56 = .ok (.iconst 1, 1) := by decide +kernel
theorem dX10_town_57 : decode cX10_town 57 = .ok (.goto 4, 3) := by decide +kernel
theorem dX10_town_60 : decode cX10_town 60 = .ok (.iconst 0, 1) := by decide +kernel
theorem dX10_town_61 : decode cX10_town 61 = .ok (.invokevirtual 103, 3) := by decide +kernel
theorem dX10_town_64 : decode cX10_town 64 = .ok (.istore_n 2, 1) := by decide +kernel
theorem dX10_town_65 : decode cX10_town 65 = .ok (.aload_n 0, 1) := by decide +kernel
theorem dX10_town_66 : decode cX10_town 66 = .ok (.invokevirtual 96, 3) := by decide +kernel
theorem dX10_town_69 : decode cX10_town 69 = .ok (.ifCond .eq 8, 3) := by decide +kernel
theorem dX10_town_72 : decode cX10_town 72 = .ok (.aload_n 0, 1) := by decide +kernel
theorem dX10_town_73 : decode cX10_town 73 = .ok (.iload_n 2, 1) := by decide +kernel
theorem dX10_town_74 : decode cX10_town 74 = .ok (.invokevirtual 117, 3) := by decide +kernel
theorem dX10_town_77 : decode cX10_town 77 = .ok (.aload_n 0, 1) := by decide +kernel
theorem dX10_town_78 : decode cX10_town 78 = .ok (.aload_n 0, 1) := by decide +kernel
theorem dX10_town_79 : decode cX10_town 79 = .ok (.getfield 83, 3) := by decide +kernel
theorem dX10_town_82 : decode cX10_town 82 = .ok (.iconst 3, 1) := by decide +kernel
theorem dX10_town_83 : decode cX10_town 83 = .ok (.if_icmp .ne 7, 3) := by decide +kernel
theorem dX10_town_86 : decode cX10_town 86 = .ok (.iconst 1, 1) := by decide +kernel
theorem dX10_town_87 : decode cX10_town 87 = .ok (.goto 4, 3) := by decide +kernel
theorem dX10_town_90 : decode cX10_town 90 = .ok (.iconst 0, 1) := by decide +kernel
theorem dX10_town_91 : decode cX10_town 91 = .ok (.invokevirtual 103, 3) := by decide +kernel
theorem dX10_town_94 : decode cX10_town 94 = .ok (.pop, 1) := by decide +kernel
theorem dX10_town_95 : decode cX10_town 95 = .ok (.iinc 1 1, 3) := by decide +kernel
theorem dX10_town_98 : decode cX10_town 98 = .ok (.goto (-73), 3) := by decide +kernel
theorem dX10_town_101 : decode cX10_town 101 = .ok (.aload_n 0, 1) := by decide +kernel
theorem dX10_town_102 : decode cX10_town 102 = .ok (.invokevirtual 96, 3) := by decide +kernel
theorem dX10_town_105 : decode cX10_town 105 = .ok (.ifCond .ne 11, 3) := by decide +kernel
theorem dX10_town_108 : decode cX10_town 108 = .ok (.bipush (-10), 2) := by decide +kernel
theorem dX10_town_110 : decode cX10_town 110 = .ok (.aload_n 0, 1) := by decide +kernel
theorem dX10_town_111 : decode cX10_town 111 = .ok (.getfield 93, 3) := by decide +kernel
theorem dX10_town_114 : decode cX10_town 114 = .ok (.isub, 1) := by decide +kernel
theorem dX10_town_115 : decode cX10_town 115 = .ok (.ireturn, 1) := by decide +kernel
theorem dX10_town_116 : decode cX10_town 116 = .ok (.aload_n 0, 1) := by decide +kernel
theorem dX10_town_117 : decode cX10_town 117 = .ok (.invokevirtual 59, 3) := by decide +kernel
theorem dX10_town_120 : decode cX10_town 120 = .ok (.iload_n 1, 1) := by decide +kernel
theorem dX10_town_121 : decode cX10_town 121 = .ok (.ireturn, 1) := by decide +kernel
theorem dX10_settles_0 : decode cX10_settles 0 = .ok (.iconst 0, 1) := by decide +kernel
theorem dX10_settles_1 : decode cX10_settles 1 = .ok (.istore_n 1, 1) := by decide +kernel
theorem dX10_settles_2 : decode cX10_settles 2 = .ok (.iload_n 1, 1) := by decide +kernel
theorem dX10_settles_3 : decode cX10_settles 3 = .ok (.iconst 5, 1) := by decide +kernel
theorem dX10_settles_4 : decode cX10_settles 4 = .ok (.if_icmp .ge 23, 3) := by decide +kernel
theorem dX10_settles_7 : decode cX10_settles 7 = .ok (.aload_n 0, 1) := by decide +kernel
theorem dX10_settles_8 : decode cX10_settles 8 = .ok (.getfield 13, 3) := by decide +kernel
theorem dX10_settles_11 : decode cX10_settles 11 = .ok (.iload_n 1, 1) := by decide +kernel
theorem dX10_settles_12 : decode cX10_settles 12 = .ok (.aload_n 0, 1) := by decide +kernel
theorem dX10_settles_13 : decode cX10_settles 13 = .ok (.getfield 13, 3) := by decide +kernel
theorem dX10_settles_16 : decode cX10_settles 16 = .ok (.iconst 5, 1) := by decide +kernel
theorem dX10_settles_17 : decode cX10_settles 17 = .ok (.iload_n 1, 1) := by decide +kernel
theorem dX10_settles_18 : decode cX10_settles 18 = .ok (.iadd, 1) := by decide +kernel
theorem dX10_settles_19 : decode cX10_settles 19 = .ok (.iaload, 1) := by decide +kernel
theorem dX10_settles_20 : decode cX10_settles 20 = .ok (.iastore, 1) := by decide +kernel
theorem dX10_settles_21 : decode cX10_settles 21 = .ok (.iinc 1 1, 3) := by decide +kernel
theorem dX10_settles_24 : decode cX10_settles 24 = .ok (.goto (-22), 3) := by decide +kernel
theorem dX10_settles_27 : decode cX10_settles 27 = .ok (.iconst 0, 1) := by decide +kernel
theorem dX10_settles_28 : decode cX10_settles 28 = .ok (.istore_n 1, 1) := by decide +kernel
theorem dX10_settles_29 : decode cX10_settles 29 = .ok (.iload_n 1, 1) := by decide +kernel
theorem dX10_settles_30 : decode cX10_settles 30 = .ok (.bipush 25, 2) := by decide +kernel
theorem dX10_settles_32 : decode cX10_settles 32 = .ok (.if_icmp .ge 16, 3) := by decide +kernel
theorem dX10_settles_35 : decode cX10_settles 35 = .ok (.aload_n 0, 1) := by decide +kernel
theorem dX10_settles_36 : decode cX10_settles 36 = .ok (.getfield 31, 3) := by decide +kernel
theorem dX10_settles_39 : decode cX10_settles 39 = .ok (.iload_n 1, 1) := by decide +kernel
theorem dX10_settles_40 : decode cX10_settles 40 = .ok (.iconst 0, 1) := by decide +kernel
theorem dX10_settles_41 : decode cX10_settles 41 = .ok (.iastore, 1) := by decide +kernel
theorem dX10_settles_42 : decode cX10_settles 42 = .ok (.iinc 1 1, 3) := by decide +kernel
theorem dX10_settles_45 : decode cX10_settles 45 = .ok (.goto (-16), 3) := by decide +kernel
theorem dX10_settles_48 : decode cX10_settles 48 = .ok (.iconst 0, 1) := by decide +kernel
theorem dX10_settles_49 : decode cX10_settles 49 = .ok (.istore_n 1, 1) := by decide +kernel
theorem dX10_settles_50 : decode cX10_settles 50 = .ok (.iload_n 1, 1) := by decide +kernel
theorem dX10_settles_51 : decode cX10_settles 51 = .ok (.iconst 5, 1) := by decide +kernel
theorem dX10_settles_52 : decode cX10_settles 52 = .ok (.if_icmp .ge 51, 3) := by decide +kernel
theorem dX10_settles_55 : decode cX10_settles 55 = .ok (.aload_n 0, 1) := by decide +kernel
theorem dX10_settles_56 : decode cX10_settles 56 = .ok (.getfield 16, 3) := by decide +kernel
theorem dX10_settles_59 : decode cX10_settles 59 = .ok (.iload_n 1, 1) := by decide +kernel
theorem dX10_settles_60 : decode cX10_settles 60 = .ok (.aload_n 0, 1) := by decide +kernel
theorem dX10_settles_61 : decode cX10_settles 61 = .ok (.getfield 16, 3) := by decide +kernel
theorem dX10_settles_64 : decode cX10_settles 64 = .ok (.iconst 5, 1) := by decide +kernel
theorem dX10_settles_65 : decode cX10_settles 65 = .ok (.iload_n 1, 1) := by decide +kernel
theorem dX10_settles_66 : decode cX10_settles 66 = .ok (.iadd, 1) := by decide +kernel
theorem dX10_settles_67 : decode cX10_settles 67 = .ok (.iaload, 1) := by decide +kernel
theorem dX10_settles_68 : decode cX10_settles 68 = .ok (.iastore, 1) := by decide +kernel
theorem dX10_settles_69 : decode cX10_settles 69 = .ok (.aload_n 0, 1) := by decide +kernel
theorem dX10_settles_70 : decode cX10_settles 70 = .ok (.getfield 31, 3) := by decide +kernel
theorem dX10_settles_73 : decode cX10_settles 73 = .ok (.iconst 0, 1) := by decide +kernel
theorem dX10_settles_74 : decode cX10_settles 74 = .ok (.iload_n 1, 1) := by decide +kernel
theorem dX10_settles_75 : decode cX10_settles 75 = .ok (.iadd, 1) := by decide +kernel
theorem dX10_settles_76 : decode cX10_settles 76 = .ok (.iload_n 1, 1) := by decide +kernel
theorem dX10_settles_77 : decode cX10_settles 77 = .ok (.aload_n 0, 1) := by decide +kernel
theorem dX10_settles_78 : decode cX10_settles 78 = .ok (.getfield 13, 3) := by decide +kernel
theorem dX10_settles_81 : decode cX10_settles 81 = .ok (.iconst 1, 1) := by decide +kernel
theorem dX10_settles_82 : decode cX10_settles 82 = .ok (.iaload, 1) := by decide +kernel
theorem dX10_settles_83 : decode cX10_settles 83 = .ok (.if_icmp .ge 12, 3) := by decide +kernel
theorem dX10_settles_86 : decode cX10_settles 86 = .ok (.aload_n 0, 1) := by decide +kernel
theorem dX10_settles_87 : decode cX10_settles 87 = .ok (.getfield 16, 3) := by decide +kernel
theorem dX10_settles_90 : decode cX10_settles 90 = .ok (.iload_n 1, 1) := by decide +kernel
theorem dX10_settles_91 : decode cX10_settles 91 = .ok (.iaload, 1) := by decide +kernel
theorem dX10_settles_92 : decode cX10_settles 92 = .ok (.goto 4, 3) := by decide +kernel
theorem dX10_settles_95 : decode cX10_settles 95 = .ok (.iconst 0, 1) := by decide +kernel
theorem dX10_settles_96 : decode cX10_settles 96 = .ok (.iastore, 1) := by decide +kernel
theorem dX10_settles_97 : decode cX10_settles 97 = .ok (.iinc 1 1, 3) := by decide +kernel
theorem dX10_settles_100 : decode cX10_settles 100 = .ok (.goto (-50), 3) := by decide +kernel
theorem dX10_settles_103 : decode cX10_settles 103 = .ok (.iconst 0, 1) := by decide +kernel
theorem dX10_settles_104 : decode cX10_settles 104 = .ok (.istore_n 1, 1) := by decide +kernel
theorem dX10_settles_105 : decode cX10_settles 105 = .ok (.iload_n 1, 1) := by decide +kernel
theorem dX10_settles_106 : decode cX10_settles 106 = .ok (.bipush 8, 2) := by decide +kernel
theorem dX10_settles_108 : decode cX10_settles 108 = .ok (.if_icmp .ge 83, 3) := by decide +kernel
theorem dX10_settles_111 : decode cX10_settles 111 = .ok (.aload_n 0, 1) := by decide +kernel
theorem dX10_settles_112 : decode cX10_settles 112 = .ok (.getfield 22, 3) := by decide +kernel
theorem dX10_settles_115 : decode cX10_settles 115 = .ok (.iload_n 1, 1) := by decide +kernel
theorem dX10_settles_116 : decode cX10_settles 116 = .ok (.aload_n 0, 1) := by decide +kernel
theorem dX10_settles_117 : decode cX10_settles 117 = .ok (.getfield 22, 3) := by decide +kernel
theorem dX10_settles_120 : decode cX10_settles 120 = .ok (.bipush 8, 2) := by decide +kernel
theorem dX10_settles_122 : decode cX10_settles 122 = .ok (.iload_n 1, 1) := by decide +kernel
theorem dX10_settles_123 : decode cX10_settles 123 = .ok (.iadd, 1) := by decide +kernel
theorem dX10_settles_124 : decode cX10_settles 124 = .ok (.iaload, 1) := by decide +kernel
theorem dX10_settles_125 : decode cX10_settles 125 = .ok (.iastore, 1) := by decide +kernel
theorem dX10_settles_126 : decode cX10_settles 126 = .ok (.aload_n 0, 1) := by decide +kernel
theorem dX10_settles_127 : decode cX10_settles 127 = .ok (.getfield 25, 3) := by decide +kernel
theorem dX10_settles_130 : decode cX10_settles 130 = .ok (.iload_n 1, 1) := by decide +kernel
theorem dX10_settles_131 : decode cX10_settles 131 = .ok (.aload_n 0, 1) := by decide +kernel
theorem dX10_settles_132 : decode cX10_settles 132 = .ok (.getfield 25, 3) := by decide +kernel
theorem dX10_settles_135 : decode cX10_settles 135 = .ok (.bipush 8, 2) := by decide +kernel
theorem dX10_settles_137 : decode cX10_settles 137 = .ok (.iload_n 1, 1) := by decide +kernel
theorem dX10_settles_138 : decode cX10_settles 138 = .ok (.iadd, 1) := by decide +kernel
theorem dX10_settles_139 : decode cX10_settles 139 = .ok (.iaload, 1) := by decide +kernel
theorem dX10_settles_140 : decode cX10_settles 140 = .ok (.iastore, 1) := by decide +kernel
theorem dX10_settles_141 : decode cX10_settles 141 = .ok (.aload_n 0, 1) := by decide +kernel
theorem dX10_settles_142 : decode cX10_settles 142 = .ok (.getfield 28, 3) := by decide +kernel
theorem dX10_settles_145 : decode cX10_settles 145 = .ok (.iload_n 1, 1) := by decide +kernel
theorem dX10_settles_146 : decode cX10_settles 146 = .ok (.aload_n 0, 1) := by decide +kernel
theorem dX10_settles_147 : decode cX10_settles 147 = .ok (.getfield 28, 3) := by decide +kernel
theorem dX10_settles_150 : decode cX10_settles 150 = .ok (.bipush 8, 2) := by decide +kernel
theorem dX10_settles_152 : decode cX10_settles 152 = .ok (.iload_n 1, 1) := by decide +kernel
theorem dX10_settles_153 : decode cX10_settles 153 = .ok (.iadd, 1) := by decide +kernel
theorem dX10_settles_154 : decode cX10_settles 154 = .ok (.iaload, 1) := by decide +kernel
theorem dX10_settles_155 : decode cX10_settles 155 = .ok (.iastore, 1) := by decide +kernel
theorem dX10_settles_156 : decode cX10_settles 156 = .ok (.aload_n 0, 1) := by decide +kernel
theorem dX10_settles_157 : decode cX10_settles 157 = .ok (.getfield 31, 3) := by decide +kernel
theorem dX10_settles_160 : decode cX10_settles 160 = .ok (.bipush 17, 2) := by decide +kernel
theorem dX10_settles_162 : decode cX10_settles 162 = .ok (.iload_n 1, 1) := by decide +kernel
theorem dX10_settles_163 : decode cX10_settles 163 = .ok (.iadd, 1) := by decide +kernel
theorem dX10_settles_164 : decode cX10_settles 164 = .ok (.iload_n 1, 1) := by decide +kernel
theorem dX10_settles_165 : decode cX10_settles 165 = .ok (.aload_n 0, 1) := by decide +kernel
theorem dX10_settles_166 : decode cX10_settles 166 = .ok (.getfield 13, 3) := by decide +kernel
theorem dX10_settles_169 : decode cX10_settles 169 = .ok (.iconst 2, 1) := by decide +kernel
theorem dX10_settles_170 : decode cX10_settles 170 = .ok (.iaload, 1) := by decide +kernel
theorem dX10_settles_171 : decode cX10_settles 171 = .ok (.if_icmp .ge 12, 3) := by decide +kernel
theorem dX10_settles_174 : decode cX10_settles 174 = .ok (.aload_n 0, 1) := by decide +kernel
theorem dX10_settles_175 : decode cX10_settles 175 = .ok (.getfield 19, 3) := by decide +kernel
theorem dX10_settles_178 : decode cX10_settles 178 = .ok (.iload_n 1, 1) := by decide +kernel
theorem dX10_settles_179 : decode cX10_settles 179 = .ok (.iaload, 1) := by decide +kernel
theorem dX10_settles_180 : decode cX10_settles 180 = .ok (.goto 4, 3) := by decide +kernel
theorem dX10_settles_183 : decode cX10_settles 183 = .ok (.iconst 0, 1) := by decide +kernel
theorem dX10_settles_184 : decode cX10_settles 184 = .ok (.iastore, 1) := by decide +kernel
theorem dX10_settles_185 : decode cX10_settles 185 = .ok (.iinc 1 1, 3) := by decide +kernel
theorem dX10_settles_188 : decode cX10_settles 188 = .ok (.goto (-83), 3) := by decide +kernel
theorem dX10_settles_191 : decode cX10_settles 191 = .ok (.aload_n 0, 1) := by decide +kernel
theorem dX10_settles_192 : decode cX10_settles 192 = .ok (.iconst 0, 1) := by decide +kernel
theorem dX10_settles_193 : decode cX10_settles 193 = .ok (.putfield 70, 3) := by decide +kernel
theorem dX10_settles_196 : decode cX10_settles 196 = .ok (.aload_n 0, 1) := by decide +kernel
theorem dX10_settles_197 : decode cX10_settles 197 = .ok (.iconst 0, 1) := by decide +kernel
theorem dX10_settles_198 : decode cX10_settles 198 = .ok (.putfield 121, 3) := by decide +kernel
theorem dX10_settles_201 : decode cX10_settles 201 = .ok (.aload_n 0, 1) := by decide +kernel
theorem dX10_settles_202 : decode cX10_settles 202 = .ok (.iconst 0, 1) := by decide +kernel
theorem dX10_settles_203 : decode cX10_settles 203 = .ok (.putfield 124, 3) := by decide +kernel
theorem dX10_settles_206 : decode cX10_settles 206 = .ok (.aload_n 0, 1) := by decide +kernel
theorem dX10_settles_207 : decode cX10_settles 207 = .ok (.getfield 37, 3) := by decide +kernel
theorem dX10_settles_210 : decode cX10_settles 210 = .ok (.iconst 0, 1) := by decide +kernel
theorem dX10_settles_211 : decode cX10_settles 211 = .ok (.iconst 0, 1) := by decide +kernel
theorem dX10_settles_212 : decode cX10_settles 212 = .ok (.bastore, 1) := by decide +kernel
theorem dX10_settles_213 : decode cX10_settles 213 = .ok (.aload_n 0, 1) := by decide +kernel
theorem dX10_settles_214 : decode cX10_settles 214 = .ok (.getfield 37, 3) := by decide +kernel
theorem dX10_settles_217 : decode cX10_settles 217 = .ok (.iconst 1, 1) := by decide +kernel
theorem dX10_settles_218 : decode cX10_settles 218 = .ok (.iconst 0, 1) := by decide +kernel
theorem dX10_settles_219 : decode cX10_settles 219 = .ok (.bastore, 1) := by decide +kernel
theorem dX10_settles_220 : decode cX10_settles 220 = .ok (.return_, 1) := by decide +kernel
theorem dX10_isPerson_0 : decode cX10_isPerson 0 = .ok (.iload_n 1, 1) := by decide +kernel
theorem dX10_isPerson_1 : decode cX10_isPerson 1 = .ok (.iconst 0, 1) := by decide +kernel
theorem dX10_isPerson_2 : decode cX10_isPerson 2 = .ok (.aload_n 0, 1) := by decide +kernel
theorem dX10_isPerson_3 : decode cX10_isPerson 3 = .ok (.getfield 13, 3) := by decide +kernel
theorem dX10_isPerson_6 : decode cX10_isPerson 6 = .ok (.iconst 1, 1) := by decide +kernel
theorem dX10_isPerson_7 : decode cX10_isPerson 7 = .ok (.iaload, 1) := by decide +kernel
theorem dX10_isPerson_8 : decode cX10_isPerson 8 = .ok (.iconst 1, 1) := by decide +kernel
theorem dX10_isPerson_9 : decode cX10_isPerson 9 = .ok (.isub, 1) := by decide +kernel
theorem dX10_isPerson_10 : decode cX10_isPerson 10 = .ok (.invokestatic 66, 3) := by decide +kernel
theorem dX10_isPerson_13 : decode cX10_isPerson 13 = .ok (.ireturn, 1) := by decide +kernel
theorem dX10_isDuty_0 : decode cX10_isDuty 0 = .ok (.iload_n 1, 1) := by decide +kernel
theorem dX10_isDuty_1 : decode cX10_isDuty 1 = .ok (.iconst 0, 1) := by decide +kernel
theorem dX10_isDuty_2 : decode cX10_isDuty 2 = .ok (.aload_n 0, 1) := by decide +kernel
theorem dX10_isDuty_3 : decode cX10_isDuty 3 = .ok (.getfield 13, 3) := by decide +kernel
theorem dX10_isDuty_6 : decode cX10_isDuty 6 = .ok (.iconst 2, 1) := by decide +kernel
theorem dX10_isDuty_7 : decode cX10_isDuty 7 = .ok (.iaload, 1) := by decide +kernel
theorem dX10_isDuty_8 : decode cX10_isDuty 8 = .ok (.iconst 1, 1) := by decide +kernel
theorem dX10_isDuty_9 : decode cX10_isDuty 9 = .ok (.isub, 1) := by decide +kernel
theorem dX10_isDuty_10 : decode cX10_isDuty 10 = .ok (.invokestatic 66, 3) := by decide +kernel
theorem dX10_isDuty_13 : decode cX10_isDuty 13 = .ok (.ireturn, 1) := by decide +kernel
theorem dX10_isPlace_0 : decode cX10_isPlace 0 = .ok (.iload_n 1, 1) := by decide +kernel
theorem dX10_isPlace_1 : decode cX10_isPlace 1 = .ok (.iconst 0, 1) := by decide +kernel
theorem dX10_isPlace_2 : decode cX10_isPlace 2 = .ok (.aload_n 0, 1) := by decide +kernel
theorem dX10_isPlace_3 : decode cX10_isPlace 3 = .ok (.getfield 13, 3) := by decide +kernel
theorem dX10_isPlace_6 : decode cX10_isPlace 6 = .ok (.iconst 0, 1) := by decide +kernel
theorem dX10_isPlace_7 : decode cX10_isPlace 7 = .ok (.iaload, 1) := by decide +kernel
theorem dX10_isPlace_8 : decode cX10_isPlace 8 = .ok (.iconst 1, 1) := by decide +kernel
theorem dX10_isPlace_9 : decode cX10_isPlace 9 = .ok (.isub, 1) := by decide +kernel
theorem dX10_isPlace_10 : decode cX10_isPlace 10 = .ok (.invokestatic 66, 3) := by decide +kernel
theorem dX10_isPlace_13 : decode cX10_isPlace 13 = .ok (.ireturn, 1) := by decide +kernel
theorem dX10_isRung_0 : decode cX10_isRung 0 = .ok (.iconst 0, 1) := by decide +kernel
theorem dX10_isRung_1 : decode cX10_isRung 1 = .ok (.istore 4, 2) := by decide +kernel
theorem dX10_isRung_3 : decode cX10_isRung 3 = .ok (.iconst 0, 1) := by decide +kernel
theorem dX10_isRung_4 : decode cX10_isRung 4 = .ok (.istore 5, 2) := by decide +kernel
theorem dX10_isRung_6 : decode cX10_isRung 6 = .ok (.iload 5, 2) := by decide +kernel
theorem dX10_isRung_8 : decode cX10_isRung 8 = .ok (.aload_n 0, 1) := by decide +kernel
theorem dX10_isRung_9 : decode cX10_isRung 9 = .ok (.getfield 13, 3) := by decide +kernel
theorem dX10_isRung_12 : decode cX10_isRung 12 = .ok (.iconst 2, 1) := by decide +kernel
theorem dX10_isRung_13 : decode cX10_isRung 13 = .ok (.iaload, 1) := by decide +kernel
theorem dX10_isRung_14 : decode cX10_isRung 14 = .ok (.if_icmp .ge 107, 3) := by decide +kernel
theorem dX10_isRung_17 : decode cX10_isRung 17 = .ok (.iload_n 2, 1) := by decide +kernel
theorem dX10_isRung_18 : decode cX10_isRung 18 = .ok (.aload_n 0, 1) := by decide +kernel
theorem dX10_isRung_19 : decode cX10_isRung 19 = .ok (.getfield 25, 3) := by decide +kernel
theorem dX10_isRung_22 : decode cX10_isRung 22 = .ok (.iload 5, 2) := by decide +kernel
theorem dX10_isRung_24 : decode cX10_isRung 24 = .ok (.iaload, 1) := by decide +kernel
theorem dX10_isRung_25 : decode cX10_isRung 25 = .ok (.aload_n 0, 1) := by decide +kernel
theorem dX10_isRung_26 : decode cX10_isRung 26 = .ok (.getfield 13, 3) := by decide +kernel
theorem dX10_isRung_29 : decode cX10_isRung 29 = .ok (.iconst 4, 1) := by decide +kernel
theorem dX10_isRung_30 : decode cX10_isRung 30 = .ok (.iaload, 1) := by decide +kernel
theorem dX10_isRung_31 : decode cX10_isRung 31 = .ok (.iadd, 1) := by decide +kernel
theorem dX10_isRung_32 : decode cX10_isRung 32 = .ok (.if_icmp .lt 26, 3) := by decide +kernel
theorem dX10_isRung_35 : decode cX10_isRung 35 = .ok (.iload_n 2, 1) := by decide +kernel
theorem dX10_isRung_36 : decode cX10_isRung 36 = .ok (.aload_n 0, 1) := by decide +kernel
theorem dX10_isRung_37 : decode cX10_isRung 37 = .ok (.getfield 25, 3) := by decide +kernel
theorem dX10_isRung_40 : decode cX10_isRung 40 = .ok (.iload 5, 2) := by decide +kernel
theorem dX10_isRung_42 : decode cX10_isRung 42 = .ok (.iaload, 1) := by decide +kernel
theorem dX10_isRung_43 : decode cX10_isRung 43 = .ok (.aload_n 0, 1) := by decide +kernel
theorem dX10_isRung_44 : decode cX10_isRung 44 = .ok (.getfield 28, 3) := by decide +kernel
theorem dX10_isRung_47 : decode cX10_isRung 47 = .ok (.iload 5, 2) := by decide +kernel
theorem dX10_isRung_49 : decode cX10_isRung 49 = .ok (.iaload, 1) := by decide +kernel
theorem dX10_isRung_50 : decode cX10_isRung 50 = .ok (.iadd, 1) := by decide +kernel
theorem dX10_isRung_51 : decode cX10_isRung 51 = .ok (.if_icmp .ge 7, 3) := by decide +kernel
theorem dX10_isRung_54 : decode cX10_isRung 54 = .ok (.iconst 1, 1) := by decide +kernel
theorem dX10_isRung_55 : decode cX10_isRung 55 = .ok (.goto 4, 3) := by decide +kernel
theorem dX10_isRung_58 : decode cX10_isRung 58 = .ok (.iconst 0, 1) := by decide +kernel
theorem dX10_isRung_59 : decode cX10_isRung 59 = .ok (.istore 6, 2) := by decide +kernel
theorem dX10_isRung_61 : decode cX10_isRung 61 = .ok (.iload 4, 2) := by decide +kernel
theorem dX10_isRung_63 : decode cX10_isRung 63 = .ok (.ifCond .ne 45, 3) := by decide +kernel
theorem dX10_isRung_66 : decode cX10_isRung 66 = .ok (.aload_n 0, 1) := by decide +kernel
theorem dX10_isRung_67 : decode cX10_isRung 67 = .ok (.getfield 31, 3) := by decide +kernel
theorem dX10_isRung_70 : decode cX10_isRung 70 = .ok (.bipush 17, 2) := by decide +kernel
theorem dX10_isRung_72 : decode cX10_isRung 72 = .ok (.iload 5, 2) := by decide +kernel
theorem dX10_isRung_74 : decode cX10_isRung 74 = .ok (.iadd, 1) := by decide +kernel
theorem dX10_isRung_75 : decode cX10_isRung 75 = .ok (.iaload, 1) := by decide +kernel
theorem dX10_isRung_76 : decode cX10_isRung 76 = .ok (.iload_n 1, 1) := by decide +kernel
theorem dX10_isRung_77 : decode cX10_isRung 77 = .ok (.if_icmp .ne 35, 3) := by decide +kernel
theorem dX10_isRung_80 : decode cX10_isRung 80 = .ok (.aload_n 0, 1) := by decide +kernel
theorem dX10_isRung_81 : decode cX10_isRung 81 = .ok (.getfield 127, 3) := by decide +kernel
theorem dX10_isRung_84 : decode cX10_isRung 84 = .ok (.iload 5, 2) := by decide +kernel
theorem dX10_isRung_86 : decode cX10_isRung 86 = .ok (.ishr, 1) := by decide +kernel
theorem dX10_isRung_87 : decode cX10_isRung 87 = .ok (.iconst 1, 1) := by decide +kernel
theorem dX10_isRung_88 : decode cX10_isRung 88 = .ok (.iand, 1) := by decide +kernel
theorem dX10_isRung_89 : decode cX10_isRung 89 = .ok (.ifCond .ne 23, 3) := by decide +kernel
theorem dX10_isRung_92 : decode cX10_isRung 92 = .ok (.iload 6, 2) := by decide +kernel
theorem dX10_isRung_94 : decode cX10_isRung 94 = .ok (.ifCond .eq 18, 3) := by decide +kernel
theorem dX10_isRung_97 : decode cX10_isRung 97 = .ok (.aload_n 0, 1) := by decide +kernel
theorem dX10_isRung_98 : decode cX10_isRung 98 = .ok (.getfield 22, 3) := by decide +kernel
theorem dX10_isRung_101 : decode cX10_isRung 101 = .ok (.iload 5, 2) := by decide +kernel
theorem dX10_isRung_103 : decode cX10_isRung 103 = .ok (.iaload, 1) := by decide +kernel
theorem dX10_isRung_104 : decode cX10_isRung 104 = .ok (.iload_n 3, 1) := by decide +kernel
theorem dX10_isRung_105 : decode cX10_isRung 105 = .ok (.if_icmp .eq 7, 3) := by decide +kernel
theorem dX10_isRung_108 : decode cX10_isRung 108 = .ok (.iconst 1, 1) := by decide +kernel
theorem dX10_isRung_109 : decode cX10_isRung 109 = .ok (.goto 4, 3) := by decide +kernel
theorem dX10_isRung_112 : decode cX10_isRung 112 = .ok (.iconst 0, 1) := by decide +kernel
theorem dX10_isRung_113 : decode cX10_isRung 113 = .ok (.istore 4, 2) := by decide +kernel
theorem dX10_isRung_115 : decode cX10_isRung 115 = .ok (.iinc 5 1, 3) := by decide +kernel
theorem dX10_isRung_118 : decode cX10_isRung 118 = .ok (.goto (-112), 3) := by decide +kernel
theorem dX10_isRung_121 : decode cX10_isRung 121 = .ok (.iload 4, 2) := by decide +kernel
theorem dX10_isRung_123 : decode cX10_isRung 123 = .ok (.ireturn, 1) := by decide +kernel
theorem dX10_placeIn_0 : decode cX10_placeIn 0 = .ok (.aload_n 0, 1) := by decide +kernel
theorem dX10_placeIn_1 : decode cX10_placeIn 1 = .ok (.getfield 31, 3) := by decide +kernel
theorem dX10_placeIn_4 : decode cX10_placeIn 4 = .ok (.iconst 5, 1) := by decide +kernel
theorem dX10_placeIn_5 : decode cX10_placeIn 5 = .ok (.iload_n 1, 1) := by decide +kernel
theorem dX10_placeIn_6 : decode cX10_placeIn 6 = .ok (.iadd, 1) := by decide +kernel
theorem dX10_placeIn_7 : decode cX10_placeIn 7 = .ok (.iaload, 1) := by decide +kernel
theorem dX10_placeIn_8 : decode cX10_placeIn 8 = .ok (.iload_n 2, 1) := by decide +kernel
theorem dX10_placeIn_9 : decode cX10_placeIn 9 = .ok (.if_icmp .le 8, 3) := by decide +kernel
theorem dX10_placeIn_12 : decode cX10_placeIn 12 = .ok (.bipush (-9), 2) := by decide +kernel
theorem dX10_placeIn_14 : decode cX10_placeIn 14 = .ok (.goto 11, 3) := by decide +kernel
theorem dX10_placeIn_17 : decode cX10_placeIn 17 = .ok (.aload_n 0, 1) := by decide +kernel
theorem dX10_placeIn_18 : decode cX10_placeIn 18 = .ok (.getfield 31, 3) := by decide +kernel
theorem dX10_placeIn_21 : decode cX10_placeIn 21 = .ok (.iconst 0, 1) := by decide +kernel
theorem dX10_placeIn_22 : decode cX10_placeIn 22 = .ok (.iload_n 1, 1) := by decide +kernel
theorem dX10_placeIn_23 : decode cX10_placeIn 23 = .ok (.iadd, 1) := by decide +kernel
theorem dX10_placeIn_24 : decode cX10_placeIn 24 = .ok (.iaload, 1) := by decide +kernel
theorem dX10_placeIn_25 : decode cX10_placeIn 25 = .ok (.ireturn, 1) := by decide +kernel
theorem dX10_ringsIn_0 : decode cX10_ringsIn 0 = .ok (.iconst 0, 1) := by decide +kernel
theorem dX10_ringsIn_1 : decode cX10_ringsIn 1 = .ok (.istore_n 2, 1) := by decide +kernel
theorem dX10_ringsIn_2 : decode cX10_ringsIn 2 = .ok (.iconst 0, 1) := by decide +kernel
theorem dX10_ringsIn_3 : decode cX10_ringsIn 3 = .ok (.istore_n 3, 1) := by decide +kernel
theorem dX10_ringsIn_4 : decode cX10_ringsIn 4 = .ok (.iload_n 3, 1) := by decide +kernel
theorem dX10_ringsIn_5 : decode cX10_ringsIn 5 = .ok (.aload_n 0, 1) := by decide +kernel
theorem dX10_ringsIn_6 : decode cX10_ringsIn 6 = .ok (.getfield 13, 3) := by decide +kernel
theorem dX10_ringsIn_9 : decode cX10_ringsIn 9 = .ok (.iconst 1, 1) := by decide +kernel
theorem dX10_ringsIn_10 : decode cX10_ringsIn 10 = .ok (.iaload, 1) := by decide +kernel
theorem dX10_ringsIn_11 : decode cX10_ringsIn 11 = .ok (.if_icmp .ge 42, 3) := by decide +kernel
theorem dX10_ringsIn_14 : decode cX10_ringsIn 14 = .ok (.iload_n 2, 1) := by decide +kernel
theorem dX10_ringsIn_15 : decode cX10_ringsIn 15 = .ok (.aload_n 0, 1) := by decide +kernel
theorem dX10_ringsIn_16 : decode cX10_ringsIn 16 = .ok (.iload_n 3, 1) := by decide +kernel
theorem dX10_ringsIn_17 : decode cX10_ringsIn 17 = .ok (.iload_n 1, 1) := by decide +kernel
theorem dX10_ringsIn_18 : decode cX10_ringsIn 18 = .ok (.aload_n 0, 1) := by decide +kernel
theorem dX10_ringsIn_19 : decode cX10_ringsIn 19 = .ok (.iload_n 3, 1) := by decide +kernel
theorem dX10_ringsIn_20 : decode cX10_ringsIn 20 = .ok (.iload_n 1, 1) := by decide +kernel
theorem dX10_ringsIn_21 : decode cX10_ringsIn 21 = .ok (.aload_n 0, 1) := by decide +kernel
theorem dX10_ringsIn_22 : decode cX10_ringsIn 22 = .ok (.getfield 31, 3) := by decide +kernel
theorem dX10_ringsIn_25 : decode cX10_ringsIn 25 = .ok (.bipush 15, 2) := by decide +kernel
theorem dX10_ringsIn_27 : decode cX10_ringsIn 27 = .ok (.iaload, 1) := by decide +kernel
theorem dX10_ringsIn_28 : decode cX10_ringsIn 28 = .ok (.isub, 1) := by decide +kernel
theorem dX10_ringsIn_29 : decode cX10_ringsIn 29 = .ok (.invokevirtual 130, 3) := by decide +kernel
theorem dX10_ringsIn_32 : decode cX10_ringsIn 32 = .ok (.invokevirtual 133, 3) := by decide +kernel
theorem dX10_ringsIn_35 : decode cX10_ringsIn 35 = .ok (.ifCond .eq 9, 3) := by decide +kernel
theorem dX10_ringsIn_38 : decode cX10_ringsIn 38 = .ok (.iconst 1, 1) := by decide +kernel
theorem dX10_ringsIn_39 : decode cX10_ringsIn 39 = .ok (.iload_n 3, 1) := by decide +kernel
theorem dX10_ringsIn_40 : decode cX10_ringsIn 40 = .ok (.ishl, 1) := by decide +kernel
theorem dX10_ringsIn_41 : decode cX10_ringsIn 41 = .ok (.goto 4, 3) := by decide +kernel
theorem dX10_ringsIn_44 : decode cX10_ringsIn 44 = .ok (.iconst 0, 1) := by decide +kernel
theorem dX10_ringsIn_45 : decode cX10_ringsIn 45 = .ok (.ior, 1) := by decide +kernel
theorem dX10_ringsIn_46 : decode cX10_ringsIn 46 = .ok (.istore_n 2, 1) := by decide +kernel
theorem dX10_ringsIn_47 : decode cX10_ringsIn 47 = .ok (.iinc 3 1, 3) := by decide +kernel
theorem dX10_ringsIn_50 : decode cX10_ringsIn 50 = .ok (.goto (-46), 3) := by decide +kernel
theorem dX10_ringsIn_53 : decode cX10_ringsIn 53 = .ok (.iload_n 2, 1) := by decide +kernel
theorem dX10_ringsIn_54 : decode cX10_ringsIn 54 = .ok (.ireturn, 1) := by decide +kernel
theorem dX10_asNow_0 : decode cX10_asNow 0 = .ok (.aload_n 0, 1) := by decide +kernel
theorem dX10_asNow_1 : decode cX10_asNow 1 = .ok (.aload_n 0, 1) := by decide +kernel
theorem dX10_asNow_2 : decode cX10_asNow 2 = .ok (.getfield 31, 3) := by decide +kernel
theorem dX10_asNow_5 : decode cX10_asNow 5 = .ok (.bipush 16, 2) := by decide +kernel
theorem dX10_asNow_7 : decode cX10_asNow 7 = .ok (.iaload, 1) := by decide +kernel
theorem dX10_asNow_8 : decode cX10_asNow 8 = .ok (.putfield 127, 3) := by decide +kernel
theorem dX10_asNow_11 : decode cX10_asNow 11 = .ok (.return_, 1) := by decide +kernel
theorem dX10_person_0 : decode cX10_person 0 = .ok (.aload_n 0, 1) := by decide +kernel
theorem dX10_person_1 : decode cX10_person 1 = .ok (.iconst 0, 1) := by decide +kernel
theorem dX10_person_2 : decode cX10_person 2 = .ok (.putfield 62, 3) := by decide +kernel
theorem dX10_person_5 : decode cX10_person 5 = .ok (.aload_n 0, 1) := by decide +kernel
theorem dX10_person_6 : decode cX10_person 6 = .ok (.iload_n 1, 1) := by decide +kernel
theorem dX10_person_7 : decode cX10_person 7 = .ok (.invokevirtual 136, 3) := by decide +kernel
theorem dX10_person_10 : decode cX10_person 10 = .ok (.ifCond .eq 12, 3) := by decide +kernel
theorem dX10_person_13 : decode cX10_person 13 = .ok (.iload_n 2, 1) := by decide +kernel
theorem dX10_person_14 : decode cX10_person 14 = .ok (.iconst 0, 1) := by decide +kernel
theorem dX10_person_15 : decode cX10_person 15 = .ok (.iconst 5, 1) := by decide +kernel
theorem dX10_person_16 : decode cX10_person 16 = .ok (.invokestatic 66, 3) := by decide +kernel
theorem dX10_person_19 : decode cX10_person 19 = .ok (.ifCond .ne 5, 3) := by decide +kernel
theorem dX10_person_22 : decode cX10_person 22 = .ok (.iconst (-1), 1) := by decide +kernel
theorem dX10_person_23 : decode cX10_person 23 = .ok (.ireturn, 1) := by decide +kernel
theorem dX10_person_24 : decode cX10_person 24 = .ok (.aload_n 0, 1) := by decide +kernel
theorem dX10_person_25 : decode cX10_person 25 = .ok (.invokevirtual 139, 3) := by decide +kernel
theorem dX10_person_28 : decode cX10_person 28 = .ok (.iload_n 2, 1) := by decide +kernel
theorem dX10_person_29 : decode cX10_person 29 = .ok (.iconst 3, 1) := by decide +kernel
theorem dX10_person_30 : decode cX10_person 30 = .ok (.if_icmp .ge 41, 3) := by decide +kernel
theorem dX10_person_33 : decode cX10_person 33 = .ok (.iload_n 2, 1) := by decide +kernel
theorem dX10_person_34 : decode cX10_person 34 = .ok (.ifCond .ne 12, 3) := by decide +kernel
theorem dX10_person_37 : decode cX10_person 37 = .ok (.aload_n 0, 1) := by decide +kernel
theorem dX10_person_38 : decode cX10_person 38 = .ok (.iload_n 1, 1) := by decide +kernel
theorem dX10_person_39 : decode cX10_person 39 = .ok (.iconst 0, 1) := by decide +kernel
theorem dX10_person_40 : decode cX10_person 40 = .ok (.invokevirtual 130, 3) := by decide +kernel
theorem dX10_person_43 : decode cX10_person 43 = .ok (.goto 27, 3) := by decide +kernel
theorem dX10_person_46 : decode cX10_person 46 = .ok (.iload_n 2, 1) := by decide +kernel
theorem dX10_person_47 : decode cX10_person 47 = .ok (.iconst 1, 1) := by decide +kernel
theorem dX10_person_48 : decode cX10_person 48 = .ok (.if_icmp .ne 14, 3) := by decide +kernel
theorem dX10_person_51 : decode cX10_person 51 = .ok (.aload_n 0, 1) := by decide +kernel
theorem dX10_person_52 : decode cX10_person 52 = .ok (.getfield 31, 3) := by decide +kernel
theorem dX10_person_55 : decode cX10_person 55 = .ok (.iconst 0, 1) := by decide +kernel
theorem dX10_person_56 : decode cX10_person 56 = .ok (.iload_n 1, 1) := by decide +kernel
theorem dX10_person_57 : decode cX10_person 57 = .ok (.iadd, 1) := by decide +kernel
theorem dX10_person_58 : decode cX10_person 58 = .ok (.iaload, 1) := by decide +kernel
theorem dX10_person_59 : decode cX10_person 59 = .ok (.goto 11, 3) := by decide +kernel
theorem dX10_person_62 : decode cX10_person 62 = .ok (.aload_n 0, 1) := by decide +kernel
theorem dX10_person_63 : decode cX10_person 63 = .ok (.getfield 31, 3) := by decide +kernel
theorem dX10_person_66 : decode cX10_person 66 = .ok (.iconst 5, 1) := by decide +kernel
theorem dX10_person_67 : decode cX10_person 67 = .ok (.iload_n 1, 1) := by decide +kernel
theorem dX10_person_68 : decode cX10_person 68 = .ok (.iadd, 1) := by decide +kernel
theorem dX10_person_69 : decode cX10_person 69 = .ok (.iaload, 1) := by decide +kernel
theorem dX10_person_70 : decode cX10_person 70 = .ok (.ireturn, 1) := by decide +kernel
theorem dX10_person_71 : decode cX10_person 71 = .ok (.iload_n 2, 1) := by decide +kernel
theorem dX10_person_72 : decode cX10_person 72 = .ok (.iconst 3, 1) := by decide +kernel
theorem dX10_person_73 : decode cX10_person 73 = .ok (.if_icmp .ne 15, 3) := by decide +kernel
theorem dX10_person_76 : decode cX10_person 76 = .ok (.aload_n 0, 1) := by decide +kernel
theorem dX10_person_77 : decode cX10_person 77 = .ok (.getfield 31, 3) := by decide +kernel
theorem dX10_person_80 : decode cX10_person 80 = .ok (.bipush 10, 2) := by decide +kernel
theorem dX10_person_82 : decode cX10_person 82 = .ok (.iload_n 1, 1) := by decide +kernel
theorem dX10_person_83 : decode cX10_person 83 = .ok (.iadd, 1) := by decide +kernel
theorem dX10_person_84 : decode cX10_person 84 = .ok (.iaload, 1) := by decide +kernel
theorem dX10_person_85 : decode cX10_person 85 = .ok (.goto 56, 3) := by decide +kernel
theorem dX10_person_88 : decode cX10_person 88 = .ok (.iload_n 2, 1) := by decide +kernel
theorem dX10_person_89 : decode cX10_person 89 = .ok (.iconst 5, 1) := by decide +kernel
theorem dX10_person_90 : decode cX10_person 90 = .ok (.if_icmp .ne 12, 3) := by decide +kernel
theorem dX10_person_93 : decode cX10_person 93 = .ok (.aload_n 0, 1) := by decide +kernel
theorem dX10_person_94 : decode cX10_person 94 = .ok (.getfield 16, 3) := by decide +kernel
theorem dX10_person_97 : decode cX10_person 97 = .ok (.iload_n 1, 1) := by decide +kernel
theorem dX10_person_98 : decode cX10_person 98 = .ok (.iaload, 1) := by decide +kernel
theorem dX10_person_99 : decode cX10_person 99 = .ok (.goto 42, 3) := by decide +kernel
theorem dX10_person_102 : decode cX10_person 102 = .ok (.aload_n 0, 1) := by decide +kernel
theorem dX10_person_103 : decode cX10_person 103 = .ok (.getfield 31, 3) := by decide +kernel
theorem dX10_person_106 : decode cX10_person 106 = .ok (.bipush 15, 2) := by decide +kernel
theorem dX10_person_108 : decode cX10_person 108 = .ok (.iaload, 1) := by decide +kernel
theorem dX10_person_109 : decode cX10_person 109 = .ok (.sipush 240, 3) := by decide +kernel
theorem dX10_person_112 : decode cX10_person 112 = .ok (.if_icmp .ge 28, 3) := by decide +kernel
theorem dX10_person_115 : decode cX10_person 115 = .ok (.aload_n 0, 1) := by decide +kernel
theorem dX10_person_116 : decode cX10_person 116 = .ok (.iload_n 1, 1) := by decide +kernel
theorem dX10_person_117 : decode cX10_person 117 = .ok (.aload_n 0, 1) := by decide +kernel
theorem dX10_person_118 : decode cX10_person 118 = .ok (.getfield 31, 3) := by decide +kernel
theorem dX10_person_121 : decode cX10_person 121 = .ok (.bipush 15, 2) := by decide +kernel
theorem dX10_person_123 : decode cX10_person 123 = .ok (.iaload, 1) := by decide +kernel
theorem dX10_person_124 : decode cX10_person 124 = .ok (.aload_n 0, 1) := by decide +kernel
theorem dX10_person_125 : decode cX10_person 125 = .ok (.iload_n 1, 1) := by decide +kernel
theorem dX10_person_126 : decode cX10_person 126 = .ok (.iconst 0, 1) := by decide +kernel
theorem dX10_person_127 : decode cX10_person 127 = .ok (.invokevirtual 130, 3) := by decide +kernel
theorem dX10_person_130 : decode cX10_person 130 = .ok (.invokevirtual 133, 3) := by decide +kernel
theorem dX10_person_133 : decode cX10_person 133 = .ok (.ifCond .eq 7, 3) := by decide +kernel
theorem dX10_person_136 : decode cX10_person 136 = .ok (.iconst 1, 1) := by decide +kernel
theorem dX10_person_137 : decode cX10_person 137 = .ok (.goto 4, 3) := by decide +kernel
theorem dX10_person_140 : decode cX10_person 140 = .ok (.iconst 0, 1) := by decide +kernel
theorem dX10_person_141 : decode cX10_person 141 = .ok (.ireturn, 1) := by decide +kernel
theorem dX10_duty_0 : decode cX10_duty 0 = .ok (.aload_n 0, 1) := by decide +kernel
theorem dX10_duty_1 : decode cX10_duty 1 = .ok (.iconst 0, 1) := by decide +kernel
theorem dX10_duty_2 : decode cX10_duty 2 = .ok (.putfield 62, 3) := by decide +kernel
theorem dX10_duty_5 : decode cX10_duty 5 = .ok (.aload_n 0, 1) := by decide +kernel
theorem dX10_duty_6 : decode cX10_duty 6 = .ok (.iload_n 1, 1) := by decide +kernel
theorem dX10_duty_7 : decode cX10_duty 7 = .ok (.invokevirtual 142, 3) := by decide +kernel
theorem dX10_duty_10 : decode cX10_duty 10 = .ok (.ifCond .eq 12, 3) := by decide +kernel
theorem dX10_duty_13 : decode cX10_duty 13 = .ok (.iload_n 2, 1) := by decide +kernel
theorem dX10_duty_14 : decode cX10_duty 14 = .ok (.iconst 0, 1) := by decide +kernel
theorem dX10_duty_15 : decode cX10_duty 15 = .ok (.iconst 4, 1) := by decide +kernel
theorem dX10_duty_16 : decode cX10_duty 16 = .ok (.invokestatic 66, 3) := by decide +kernel
theorem dX10_duty_19 : decode cX10_duty 19 = .ok (.ifCond .ne 5, 3) := by decide +kernel
theorem dX10_duty_22 : decode cX10_duty 22 = .ok (.iconst (-1), 1) := by decide +kernel
theorem dX10_duty_23 : decode cX10_duty 23 = .ok (.ireturn, 1) := by decide +kernel
theorem dX10_duty_24 : decode cX10_duty 24 = .ok (.iload_n 2, 1) := by decide +kernel
theorem dX10_duty_25 : decode cX10_duty 25 = .ok (.ifCond .ne 15, 3) := by decide +kernel
theorem dX10_duty_28 : decode cX10_duty 28 = .ok (.aload_n 0, 1) := by decide +kernel
theorem dX10_duty_29 : decode cX10_duty 29 = .ok (.getfield 31, 3) := by decide +kernel
theorem dX10_duty_32 : decode cX10_duty 32 = .ok (.bipush 17, 2) := by decide +kernel
theorem dX10_duty_34 : decode cX10_duty 34 = .ok (.iload_n 1, 1) := by decide +kernel
theorem dX10_duty_35 : decode cX10_duty 35 = .ok (.iadd, 1) := by decide +kernel
theorem dX10_duty_36 : decode cX10_duty 36 = .ok (.iaload, 1) := by decide +kernel
theorem dX10_duty_37 : decode cX10_duty 37 = .ok (.goto 56, 3) := by decide +kernel
theorem dX10_duty_40 : decode cX10_duty 40 = .ok (.iload_n 2, 1) := by decide +kernel
theorem dX10_duty_41 : decode cX10_duty 41 = .ok (.iconst 1, 1) := by decide +kernel
theorem dX10_duty_42 : decode cX10_duty 42 = .ok (.if_icmp .ne 12, 3) := by decide +kernel
theorem dX10_duty_45 : decode cX10_duty 45 = .ok (.aload_n 0, 1) := by decide +kernel
theorem dX10_duty_46 : decode cX10_duty 46 = .ok (.getfield 22, 3) := by decide +kernel
theorem dX10_duty_49 : decode cX10_duty 49 = .ok (.iload_n 1, 1) := by decide +kernel
theorem dX10_duty_50 : decode cX10_duty 50 = .ok (.iaload, 1) := by decide +kernel
theorem dX10_duty_51 : decode cX10_duty 51 = .ok (.goto 42, 3) := by decide +kernel
theorem dX10_duty_54 : decode cX10_duty 54 = .ok (.iload_n 2, 1) := by decide +kernel
theorem dX10_duty_55 : decode cX10_duty 55 = .ok (.iconst 2, 1) := by decide +kernel
theorem dX10_duty_56 : decode cX10_duty 56 = .ok (.if_icmp .ne 12, 3) := by decide +kernel
theorem dX10_duty_59 : decode cX10_duty 59 = .ok (.aload_n 0, 1) := by decide +kernel
theorem dX10_duty_60 : decode cX10_duty 60 = .ok (.getfield 25, 3) := by decide +kernel
theorem dX10_duty_63 : decode cX10_duty 63 = .ok (.iload_n 1, 1) := by decide +kernel
theorem dX10_duty_64 : decode cX10_duty 64 = .ok (.iaload, 1) := by decide +kernel
theorem dX10_duty_65 : decode cX10_duty 65 = .ok (.goto 28, 3) := by decide +kernel
theorem dX10_duty_68 : decode cX10_duty 68 = .ok (.iload_n 2, 1) := by decide +kernel
theorem dX10_duty_69 : decode cX10_duty 69 = .ok (.iconst 3, 1) := by decide +kernel
theorem dX10_duty_70 : decode cX10_duty 70 = .ok (.if_icmp .ne 12, 3) := by decide +kernel
theorem dX10_duty_73 : decode cX10_duty 73 = .ok (.aload_n 0, 1) := by decide +kernel
theorem dX10_duty_74 : decode cX10_duty 74 = .ok (.getfield 28, 3) := by decide +kernel
theorem dX10_duty_77 : decode cX10_duty 77 = .ok (.iload_n 1, 1) := by decide +kernel
theorem dX10_duty_78 : decode cX10_duty 78 = .ok (.iaload, 1) := by decide +kernel
theorem dX10_duty_79 : decode cX10_duty 79 = .ok (.goto 14, 3) := by decide +kernel
theorem dX10_duty_82 : decode cX10_duty 82 = .ok (.aload_n 0, 1) := by decide +kernel
theorem dX10_duty_83 : decode cX10_duty 83 = .ok (.getfield 31, 3) := by decide +kernel
theorem dX10_duty_86 : decode cX10_duty 86 = .ok (.bipush 16, 2) := by decide +kernel
theorem dX10_duty_88 : decode cX10_duty 88 = .ok (.iaload, 1) := by decide +kernel
theorem dX10_duty_89 : decode cX10_duty 89 = .ok (.iload_n 1, 1) := by decide +kernel
theorem dX10_duty_90 : decode cX10_duty 90 = .ok (.ishr, 1) := by decide +kernel
theorem dX10_duty_91 : decode cX10_duty 91 = .ok (.iconst 1, 1) := by decide +kernel
theorem dX10_duty_92 : decode cX10_duty 92 = .ok (.iand, 1) := by decide +kernel
theorem dX10_duty_93 : decode cX10_duty 93 = .ok (.ireturn, 1) := by decide +kernel
theorem dX10_worst_0 : decode cX10_worst 0 = .ok (.bipush (-9), 2) := by decide +kernel
theorem dX10_worst_2 : decode cX10_worst 2 = .ok (.istore_n 1, 1) := by decide +kernel
theorem dX10_worst_3 : decode cX10_worst 3 = .ok (.aload_n 0, 1) := by decide +kernel
theorem dX10_worst_4 : decode cX10_worst 4 = .ok (.getfield 13, 3) := by decide +kernel
theorem dX10_worst_7 : decode cX10_worst 7 = .ok (.iconst 1, 1) := by decide +kernel
theorem dX10_worst_8 : decode cX10_worst 8 = .ok (.iaload, 1) := by decide +kernel
theorem dX10_worst_9 : decode cX10_worst 9 = .ok (.iconst 1, 1) := by decide +kernel
theorem dX10_worst_10 : decode cX10_worst 10 = .ok (.isub, 1) := by decide +kernel
theorem dX10_worst_11 : decode cX10_worst 11 = .ok (.istore_n 2, 1) := by decide +kernel
theorem dX10_worst_12 : decode cX10_worst 12 = .ok (.iload_n 2, 1) := by decide +kernel
theorem dX10_worst_13 : decode cX10_worst 13 = .ok (.ifCond .lt 54, 3) := by decide +kernel
theorem dX10_worst_16 : decode cX10_worst 16 = .ok (.aload_n 0, 1) := by decide +kernel
theorem dX10_worst_17 : decode cX10_worst 17 = .ok (.getfield 31, 3) := by decide +kernel
theorem dX10_worst_20 : decode cX10_worst 20 = .ok (.bipush 10, 2) := by decide +kernel
theorem dX10_worst_22 : decode cX10_worst 22 = .ok (.iload_n 2, 1) := by decide +kernel
theorem dX10_worst_23 : decode cX10_worst 23 = .ok (.iadd, 1) := by decide +kernel
theorem dX10_worst_24 : decode cX10_worst 24 = .ok (.iaload, 1) := by decide +kernel
theorem dX10_worst_25 : decode cX10_worst 25 = .ok (.ifCond .le 34, 3) := by decide +kernel
theorem dX10_worst_28 : decode cX10_worst 28 = .ok (.iload_n 1, 1) := by decide +kernel
theorem dX10_worst_29 : decode cX10_worst 29 = .ok (.bipush (-9), 2) := by decide +kernel
theorem dX10_worst_31 : decode cX10_worst 31 = .ok (.if_icmp .eq 24, 3) := by decide +kernel
theorem dX10_worst_34 : decode cX10_worst 34 = .ok (.aload_n 0, 1) := by decide +kernel
theorem dX10_worst_35 : decode cX10_worst 35 = .ok (.getfield 31, 3) := by decide +kernel
theorem dX10_worst_38 : decode cX10_worst 38 = .ok (.bipush 10, 2) := by decide +kernel
theorem dX10_worst_40 : decode cX10_worst 40 = .ok (.iload_n 2, 1) := by decide +kernel
theorem dX10_worst_41 : decode cX10_worst 41 = .ok (.iadd, 1) := by decide +kernel
theorem dX10_worst_42 : decode cX10_worst 42 = .ok (.iaload, 1) := by decide +kernel
theorem dX10_worst_43 : decode cX10_worst 43 = .ok (.aload_n 0, 1) := by decide +kernel
theorem dX10_worst_44 : decode cX10_worst 44 = .ok (.getfield 31, 3) := by decide +kernel
theorem dX10_worst_47 : decode cX10_worst 47 = .ok (.bipush 10, 2) := by decide +kernel
theorem dX10_worst_49 : decode cX10_worst 49 = .ok (.iload_n 1, 1) := by decide +kernel
theorem dX10_worst_50 : decode cX10_worst 50 = .ok (.iadd, 1) := by decide +kernel
theorem dX10_worst_51 : decode cX10_worst 51 = .ok (.iaload, 1) := by decide +kernel
theorem dX10_worst_52 : decode cX10_worst 52 = .ok (.if_icmp .lt 7, 3) := by decide +kernel
theorem dX10_worst_55 : decode cX10_worst 55 = .ok (.iload_n 2, 1) := by decide +kernel
theorem dX10_worst_56 : decode cX10_worst 56 = .ok (.goto 4, 3) := by decide +kernel
theorem dX10_worst_59 : decode cX10_worst 59 = .ok (.iload_n 1, 1) := by decide +kernel
theorem dX10_worst_60 : decode cX10_worst 60 = .ok (.istore_n 1, 1) := by decide +kernel
theorem dX10_worst_61 : decode cX10_worst 61 = .ok (.iinc 2 (-1), 3) := by decide +kernel
theorem dX10_worst_64 : decode cX10_worst 64 = .ok (.goto (-52), 3) := by decide +kernel
theorem dX10_worst_67 : decode cX10_worst 67 = .ok (.iload_n 1, 1) := by decide +kernel
theorem dX10_worst_68 : decode cX10_worst 68 = .ok (.ireturn, 1) := by decide +kernel
theorem dX10_firstRung_0 : decode cX10_firstRung 0 = .ok (.aload_n 0, 1) := by decide +kernel
theorem dX10_firstRung_1 : decode cX10_firstRung 1 = .ok (.invokevirtual 139, 3) := by decide +kernel
theorem dX10_firstRung_4 : decode cX10_firstRung 4 = .ok (.aload_n 0, 1) := by decide +kernel
theorem dX10_firstRung_5 : decode cX10_firstRung 5 = .ok (.getfield 31, 3) := by decide +kernel
theorem dX10_firstRung_8 : decode cX10_firstRung 8 = .ok (.bipush 15, 2) := by decide +kernel
theorem dX10_firstRung_10 : decode cX10_firstRung 10 = .ok (.iaload, 1) := by decide +kernel
theorem dX10_firstRung_11 : decode cX10_firstRung 11 = .ok (.istore_n 1, 1) := by decide +kernel
theorem dX10_firstRung_12 : decode cX10_firstRung 12 = .ok (.iload_n 1, 1) := by decide +kernel
theorem dX10_firstRung_13 : decode cX10_firstRung 13 = .ok (.sipush 240, 3) := by decide +kernel
theorem dX10_firstRung_16 : decode cX10_firstRung 16 = .ok (.if_icmp .ge 19, 3) := by decide +kernel
theorem dX10_firstRung_19 : decode cX10_firstRung 19 = .ok (.aload_n 0, 1) := by decide +kernel
theorem dX10_firstRung_20 : decode cX10_firstRung 20 = .ok (.iload_n 1, 1) := by decide +kernel
theorem dX10_firstRung_21 : decode cX10_firstRung 21 = .ok (.invokevirtual 145, 3) := by decide +kernel
theorem dX10_firstRung_24 : decode cX10_firstRung 24 = .ok (.ifCond .eq 5, 3) := by decide +kernel
theorem dX10_firstRung_27 : decode cX10_firstRung 27 = .ok (.iload_n 1, 1) := by decide +kernel
theorem dX10_firstRung_28 : decode cX10_firstRung 28 = .ok (.ireturn, 1) := by decide +kernel
theorem dX10_firstRung_29 : decode cX10_firstRung 29 = .ok (.iinc 1 1, 3) := by decide +kernel
theorem dX10_firstRung_32 : decode cX10_firstRung 32 = .ok (.goto (-20), 3) := by decide +kernel
theorem dX10_firstRung_35 : decode cX10_firstRung 35 = .ok (.bipush (-9), 2) := by decide +kernel
theorem dX10_firstRung_37 : decode cX10_firstRung 37 = .ok (.ireturn, 1) := by decide +kernel
theorem dX10_now_0 : decode cX10_now 0 = .ok (.aload_n 0, 1) := by decide +kernel
theorem dX10_now_1 : decode cX10_now 1 = .ok (.iconst 0, 1) := by decide +kernel
theorem dX10_now_2 : decode cX10_now 2 = .ok (.putfield 62, 3) := by decide +kernel
theorem dX10_now_5 : decode cX10_now 5 = .ok (.iload_n 1, 1) := by decide +kernel
theorem dX10_now_6 : decode cX10_now 6 = .ok (.iconst 0, 1) := by decide +kernel
theorem dX10_now_7 : decode cX10_now 7 = .ok (.iconst 5, 1) := by decide +kernel
theorem dX10_now_8 : decode cX10_now 8 = .ok (.invokestatic 66, 3) := by decide +kernel
theorem dX10_now_11 : decode cX10_now 11 = .ok (.ifCond .ne 5, 3) := by decide +kernel
theorem dX10_now_14 : decode cX10_now 14 = .ok (.iconst (-1), 1) := by decide +kernel
theorem dX10_now_15 : decode cX10_now 15 = .ok (.ireturn, 1) := by decide +kernel
theorem dX10_now_16 : decode cX10_now 16 = .ok (.iconst 0, 1) := by decide +kernel
theorem dX10_now_17 : decode cX10_now 17 = .ok (.istore_n 2, 1) := by decide +kernel
theorem dX10_now_18 : decode cX10_now 18 = .ok (.iconst 0, 1) := by decide +kernel
theorem dX10_now_19 : decode cX10_now 19 = .ok (.istore_n 3, 1) := by decide +kernel
theorem dX10_now_20 : decode cX10_now 20 = .ok (.iload_n 3, 1) := by decide +kernel
theorem dX10_now_21 : decode cX10_now 21 = .ok (.aload_n 0, 1) := by decide +kernel
theorem dX10_now_22 : decode cX10_now 22 = .ok (.getfield 13, 3) := by decide +kernel
theorem dX10_now_25 : decode cX10_now 25 = .ok (.iconst 1, 1) := by decide +kernel
theorem dX10_now_26 : decode cX10_now 26 = .ok (.iaload, 1) := by decide +kernel
theorem dX10_now_27 : decode cX10_now 27 = .ok (.if_icmp .ge 21, 3) := by decide +kernel
theorem dX10_now_30 : decode cX10_now 30 = .ok (.iload_n 2, 1) := by decide +kernel
theorem dX10_now_31 : decode cX10_now 31 = .ok (.aload_n 0, 1) := by decide +kernel
theorem dX10_now_32 : decode cX10_now 32 = .ok (.getfield 31, 3) := by decide +kernel
theorem dX10_now_35 : decode cX10_now 35 = .ok (.bipush 10, 2) := by decide +kernel
theorem dX10_now_37 : decode cX10_now 37 = .ok (.iload_n 3, 1) := by decide +kernel
theorem dX10_now_38 : decode cX10_now 38 = .ok (.iadd, 1) := by decide +kernel
theorem dX10_now_39 : decode cX10_now 39 = .ok (.iaload, 1) := by decide +kernel
theorem dX10_now_40 : decode cX10_now 40 = .ok (.iadd, 1) := by decide +kernel
theorem dX10_now_41 : decode cX10_now 41 = .ok (.istore_n 2, 1) := by decide +kernel
theorem dX10_now_42 : decode cX10_now 42 = .ok (.iinc 3 1, 3) := by decide +kernel
theorem dX10_now_45 : decode cX10_now 45 = .ok (.goto (-25), 3) := by decide +kernel
theorem dX10_now_48 : decode cX10_now 48 = .ok (.iload_n 1, 1) := by decide +kernel
theorem dX10_now_49 : decode cX10_now 49 = .ok (.iconst 2, 1) := by decide +kernel
theorem dX10_now_50 : decode cX10_now 50 = .ok (.if_icmp .ge 15, 3) := by decide +kernel
theorem dX10_now_53 : decode cX10_now 53 = .ok (.aload_n 0, 1) := by decide +kernel
theorem dX10_now_54 : decode cX10_now 54 = .ok (.getfield 31, 3) := by decide +kernel
theorem dX10_now_57 : decode cX10_now 57 = .ok (.bipush 15, 2) := by decide +kernel
theorem dX10_now_59 : decode cX10_now 59 = .ok (.iload_n 1, 1) := by decide +kernel
theorem dX10_now_60 : decode cX10_now 60 = .ok (.iadd, 1) := by decide +kernel
theorem dX10_now_61 : decode cX10_now 61 = .ok (.iaload, 1) := by decide +kernel
theorem dX10_now_62 : decode cX10_now 62 = .ok (.goto 40, 3) := by decide +kernel
theorem dX10_now_65 : decode cX10_now 65 = .ok (.iload_n 1, 1) := by decide +kernel
theorem dX10_now_66 : decode cX10_now 66 = .ok (.iconst 2, 1) := by decide +kernel
theorem dX10_now_67 : decode cX10_now 67 = .ok (.if_icmp .ne 7, 3) := by decide +kernel
theorem dX10_now_70 : decode cX10_now 70 = .ok (.iload_n 2, 1) := by decide +kernel
theorem dX10_now_71 : decode cX10_now 71 = .ok (.goto 31, 3) := by decide +kernel
theorem dX10_now_74 : decode cX10_now 74 = .ok (.iload_n 1, 1) := by decide +kernel
theorem dX10_now_75 : decode cX10_now 75 = .ok (.iconst 3, 1) := by decide +kernel
theorem dX10_now_76 : decode cX10_now 76 = .ok (.if_icmp .ne 10, 3) := by decide +kernel
theorem dX10_now_79 : decode cX10_now 79 = .ok (.aload_n 0, 1) := by decide +kernel
theorem dX10_now_80 : decode cX10_now 80 = .ok (.invokevirtual 148, 3) := by decide +kernel
theorem dX10_now_83 : decode cX10_now 83 = .ok (.goto 19, 3) := by decide +kernel
theorem dX10_now_86 : decode cX10_now 86 = .ok (.iload_n 1, 1) := by decide +kernel
theorem dX10_now_87 : decode cX10_now 87 = .ok (.iconst 4, 1) := by decide +kernel
theorem dX10_now_88 : decode cX10_now 88 = .ok (.if_icmp .ne 10, 3) := by decide +kernel
theorem dX10_now_91 : decode cX10_now 91 = .ok (.aload_n 0, 1) := by decide +kernel
theorem dX10_now_92 : decode cX10_now 92 = .ok (.invokevirtual 152, 3) := by decide +kernel
theorem dX10_now_95 : decode cX10_now 95 = .ok (.goto 7, 3) := by decide +kernel
theorem dX10_now_98 : decode cX10_now 98 = .ok (.aload_n 0, 1) := by decide +kernel
theorem dX10_now_99 : decode cX10_now 99 = .ok (.getfield 124, 3) := by decide +kernel
theorem dX10_now_102 : decode cX10_now 102 = .ok (.ireturn, 1) := by decide +kernel
theorem dX10_notes_0 : decode cX10_notes 0 = .ok (.aload_n 0, 1) := by decide +kernel
theorem dX10_notes_1 : decode cX10_notes 1 = .ok (.getfield 124, 3) := by decide +kernel
theorem dX10_notes_4 : decode cX10_notes 4 = .ok (.bipush 10, 2) := by decide +kernel
theorem dX10_notes_6 : decode cX10_notes 6 = .ok (.if_icmp .ne 39, 3) := by decide +kernel
theorem dX10_notes_9 : decode cX10_notes 9 = .ok (.iconst 0, 1) := by decide +kernel
theorem dX10_notes_10 : decode cX10_notes 10 = .ok (.istore_n 1, 1) := by decide +kernel
theorem dX10_notes_11 : decode cX10_notes 11 = .ok (.iload_n 1, 1) := by decide +kernel
theorem dX10_notes_12 : decode cX10_notes 12 = .ok (.sipush 225, 3) := by decide +kernel
theorem dX10_notes_15 : decode cX10_notes 15 = .ok (.if_icmp .ge 24, 3) := by decide +kernel
theorem dX10_notes_18 : decode cX10_notes 18 = .ok (.aload_n 0, 1) := by decide +kernel
theorem dX10_notes_19 : decode cX10_notes 19 = .ok (.getfield 41, 3) := by decide +kernel
theorem dX10_notes_22 : decode cX10_notes 22 = .ok (.iload_n 1, 1) := by decide +kernel
theorem dX10_notes_23 : decode cX10_notes 23 = .ok (.aload_n 0, 1) := by decide +kernel
theorem dX10_notes_24 : decode cX10_notes 24 = .ok (.getfield 41, 3) := by decide +kernel
theorem dX10_notes_27 : decode cX10_notes 27 = .ok (.iload_n 1, 1) := by decide +kernel
theorem dX10_notes_28 : decode cX10_notes 28 = .ok (.bipush 25, 2) := by decide +kernel
theorem dX10_notes_30 : decode cX10_notes 30 = .ok (.iadd, 1) := by decide +kernel
theorem dX10_notes_31 : decode cX10_notes 31 = .ok (.iaload, 1) := by decide +kernel
theorem dX10_notes_32 : decode cX10_notes 32 = .ok (.iastore, 1) := by decide +kernel
theorem dX10_notes_33 : decode cX10_notes 33 = .ok (.iinc 1 1, 3) := by decide +kernel
theorem dX10_notes_36 : decode cX10_notes 36 = .ok (.goto (-25), 3) := by decide +kernel
theorem dX10_notes_39 : decode cX10_notes 39 = .ok (.aload_n 0, 1) := by decide +kernel
theorem dX10_notes_40 : decode cX10_notes 40 = .ok (.bipush 9, 2) := by decide +kernel
theorem dX10_notes_42 : decode cX10_notes 42 = .ok (.putfield 124, 3) := by decide +kernel
theorem dX10_notes_45 : decode cX10_notes 45 = .ok (.iconst 0, 1) := by decide +kernel
theorem dX10_notes_46 : decode cX10_notes 46 = .ok (.istore_n 1, 1) := by decide +kernel
theorem dX10_notes_47 : decode cX10_notes 47 = .ok (.iload_n 1, 1) := by decide +kernel
theorem dX10_notes_48 : decode cX10_notes 48 = .ok (.bipush 25, 2) := by decide +kernel
theorem dX10_notes_50 : decode cX10_notes 50 = .ok (.if_icmp .ge 29, 3) := by decide +kernel
theorem dX10_notes_53 : decode cX10_notes 53 = .ok (.aload_n 0, 1) := by decide +kernel
theorem dX10_notes_54 : decode cX10_notes 54 = .ok (.getfield 41, 3) := by decide +kernel
theorem dX10_notes_57 : decode cX10_notes 57 = .ok (.bipush 25, 2) := by decide +kernel
theorem dX10_notes_59 : decode cX10_notes 59 = .ok (.aload_n 0, 1) := by decide +kernel
theorem dX10_notes_60 : decode cX10_notes 60 = .ok (.getfield 124, 3) := by decide +kernel
theorem dX10_notes_63 : decode cX10_notes 63 = .ok (.imul, 1) := by decide +kernel
theorem dX10_notes_64 : decode cX10_notes 64 = .ok (.iload_n 1, 1) := by decide +kernel
theorem dX10_notes_65 : decode cX10_notes 65 = .ok (.iadd, 1) := by decide +kernel
theorem dX10_notes_66 : decode cX10_notes 66 = .ok (.aload_n 0, 1) := by decide +kernel
theorem dX10_notes_67 : decode cX10_notes 67 = .ok (.getfield 31, 3) := by decide +kernel
theorem dX10_notes_70 : decode cX10_notes 70 = .ok (.iload_n 1, 1) := by decide +kernel
theorem dX10_notes_71 : decode cX10_notes 71 = .ok (.iaload, 1) := by decide +kernel
theorem dX10_notes_72 : decode cX10_notes 72 = .ok (.iastore, 1) := by decide +kernel
theorem dX10_notes_73 : decode cX10_notes 73 = .ok (.iinc 1 1, 3) := by decide +kernel
theorem dX10_notes_76 : decode cX10_notes 76 = .ok (.goto (-29), 3) := by decide +kernel
theorem dX10_notes_79 : decode cX10_notes 79 = .ok (.aload_n 0, 1) := by decide +kernel
theorem dX10_notes_80 : decode cX10_notes 80 = .ok (.dup, 1) := by decide +kernel
theorem dX10_notes_81 : decode cX10_notes 81 = .ok (.getfield 124, 3) := by decide +kernel
theorem dX10_notes_84 : decode cX10_notes 84 = .ok (.iconst 1, 1) := by decide +kernel
theorem dX10_notes_85 : decode cX10_notes 85 = .ok (.iadd, 1) := by decide +kernel
theorem dX10_notes_86 : decode cX10_notes 86 = .ok (.putfield 124, 3) := by decide +kernel
theorem dX10_notes_89 : decode cX10_notes 89 = .ok (.return_, 1) := by decide +kernel
theorem dX10_walk_0 : decode cX10_walk 0 = .ok (.aload_n 0, 1) := by decide +kernel
theorem dX10_walk_1 : decode cX10_walk 1 = .ok (.getfield 13, 3) := by decide +kernel
theorem dX10_walk_4 : decode cX10_walk 4 = .ok (.iconst 3, 1) := by decide +kernel
theorem dX10_walk_5 : decode cX10_walk 5 = .ok (.iaload, 1) := by decide +kernel
theorem dX10_walk_6 : decode cX10_walk 6 = .ok (.iload_n 1, 1) := by decide +kernel
theorem dX10_walk_7 : decode cX10_walk 7 = .ok (.iload_n 2, 1) := by decide +kernel
theorem dX10_walk_8 : decode cX10_walk 8 = .ok (.if_icmp .ge 9, 3) := by decide +kernel
theorem dX10_walk_11 : decode cX10_walk 11 = .ok (.iload_n 2, 1) := by decide +kernel
theorem dX10_walk_12 : decode cX10_walk 12 = .ok (.iload_n 1, 1) := by decide +kernel
theorem dX10_walk_13 : decode cX10_walk 13 = .ok (.isub, 1) := by decide +kernel
theorem dX10_walk_14 : decode cX10_walk 14 = .ok (.goto 6, 3) := by decide +kernel
theorem dX10_walk_17 : decode cX10_walk 17 = .ok (.iload_n 1, 1) := by decide +kernel
theorem dX10_walk_18 : decode cX10_walk 18 = .ok (.iload_n 2, 1) := by decide +kernel
theorem dX10_walk_19 : decode cX10_walk 19 = .ok (.isub, 1) := by decide +kernel
theorem dX10_walk_20 : decode cX10_walk 20 = .ok (.imul, 1) := by decide +kernel
theorem dX10_walk_21 : decode cX10_walk 21 = .ok (.ireturn, 1) := by decide +kernel
theorem dX10_goes_0 : decode cX10_goes 0 = .ok (.aload_n 0, 1) := by decide +kernel
theorem dX10_goes_1 : decode cX10_goes 1 = .ok (.iconst 0, 1) := by decide +kernel
theorem dX10_goes_2 : decode cX10_goes 2 = .ok (.putfield 62, 3) := by decide +kernel
theorem dX10_goes_5 : decode cX10_goes 5 = .ok (.aload_n 0, 1) := by decide +kernel
theorem dX10_goes_6 : decode cX10_goes 6 = .ok (.iload_n 1, 1) := by decide +kernel
theorem dX10_goes_7 : decode cX10_goes 7 = .ok (.invokevirtual 136, 3) := by decide +kernel
theorem dX10_goes_10 : decode cX10_goes 10 = .ok (.ifCond .eq 11, 3) := by decide +kernel
theorem dX10_goes_13 : decode cX10_goes 13 = .ok (.aload_n 0, 1) := by decide +kernel
theorem dX10_goes_14 : decode cX10_goes 14 = .ok (.iload_n 2, 1) := by decide +kernel
theorem dX10_goes_15 : decode cX10_goes 15 = .ok (.invokevirtual 155, 3) := by decide +kernel
theorem dX10_goes_18 : decode cX10_goes 18 = .ok (.ifCond .ne 5, 3) := by decide +kernel
theorem dX10_goes_21 : decode cX10_goes 21 = .ok (.iconst (-1), 1) := by decide +kernel
theorem dX10_goes_22 : decode cX10_goes 22 = .ok (.ireturn, 1) := by decide +kernel
theorem dX10_goes_23 : decode cX10_goes 23 = .ok (.aload_n 0, 1) := by decide +kernel
theorem dX10_goes_24 : decode cX10_goes 24 = .ok (.getfield 31, 3) := by decide +kernel
theorem dX10_goes_27 : decode cX10_goes 27 = .ok (.iconst 5, 1) := by decide +kernel
theorem dX10_goes_28 : decode cX10_goes 28 = .ok (.iload_n 1, 1) := by decide +kernel
theorem dX10_goes_29 : decode cX10_goes 29 = .ok (.iadd, 1) := by decide +kernel
theorem dX10_goes_30 : decode cX10_goes 30 = .ok (.iaload, 1) := by decide +kernel
theorem dX10_goes_31 : decode cX10_goes 31 = .ok (.ifCond .gt 15, 3) := by decide +kernel
theorem dX10_goes_34 : decode cX10_goes 34 = .ok (.aload_n 0, 1) := by decide +kernel
theorem dX10_goes_35 : decode cX10_goes 35 = .ok (.getfield 31, 3) := by decide +kernel
theorem dX10_goes_38 : decode cX10_goes 38 = .ok (.iconst 0, 1) := by decide +kernel
theorem dX10_goes_39 : decode cX10_goes 39 = .ok (.iload_n 1, 1) := by decide +kernel
theorem dX10_goes_40 : decode cX10_goes 40 = .ok (.iadd, 1) := by decide +kernel
theorem dX10_goes_41 : decode cX10_goes 41 = .ok (.iaload, 1) := by decide +kernel
theorem dX10_goes_42 : decode cX10_goes 42 = .ok (.iload_n 2, 1) := by decide +kernel
theorem dX10_goes_43 : decode cX10_goes 43 = .ok (.if_icmp .ne 6, 3) := by decide +kernel
theorem dX10_goes_46 : decode cX10_goes 46 = .ok (.bipush (-2), 2) := by decide +kernel
theorem dX10_goes_48 : decode cX10_goes 48 = .ok (.ireturn, 1) := by decide +kernel
theorem dX10_goes_49 : decode cX10_goes 49 = .ok (.aload_n 0, 1) := by decide +kernel
theorem dX10_goes_50 : decode cX10_goes 50 = .ok (.invokevirtual 158, 3) := by decide +kernel
theorem dX10_goes_53 : decode cX10_goes 53 = .ok (.aload_n 0, 1) := by decide +kernel
theorem dX10_goes_54 : decode cX10_goes 54 = .ok (.getfield 31, 3) := by decide +kernel
theorem dX10_goes_57 : decode cX10_goes 57 = .ok (.iconst 5, 1) := by decide +kernel
theorem dX10_goes_58 : decode cX10_goes 58 = .ok (.iload_n 1, 1) := by decide +kernel
theorem dX10_goes_59 : decode cX10_goes 59 = .ok (.iadd, 1) := by decide +kernel
theorem dX10_goes_60 : decode cX10_goes 60 = .ok (.aload_n 0, 1) := by decide +kernel
theorem dX10_goes_61 : decode cX10_goes 61 = .ok (.aload_n 0, 1) := by decide +kernel
theorem dX10_goes_62 : decode cX10_goes 62 = .ok (.getfield 31, 3) := by decide +kernel
theorem dX10_goes_65 : decode cX10_goes 65 = .ok (.iconst 0, 1) := by decide +kernel
theorem dX10_goes_66 : decode cX10_goes 66 = .ok (.iload_n 1, 1) := by decide +kernel
theorem dX10_goes_67 : decode cX10_goes 67 = .ok (.iadd, 1) := by decide +kernel
theorem dX10_goes_68 : decode cX10_goes 68 = .ok (.iaload, 1) := by decide +kernel
theorem dX10_goes_69 : decode cX10_goes 69 = .ok (.iload_n 2, 1) := by decide +kernel
theorem dX10_goes_70 : decode cX10_goes 70 = .ok (.invokevirtual 161, 3) := by decide +kernel
theorem dX10_goes_73 : decode cX10_goes 73 = .ok (.iastore, 1) := by decide +kernel
theorem dX10_goes_74 : decode cX10_goes 74 = .ok (.aload_n 0, 1) := by decide +kernel
theorem dX10_goes_75 : decode cX10_goes 75 = .ok (.getfield 31, 3) := by decide +kernel
theorem dX10_goes_78 : decode cX10_goes 78 = .ok (.iconst 0, 1) := by decide +kernel
theorem dX10_goes_79 : decode cX10_goes 79 = .ok (.iload_n 1, 1) := by decide +kernel
theorem dX10_goes_80 : decode cX10_goes 80 = .ok (.iadd, 1) := by decide +kernel
theorem dX10_goes_81 : decode cX10_goes 81 = .ok (.iload_n 2, 1) := by decide +kernel
theorem dX10_goes_82 : decode cX10_goes 82 = .ok (.iastore, 1) := by decide +kernel
theorem dX10_goes_83 : decode cX10_goes 83 = .ok (.aload_n 0, 1) := by decide +kernel
theorem dX10_goes_84 : decode cX10_goes 84 = .ok (.getfield 31, 3) := by decide +kernel
theorem dX10_goes_87 : decode cX10_goes 87 = .ok (.iconst 5, 1) := by decide +kernel
theorem dX10_goes_88 : decode cX10_goes 88 = .ok (.iload_n 1, 1) := by decide +kernel
theorem dX10_goes_89 : decode cX10_goes 89 = .ok (.iadd, 1) := by decide +kernel
theorem dX10_goes_90 : decode cX10_goes 90 = .ok (.iaload, 1) := by decide +kernel
theorem dX10_goes_91 : decode cX10_goes 91 = .ok (.ireturn, 1) := by decide +kernel
theorem dX10_passes_0 : decode cX10_passes 0 = .ok (.aload_n 0, 1) := by decide +kernel
theorem dX10_passes_1 : decode cX10_passes 1 = .ok (.iconst 0, 1) := by decide +kernel
theorem dX10_passes_2 : decode cX10_passes 2 = .ok (.putfield 62, 3) := by decide +kernel
theorem dX10_passes_5 : decode cX10_passes 5 = .ok (.iload_n 1, 1) := by decide +kernel
theorem dX10_passes_6 : decode cX10_passes 6 = .ok (.iconst 1, 1) := by decide +kernel
theorem dX10_passes_7 : decode cX10_passes 7 = .ok (.sipush 240, 3) := by decide +kernel
theorem dX10_passes_10 : decode cX10_passes 10 = .ok (.invokestatic 66, 3) := by decide +kernel
theorem dX10_passes_13 : decode cX10_passes 13 = .ok (.ifCond .ne 5, 3) := by decide +kernel
theorem dX10_passes_16 : decode cX10_passes 16 = .ok (.iconst (-1), 1) := by decide +kernel
theorem dX10_passes_17 : decode cX10_passes 17 = .ok (.ireturn, 1) := by decide +kernel
theorem dX10_passes_18 : decode cX10_passes 18 = .ok (.aload_n 0, 1) := by decide +kernel
theorem dX10_passes_19 : decode cX10_passes 19 = .ok (.getfield 31, 3) := by decide +kernel
theorem dX10_passes_22 : decode cX10_passes 22 = .ok (.bipush 15, 2) := by decide +kernel
theorem dX10_passes_24 : decode cX10_passes 24 = .ok (.iaload, 1) := by decide +kernel
theorem dX10_passes_25 : decode cX10_passes 25 = .ok (.iload_n 1, 1) := by decide +kernel
theorem dX10_passes_26 : decode cX10_passes 26 = .ok (.iadd, 1) := by decide +kernel
theorem dX10_passes_27 : decode cX10_passes 27 = .ok (.sipush 240, 3) := by decide +kernel
theorem dX10_passes_30 : decode cX10_passes 30 = .ok (.if_icmp .le 6, 3) := by decide +kernel
theorem dX10_passes_33 : decode cX10_passes 33 = .ok (.bipush (-2), 2) := by decide +kernel
theorem dX10_passes_35 : decode cX10_passes 35 = .ok (.ireturn, 1) := by decide +kernel
theorem dX10_passes_36 : decode cX10_passes 36 = .ok (.aload_n 0, 1) := by decide +kernel
theorem dX10_passes_37 : decode cX10_passes 37 = .ok (.invokevirtual 158, 3) := by decide +kernel
theorem dX10_passes_40 : decode cX10_passes 40 = .ok (.aload_n 0, 1) := by decide +kernel
theorem dX10_passes_41 : decode cX10_passes 41 = .ok (.invokevirtual 139, 3) := by decide +kernel
theorem dX10_passes_44 : decode cX10_passes 44 = .ok (.iconst 0, 1) := by decide +kernel
theorem dX10_passes_45 : decode cX10_passes 45 = .ok (.istore_n 2, 1) := by decide +kernel
theorem dX10_passes_46 : decode cX10_passes 46 = .ok (.iconst 0, 1) := by decide +kernel
theorem dX10_passes_47 : decode cX10_passes 47 = .ok (.istore_n 3, 1) := by decide +kernel
theorem dX10_passes_48 : decode cX10_passes 48 = .ok (.iload_n 3, 1) := by decide +kernel
theorem dX10_passes_49 : decode cX10_passes 49 = .ok (.iload_n 1, 1) := by decide +kernel
theorem dX10_passes_50 : decode cX10_passes 50 = .ok (.if_icmp .ge 110, 3) := by decide +kernel
theorem dX10_passes_53 : decode cX10_passes 53 = .ok (.aload_n 0, 1) := by decide +kernel
theorem dX10_passes_54 : decode cX10_passes 54 = .ok (.aload_n 0, 1) := by decide +kernel
theorem dX10_passes_55 : decode cX10_passes 55 = .ok (.getfield 31, 3) := by decide +kernel
theorem dX10_passes_58 : decode cX10_passes 58 = .ok (.bipush 15, 2) := by decide +kernel
theorem dX10_passes_60 : decode cX10_passes 60 = .ok (.iaload, 1) := by decide +kernel
theorem dX10_passes_61 : decode cX10_passes 61 = .ok (.invokevirtual 145, 3) := by decide +kernel
theorem dX10_passes_64 : decode cX10_passes 64 = .ok (.istore 4, 2) := by decide +kernel
theorem dX10_passes_66 : decode cX10_passes 66 = .ok (.iconst 0, 1) := by decide +kernel
theorem dX10_passes_67 : decode cX10_passes 67 = .ok (.istore 5, 2) := by decide +kernel
theorem dX10_passes_69 : decode cX10_passes 69 = .ok (.iload 5, 2) := by decide +kernel
theorem dX10_passes_71 : decode cX10_passes 71 = .ok (.aload_n 0, 1) := by decide +kernel
theorem dX10_passes_72 : decode cX10_passes 72 = .ok (.getfield 13, 3) := by decide +kernel
theorem dX10_passes_75 : decode cX10_passes 75 = .ok (.iconst 1, 1) := by decide +kernel
theorem dX10_passes_76 : decode cX10_passes 76 = .ok (.iaload, 1) := by decide +kernel
theorem dX10_passes_77 : decode cX10_passes 77 = .ok (.if_icmp .ge 58, 3) := by decide +kernel
theorem dX10_passes_80 : decode cX10_passes 80 = .ok (.aload_n 0, 1) := by decide +kernel
theorem dX10_passes_81 : decode cX10_passes 81 = .ok (.getfield 31, 3) := by decide +kernel
theorem dX10_passes_84 : decode cX10_passes 84 = .ok (.bipush 10, 2) := by decide +kernel
theorem dX10_passes_86 : decode cX10_passes 86 = .ok (.iload 5, 2) := by decide +kernel
theorem dX10_passes_88 : decode cX10_passes 88 = .ok (.iadd, 1) := by decide +kernel
theorem dX10_passes_89 : decode cX10_passes 89 = .ok (.dup2, 1) := by decide +kernel
theorem dX10_passes_90 : decode cX10_passes 90 = .ok (.iaload, 1) := by decide +kernel
theorem dX10_passes_91 : decode cX10_passes 91 = .ok (.iload 4, 2) := by decide +kernel
theorem dX10_passes_93 : decode cX10_passes 93 = .ok (.iload 5, 2) := by decide +kernel
theorem dX10_passes_95 : decode cX10_passes 95 = .ok (.ishr, 1) := by decide +kernel
theorem dX10_passes_96 : decode cX10_passes 96 = .ok (.iconst 1, 1) := by decide +kernel
theorem dX10_passes_97 : decode cX10_passes 97 = .ok (.iand, 1) := by decide +kernel
theorem dX10_passes_98 : decode cX10_passes 98 = .ok (.iadd, 1) := by decide +kernel
theorem dX10_passes_99 : decode cX10_passes 99 = .ok (.iastore, 1) := by decide +kernel
theorem dX10_passes_100 : decode cX10_passes 100 = .ok (.aload_n 0, 1) := by decide +kernel
theorem dX10_passes_101 : decode cX10_passes 101 = .ok (.getfield 31, 3) := by decide +kernel
theorem dX10_passes_104 : decode cX10_passes 104 = .ok (.iconst 5, 1) := by decide +kernel
theorem dX10_passes_105 : decode cX10_passes 105 = .ok (.iload 5, 2) := by decide +kernel
theorem dX10_passes_107 : decode cX10_passes 107 = .ok (.iadd, 1) := by decide +kernel
theorem dX10_passes_108 : decode cX10_passes 108 = .ok (.dup2, 1) := by decide +kernel
theorem dX10_passes_109 : decode cX10_passes 109 = .ok (.iaload, 1) := by decide +kernel
theorem dX10_passes_110 : decode cX10_passes 110 = .ok (.aload_n 0, 1) := by decide +kernel
theorem dX10_passes_111 : decode cX10_passes 111 = .ok (.getfield 31, 3) := by decide +kernel
theorem dX10_passes_114 : decode cX10_passes 114 = .ok (.iconst 5, 1) := by decide +kernel
theorem dX10_passes_115 : decode cX10_passes 115 = .ok (.iload 5, 2) := by decide +kernel
theorem dX10_passes_117 : decode cX10_passes 117 = .ok (.iadd, 1) := by decide +kernel
theorem dX10_passes_118 : decode cX10_passes 118 = .ok (.iaload, 1) := by decide +kernel
theorem dX10_passes_119 : decode cX10_passes 119 = .ok (.ifCond .le 7, 3) := by decide +kernel
theorem dX10_passes_122 : decode cX10_passes 122 = .ok (.iconst 1, 1) := by decide +kernel
theorem dX10_passes_123 : decode cX10_passes 123 = .ok (.goto 4, 3) := by decide +kernel
theorem dX10_passes_126 : decode cX10_passes 126 = .ok (.iconst 0, 1) := by decide +kernel
theorem dX10_passes_127 : decode cX10_passes 127 = .ok (.isub, 1) := by decide +kernel
theorem dX10_passes_128 : decode cX10_passes 128 = .ok (.iastore, 1) := by decide +kernel
theorem dX10_passes_129 : decode cX10_passes 129 = .ok (.iinc 5 1, 3) := by decide +kernel
theorem dX10_passes_132 : decode cX10_passes 132 = .ok (.goto (-63), 3) := by decide +kernel
theorem dX10_passes_135 : decode cX10_passes 135 = .ok (.iload_n 2, 1) := by decide +kernel
theorem dX10_passes_136 : decode cX10_passes 136 = .ok (.iload 4, 2) := by decide +kernel
theorem dX10_passes_138 : decode cX10_passes 138 = .ok (.invokestatic 164, 3) := by decide +kernel
theorem dX10_passes_141 : decode cX10_passes 141 = .ok (.iadd, 1) := by decide +kernel
theorem dX10_passes_142 : decode cX10_passes 142 = .ok (.istore_n 2, 1) := by decide +kernel
theorem dX10_passes_143 : decode cX10_passes 143 = .ok (.aload_n 0, 1) := by decide +kernel
theorem dX10_passes_144 : decode cX10_passes 144 = .ok (.getfield 31, 3) := by decide +kernel
theorem dX10_passes_147 : decode cX10_passes 147 = .ok (.bipush 15, 2) := by decide +kernel
theorem dX10_passes_149 : decode cX10_passes 149 = .ok (.dup2, 1) := by decide +kernel
theorem dX10_passes_150 : decode cX10_passes 150 = .ok (.iaload, 1) := by decide +kernel
theorem dX10_passes_151 : decode cX10_passes 151 = .ok (.iconst 1, 1) := by decide +kernel
theorem dX10_passes_152 : decode cX10_passes 152 = .ok (.iadd, 1) := by decide +kernel
theorem dX10_passes_153 : decode cX10_passes 153 = .ok (.iastore, 1) := by decide +kernel
theorem dX10_passes_154 : decode cX10_passes 154 = .ok (.iinc 3 1, 3) := by decide +kernel
theorem dX10_passes_157 : decode cX10_passes 157 = .ok (.goto (-109), 3) := by decide +kernel
theorem dX10_passes_160 : decode cX10_passes 160 = .ok (.iload_n 2, 1) := by decide +kernel
theorem dX10_passes_161 : decode cX10_passes 161 = .ok (.ireturn, 1) := by decide +kernel
theorem dX10_excuses_0 : decode cX10_excuses 0 = .ok (.aload_n 0, 1) := by decide +kernel
theorem dX10_excuses_1 : decode cX10_excuses 1 = .ok (.iconst 0, 1) := by decide +kernel
theorem dX10_excuses_2 : decode cX10_excuses 2 = .ok (.putfield 62, 3) := by decide +kernel
theorem dX10_excuses_5 : decode cX10_excuses 5 = .ok (.aload_n 0, 1) := by decide +kernel
theorem dX10_excuses_6 : decode cX10_excuses 6 = .ok (.iload_n 1, 1) := by decide +kernel
theorem dX10_excuses_7 : decode cX10_excuses 7 = .ok (.invokevirtual 142, 3) := by decide +kernel
theorem dX10_excuses_10 : decode cX10_excuses 10 = .ok (.ifCond .eq 12, 3) := by decide +kernel
theorem dX10_excuses_13 : decode cX10_excuses 13 = .ok (.iload_n 2, 1) := by decide +kernel
theorem dX10_excuses_14 : decode cX10_excuses 14 = .ok (.iconst 0, 1) := by decide +kernel
theorem dX10_excuses_15 : decode cX10_excuses 15 = .ok (.iconst 1, 1) := by decide +kernel
theorem dX10_excuses_16 : decode cX10_excuses 16 = .ok (.invokestatic 66, 3) := by decide +kernel
theorem dX10_excuses_19 : decode cX10_excuses 19 = .ok (.ifCond .ne 5, 3) := by decide +kernel
theorem dX10_excuses_22 : decode cX10_excuses 22 = .ok (.iconst (-1), 1) := by decide +kernel
theorem dX10_excuses_23 : decode cX10_excuses 23 = .ok (.ireturn, 1) := by decide +kernel
theorem dX10_excuses_24 : decode cX10_excuses 24 = .ok (.aload_n 0, 1) := by decide +kernel
theorem dX10_excuses_25 : decode cX10_excuses 25 = .ok (.getfield 31, 3) := by decide +kernel
theorem dX10_excuses_28 : decode cX10_excuses 28 = .ok (.bipush 16, 2) := by decide +kernel
theorem dX10_excuses_30 : decode cX10_excuses 30 = .ok (.iaload, 1) := by decide +kernel
theorem dX10_excuses_31 : decode cX10_excuses 31 = .ok (.iload_n 1, 1) := by decide +kernel
theorem dX10_excuses_32 : decode cX10_excuses 32 = .ok (.ishr, 1) := by decide +kernel
theorem dX10_excuses_33 : decode cX10_excuses 33 = .ok (.iconst 1, 1) := by decide +kernel
theorem dX10_excuses_34 : decode cX10_excuses 34 = .ok (.iand, 1) := by decide +kernel
theorem dX10_excuses_35 : decode cX10_excuses 35 = .ok (.iload_n 2, 1) := by decide +kernel
theorem dX10_excuses_36 : decode cX10_excuses 36 = .ok (.if_icmp .ne 6, 3) := by decide +kernel
theorem dX10_excuses_39 : decode cX10_excuses 39 = .ok (.bipush (-2), 2) := by decide +kernel
theorem dX10_excuses_41 : decode cX10_excuses 41 = .ok (.ireturn, 1) := by decide +kernel
theorem dX10_excuses_42 : decode cX10_excuses 42 = .ok (.aload_n 0, 1) := by decide +kernel
theorem dX10_excuses_43 : decode cX10_excuses 43 = .ok (.invokevirtual 158, 3) := by decide +kernel
theorem dX10_excuses_46 : decode cX10_excuses 46 = .ok (.aload_n 0, 1) := by decide +kernel
theorem dX10_excuses_47 : decode cX10_excuses 47 = .ok (.getfield 31, 3) := by decide +kernel
theorem dX10_excuses_50 : decode cX10_excuses 50 = .ok (.bipush 16, 2) := by decide +kernel
theorem dX10_excuses_52 : decode cX10_excuses 52 = .ok (.aload_n 0, 1) := by decide +kernel
theorem dX10_excuses_53 : decode cX10_excuses 53 = .ok (.getfield 31, 3) := by decide +kernel
theorem dX10_excuses_56 : decode cX10_excuses 56 = .ok (.bipush 16, 2) := by decide +kernel
theorem dX10_excuses_58 : decode cX10_excuses 58 = .ok (.iaload, 1) := by decide +kernel
theorem dX10_excuses_59 : decode cX10_excuses 59 = .ok (.iconst 1, 1) := by decide +kernel
theorem dX10_excuses_60 : decode cX10_excuses 60 = .ok (.iload_n 1, 1) := by decide +kernel
theorem dX10_excuses_61 : decode cX10_excuses 61 = .ok (.ishl, 1) := by decide +kernel
theorem dX10_excuses_62 : decode cX10_excuses 62 = .ok (.iconst (-1), 1) := by decide +kernel
theorem dX10_excuses_63 : decode cX10_excuses 63 = .ok (.ixor, 1) := by decide +kernel
theorem dX10_excuses_64 : decode cX10_excuses 64 = .ok (.iand, 1) := by decide +kernel
theorem dX10_excuses_65 : decode cX10_excuses 65 = .ok (.iload_n 2, 1) := by decide +kernel
theorem dX10_excuses_66 : decode cX10_excuses 66 = .ok (.iload_n 1, 1) := by decide +kernel
theorem dX10_excuses_67 : decode cX10_excuses 67 = .ok (.ishl, 1) := by decide +kernel
theorem dX10_excuses_68 : decode cX10_excuses 68 = .ok (.ior, 1) := by decide +kernel
theorem dX10_excuses_69 : decode cX10_excuses 69 = .ok (.iastore, 1) := by decide +kernel
theorem dX10_excuses_70 : decode cX10_excuses 70 = .ok (.aload_n 0, 1) := by decide +kernel
theorem dX10_excuses_71 : decode cX10_excuses 71 = .ok (.getfield 31, 3) := by decide +kernel
theorem dX10_excuses_74 : decode cX10_excuses 74 = .ok (.bipush 16, 2) := by decide +kernel
theorem dX10_excuses_76 : decode cX10_excuses 76 = .ok (.iaload, 1) := by decide +kernel
theorem dX10_excuses_77 : decode cX10_excuses 77 = .ok (.invokestatic 164, 3) := by decide +kernel
theorem dX10_excuses_80 : decode cX10_excuses 80 = .ok (.ireturn, 1) := by decide +kernel
theorem dX10_swaps_0 : decode cX10_swaps 0 = .ok (.aload_n 0, 1) := by decide +kernel
theorem dX10_swaps_1 : decode cX10_swaps 1 = .ok (.iconst 0, 1) := by decide +kernel
theorem dX10_swaps_2 : decode cX10_swaps 2 = .ok (.putfield 62, 3) := by decide +kernel
theorem dX10_swaps_5 : decode cX10_swaps 5 = .ok (.aload_n 0, 1) := by decide +kernel
theorem dX10_swaps_6 : decode cX10_swaps 6 = .ok (.iload_n 1, 1) := by decide +kernel
theorem dX10_swaps_7 : decode cX10_swaps 7 = .ok (.invokevirtual 142, 3) := by decide +kernel
theorem dX10_swaps_10 : decode cX10_swaps 10 = .ok (.ifCond .eq 11, 3) := by decide +kernel
theorem dX10_swaps_13 : decode cX10_swaps 13 = .ok (.aload_n 0, 1) := by decide +kernel
theorem dX10_swaps_14 : decode cX10_swaps 14 = .ok (.iload_n 2, 1) := by decide +kernel
theorem dX10_swaps_15 : decode cX10_swaps 15 = .ok (.invokevirtual 142, 3) := by decide +kernel
theorem dX10_swaps_18 : decode cX10_swaps 18 = .ok (.ifCond .ne 5, 3) := by decide +kernel
theorem dX10_swaps_21 : decode cX10_swaps 21 = .ok (.iconst (-1), 1) := by decide +kernel
theorem dX10_swaps_22 : decode cX10_swaps 22 = .ok (.ireturn, 1) := by decide +kernel
theorem dX10_swaps_23 : decode cX10_swaps 23 = .ok (.aload_n 0, 1) := by decide +kernel
theorem dX10_swaps_24 : decode cX10_swaps 24 = .ok (.getfield 31, 3) := by decide +kernel
theorem dX10_swaps_27 : decode cX10_swaps 27 = .ok (.bipush 17, 2) := by decide +kernel
theorem dX10_swaps_29 : decode cX10_swaps 29 = .ok (.iload_n 1, 1) := by decide +kernel
theorem dX10_swaps_30 : decode cX10_swaps 30 = .ok (.iadd, 1) := by decide +kernel
theorem dX10_swaps_31 : decode cX10_swaps 31 = .ok (.iaload, 1) := by decide +kernel
theorem dX10_swaps_32 : decode cX10_swaps 32 = .ok (.aload_n 0, 1) := by decide +kernel
theorem dX10_swaps_33 : decode cX10_swaps 33 = .ok (.getfield 31, 3) := by decide +kernel
theorem dX10_swaps_36 : decode cX10_swaps 36 = .ok (.bipush 17, 2) := by decide +kernel
theorem dX10_swaps_38 : decode cX10_swaps 38 = .ok (.iload_n 2, 1) := by decide +kernel
theorem dX10_swaps_39 : decode cX10_swaps 39 = .ok (.iadd, 1) := by decide +kernel
theorem dX10_swaps_40 : decode cX10_swaps 40 = .ok (.iaload, 1) := by decide +kernel
theorem dX10_swaps_41 : decode cX10_swaps 41 = .ok (.if_icmp .ne 6, 3) := by decide +kernel
theorem dX10_swaps_44 : decode cX10_swaps 44 = .ok (.bipush (-2), 2) := by decide +kernel
theorem dX10_swaps_46 : decode cX10_swaps 46 = .ok (.ireturn, 1) := by decide +kernel
theorem dX10_swaps_47 : decode cX10_swaps 47 = .ok (.aload_n 0, 1) := by decide +kernel
theorem dX10_swaps_48 : decode cX10_swaps 48 = .ok (.invokevirtual 158, 3) := by decide +kernel
theorem dX10_swaps_51 : decode cX10_swaps 51 = .ok (.aload_n 0, 1) := by decide +kernel
theorem dX10_swaps_52 : decode cX10_swaps 52 = .ok (.getfield 31, 3) := by decide +kernel
theorem dX10_swaps_55 : decode cX10_swaps 55 = .ok (.bipush 17, 2) := by decide +kernel
theorem dX10_swaps_57 : decode cX10_swaps 57 = .ok (.iload_n 1, 1) := by decide +kernel
theorem dX10_swaps_58 : decode cX10_swaps 58 = .ok (.iadd, 1) := by decide +kernel
theorem dX10_swaps_59 : decode cX10_swaps 59 = .ok (.iaload, 1) := by decide +kernel
theorem dX10_swaps_60 : decode cX10_swaps 60 = .ok (.istore_n 3, 1) := by decide +kernel
theorem dX10_swaps_61 : decode cX10_swaps 61 = .ok (.aload_n 0, 1) := by decide +kernel
theorem dX10_swaps_62 : decode cX10_swaps 62 = .ok (.getfield 31, 3) := by decide +kernel
theorem dX10_swaps_65 : decode cX10_swaps 65 = .ok (.bipush 17, 2) := by decide +kernel
theorem dX10_swaps_67 : decode cX10_swaps 67 = .ok (.iload_n 1, 1) := by decide +kernel
theorem dX10_swaps_68 : decode cX10_swaps 68 = .ok (.iadd, 1) := by decide +kernel
theorem dX10_swaps_69 : decode cX10_swaps 69 = .ok (.aload_n 0, 1) := by decide +kernel
theorem dX10_swaps_70 : decode cX10_swaps 70 = .ok (.getfield 31, 3) := by decide +kernel
theorem dX10_swaps_73 : decode cX10_swaps 73 = .ok (.bipush 17, 2) := by decide +kernel
theorem dX10_swaps_75 : decode cX10_swaps 75 = .ok (.iload_n 2, 1) := by decide +kernel
theorem dX10_swaps_76 : decode cX10_swaps 76 = .ok (.iadd, 1) := by decide +kernel
theorem dX10_swaps_77 : decode cX10_swaps 77 = .ok (.iaload, 1) := by decide +kernel
theorem dX10_swaps_78 : decode cX10_swaps 78 = .ok (.iastore, 1) := by decide +kernel
theorem dX10_swaps_79 : decode cX10_swaps 79 = .ok (.aload_n 0, 1) := by decide +kernel
theorem dX10_swaps_80 : decode cX10_swaps 80 = .ok (.getfield 31, 3) := by decide +kernel
theorem dX10_swaps_83 : decode cX10_swaps 83 = .ok (.bipush 17, 2) := by decide +kernel
theorem dX10_swaps_85 : decode cX10_swaps 85 = .ok (.iload_n 2, 1) := by decide +kernel
theorem dX10_swaps_86 : decode cX10_swaps 86 = .ok (.iadd, 1) := by decide +kernel
theorem dX10_swaps_87 : decode cX10_swaps 87 = .ok (.iload_n 3, 1) := by decide +kernel
theorem dX10_swaps_88 : decode cX10_swaps 88 = .ok (.iastore, 1) := by decide +kernel
theorem dX10_swaps_89 : decode cX10_swaps 89 = .ok (.aload_n 0, 1) := by decide +kernel
theorem dX10_swaps_90 : decode cX10_swaps 90 = .ok (.getfield 31, 3) := by decide +kernel
theorem dX10_swaps_93 : decode cX10_swaps 93 = .ok (.bipush 17, 2) := by decide +kernel
theorem dX10_swaps_95 : decode cX10_swaps 95 = .ok (.iload_n 1, 1) := by decide +kernel
theorem dX10_swaps_96 : decode cX10_swaps 96 = .ok (.iadd, 1) := by decide +kernel
theorem dX10_swaps_97 : decode cX10_swaps 97 = .ok (.iaload, 1) := by decide +kernel
theorem dX10_swaps_98 : decode cX10_swaps 98 = .ok (.ireturn, 1) := by decide +kernel
theorem dX10_undo_0 : decode cX10_undo 0 = .ok (.aload_n 0, 1) := by decide +kernel
theorem dX10_undo_1 : decode cX10_undo 1 = .ok (.iconst 0, 1) := by decide +kernel
theorem dX10_undo_2 : decode cX10_undo 2 = .ok (.putfield 62, 3) := by decide +kernel
theorem dX10_undo_5 : decode cX10_undo 5 = .ok (.aload_n 0, 1) := by decide +kernel
theorem dX10_undo_6 : decode cX10_undo 6 = .ok (.getfield 124, 3) := by decide +kernel
theorem dX10_undo_9 : decode cX10_undo 9 = .ok (.ifCond .ne 6, 3) := by decide +kernel
theorem dX10_undo_12 : decode cX10_undo 12 = .ok (.bipush (-2), 2) := by decide +kernel
theorem dX10_undo_14 : decode cX10_undo 14 = .ok (.ireturn, 1) := by decide +kernel
theorem dX10_undo_15 : decode cX10_undo 15 = .ok (.aload_n 0, 1) := by decide +kernel
theorem dX10_undo_16 : decode cX10_undo 16 = .ok (.dup, 1) := by decide +kernel
theorem dX10_undo_17 : decode cX10_undo 17 = .ok (.getfield 124, 3) := by decide +kernel
theorem dX10_undo_20 : decode cX10_undo 20 = .ok (.iconst 1, 1) := by decide +kernel
theorem dX10_undo_21 : decode cX10_undo 21 = .ok (.isub, 1) := by decide +kernel
theorem dX10_undo_22 : decode cX10_undo 22 = .ok (.putfield 124, 3) := by decide +kernel
theorem dX10_undo_25 : decode cX10_undo 25 = .ok (.iconst 0, 1) := by decide +kernel
theorem dX10_undo_26 : decode cX10_undo 26 = .ok (.istore_n 1, 1) := by decide +kernel
theorem dX10_undo_27 : decode cX10_undo 27 = .ok (.iload_n 1, 1) := by decide +kernel
theorem dX10_undo_28 : decode cX10_undo 28 = .ok (.bipush 25, 2) := by decide +kernel
theorem dX10_undo_30 : decode cX10_undo 30 = .ok (.if_icmp .ge 29, 3) := by decide +kernel
theorem dX10_undo_33 : decode cX10_undo 33 = .ok (.aload_n 0, 1) := by decide +kernel
theorem dX10_undo_34 : decode cX10_undo 34 = .ok (.getfield 31, 3) := by decide +kernel
theorem dX10_undo_37 : decode cX10_undo 37 = .ok (.iload_n 1, 1) := by decide +kernel
theorem dX10_undo_38 : decode cX10_undo 38 = .ok (.aload_n 0, 1) := by decide +kernel
theorem dX10_undo_39 : decode cX10_undo 39 = .ok (.getfield 41, 3) := by decide +kernel
theorem dX10_undo_42 : decode cX10_undo 42 = .ok (.bipush 25, 2) := by decide +kernel
theorem dX10_undo_44 : decode cX10_undo 44 = .ok (.aload_n 0, 1) := by decide +kernel
theorem dX10_undo_45 : decode cX10_undo 45 = .ok (.getfield 124, 3) := by decide +kernel
theorem dX10_undo_48 : decode cX10_undo 48 = .ok (.imul, 1) := by decide +kernel
theorem dX10_undo_49 : decode cX10_undo 49 = .ok (.iload_n 1, 1) := by decide +kernel
theorem dX10_undo_50 : decode cX10_undo 50 = .ok (.iadd, 1) := by decide +kernel
theorem dX10_undo_51 : decode cX10_undo 51 = .ok (.iaload, 1) := by decide +kernel
theorem dX10_undo_52 : decode cX10_undo 52 = .ok (.iastore, 1) := by decide +kernel
theorem dX10_undo_53 : decode cX10_undo 53 = .ok (.iinc 1 1, 3) := by decide +kernel
theorem dX10_undo_56 : decode cX10_undo 56 = .ok (.goto (-29), 3) := by decide +kernel
theorem dX10_undo_59 : decode cX10_undo 59 = .ok (.aload_n 0, 1) := by decide +kernel
theorem dX10_undo_60 : decode cX10_undo 60 = .ok (.getfield 124, 3) := by decide +kernel
theorem dX10_undo_63 : decode cX10_undo 63 = .ok (.ireturn, 1) := by decide +kernel
theorem dX10_rings_0 : decode cX10_rings 0 = .ok (.aload_n 0, 1) := by decide +kernel
theorem dX10_rings_1 : decode cX10_rings 1 = .ok (.iconst 0, 1) := by decide +kernel
theorem dX10_rings_2 : decode cX10_rings 2 = .ok (.putfield 62, 3) := by decide +kernel
theorem dX10_rings_5 : decode cX10_rings 5 = .ok (.aload_n 0, 1) := by decide +kernel
theorem dX10_rings_6 : decode cX10_rings 6 = .ok (.invokevirtual 139, 3) := by decide +kernel
theorem dX10_rings_9 : decode cX10_rings 9 = .ok (.iload_n 1, 1) := by decide +kernel
theorem dX10_rings_10 : decode cX10_rings 10 = .ok (.aload_n 0, 1) := by decide +kernel
theorem dX10_rings_11 : decode cX10_rings 11 = .ok (.getfield 31, 3) := by decide +kernel
theorem dX10_rings_14 : decode cX10_rings 14 = .ok (.bipush 15, 2) := by decide +kernel
theorem dX10_rings_16 : decode cX10_rings 16 = .ok (.iaload, 1) := by decide +kernel
theorem dX10_rings_17 : decode cX10_rings 17 = .ok (.sipush 239, 3) := by decide +kernel
theorem dX10_rings_20 : decode cX10_rings 20 = .ok (.invokestatic 66, 3) := by decide +kernel
theorem dX10_rings_23 : decode cX10_rings 23 = .ok (.ifCond .eq 11, 3) := by decide +kernel
theorem dX10_rings_26 : decode cX10_rings 26 = .ok (.aload_n 0, 1) := by decide +kernel
theorem dX10_rings_27 : decode cX10_rings 27 = .ok (.iload_n 1, 1) := by decide +kernel
theorem dX10_rings_28 : decode cX10_rings 28 = .ok (.invokevirtual 145, 3) := by decide +kernel
theorem dX10_rings_31 : decode cX10_rings 31 = .ok (.goto 4, 3) := by decide +kernel
theorem dX10_rings_34 : decode cX10_rings 34 = .ok (.iconst (-1), 1) := by decide +kernel
theorem dX10_rings_35 : decode cX10_rings 35 = .ok (.ireturn, 1) := by decide +kernel
theorem dX10_isSet_0 : decode cX10_isSet 0 = .ok (.iload_n 1, 1) := by decide +kernel
theorem dX10_isSet_1 : decode cX10_isSet 1 = .ok (.iconst 0, 1) := by decide +kernel
theorem dX10_isSet_2 : decode cX10_isSet 2 = .ok (.iconst 1, 1) := by decide +kernel
theorem dX10_isSet_3 : decode cX10_isSet 3 = .ok (.aload_n 0, 1) := by decide +kernel
theorem dX10_isSet_4 : decode cX10_isSet 4 = .ok (.getfield 13, 3) := by decide +kernel
theorem dX10_isSet_7 : decode cX10_isSet 7 = .ok (.iconst 1, 1) := by decide +kernel
theorem dX10_isSet_8 : decode cX10_isSet 8 = .ok (.iaload, 1) := by decide +kernel
theorem dX10_isSet_9 : decode cX10_isSet 9 = .ok (.ishl, 1) := by decide +kernel
theorem dX10_isSet_10 : decode cX10_isSet 10 = .ok (.iconst 1, 1) := by decide +kernel
theorem dX10_isSet_11 : decode cX10_isSet 11 = .ok (.isub, 1) := by decide +kernel
theorem dX10_isSet_12 : decode cX10_isSet 12 = .ok (.invokestatic 66, 3) := by decide +kernel
theorem dX10_isSet_15 : decode cX10_isSet 15 = .ok (.ireturn, 1) := by decide +kernel
theorem dX10_chord_0 : decode cX10_chord 0 = .ok (.aload_n 0, 1) := by decide +kernel
theorem dX10_chord_1 : decode cX10_chord 1 = .ok (.iconst 0, 1) := by decide +kernel
theorem dX10_chord_2 : decode cX10_chord 2 = .ok (.putfield 62, 3) := by decide +kernel
theorem dX10_chord_5 : decode cX10_chord 5 = .ok (.aload_n 0, 1) := by decide +kernel
theorem dX10_chord_6 : decode cX10_chord 6 = .ok (.iload_n 1, 1) := by decide +kernel
theorem dX10_chord_7 : decode cX10_chord 7 = .ok (.invokevirtual 167, 3) := by decide +kernel
theorem dX10_chord_10 : decode cX10_chord 10 = .ok (.ifCond .eq 12, 3) := by decide +kernel
theorem dX10_chord_13 : decode cX10_chord 13 = .ok (.iload_n 2, 1) := by decide +kernel
theorem dX10_chord_14 : decode cX10_chord 14 = .ok (.iconst 0, 1) := by decide +kernel
theorem dX10_chord_15 : decode cX10_chord 15 = .ok (.iconst 1, 1) := by decide +kernel
theorem dX10_chord_16 : decode cX10_chord 16 = .ok (.invokestatic 66, 3) := by decide +kernel
theorem dX10_chord_19 : decode cX10_chord 19 = .ok (.ifCond .ne 5, 3) := by decide +kernel
theorem dX10_chord_22 : decode cX10_chord 22 = .ok (.iconst (-1), 1) := by decide +kernel
theorem dX10_chord_23 : decode cX10_chord 23 = .ok (.ireturn, 1) := by decide +kernel
theorem dX10_chord_24 : decode cX10_chord 24 = .ok (.aload_n 0, 1) := by decide +kernel
theorem dX10_chord_25 : decode cX10_chord 25 = .ok (.invokevirtual 139, 3) := by decide +kernel
theorem dX10_chord_28 : decode cX10_chord 28 = .ok (.iconst 0, 1) := by decide +kernel
theorem dX10_chord_29 : decode cX10_chord 29 = .ok (.istore_n 3, 1) := by decide +kernel
theorem dX10_chord_30 : decode cX10_chord 30 = .ok (.bipush (-9), 2) := by decide +kernel
theorem dX10_chord_32 : decode cX10_chord 32 = .ok (.istore 4, 2) := by decide +kernel
theorem dX10_chord_34 : decode cX10_chord 34 = .ok (.aload_n 0, 1) := by decide +kernel
theorem dX10_chord_35 : decode cX10_chord 35 = .ok (.getfield 31, 3) := by decide +kernel
theorem dX10_chord_38 : decode cX10_chord 38 = .ok (.bipush 15, 2) := by decide +kernel
theorem dX10_chord_40 : decode cX10_chord 40 = .ok (.iaload, 1) := by decide +kernel
theorem dX10_chord_41 : decode cX10_chord 41 = .ok (.istore 5, 2) := by decide +kernel
theorem dX10_chord_43 : decode cX10_chord 43 = .ok (.iload 5, 2) := by decide +kernel
theorem dX10_chord_45 : decode cX10_chord 45 = .ok (.sipush 240, 3) := by decide +kernel
theorem dX10_chord_48 : decode cX10_chord 48 = .ok (.if_icmp .ge 35, 3) := by decide +kernel
theorem dX10_chord_51 : decode cX10_chord 51 = .ok (.aload_n 0, 1) := by decide +kernel
theorem dX10_chord_52 : decode cX10_chord 52 = .ok (.iload 5, 2) := by decide +kernel
theorem dX10_chord_54 : decode cX10_chord 54 = .ok (.invokevirtual 145, 3) := by decide +kernel
theorem dX10_chord_57 : decode cX10_chord 57 = .ok (.iload_n 1, 1) := by decide +kernel
theorem dX10_chord_58 : decode cX10_chord 58 = .ok (.if_icmp .ne 19, 3) := by decide +kernel
theorem dX10_chord_61 : decode cX10_chord 61 = .ok (.iload_n 3, 1) := by decide +kernel
theorem dX10_chord_62 : decode cX10_chord 62 = .ok (.ifCond .ne 8, 3) := by decide +kernel
theorem dX10_chord_65 : decode cX10_chord 65 = .ok (.iload 5, 2) := by decide +kernel
theorem dX10_chord_67 : decode cX10_chord 67 = .ok (.goto 5, 3) := by decide +kernel
theorem dX10_chord_70 : decode cX10_chord 70 = .ok (.iload 4, 2) := by decide +kernel
theorem dX10_chord_72 : decode cX10_chord 72 = .ok (.istore 4, 2) := by decide +kernel
theorem dX10_chord_74 : decode cX10_chord 74 = .ok (.iinc 3 1, 3) := by decide +kernel
theorem dX10_chord_77 : decode cX10_chord 77 = .ok (.iinc 5 1, 3) := by decide +kernel
theorem dX10_chord_80 : decode cX10_chord 80 = .ok (.goto (-37), 3) := by decide +kernel
theorem dX10_chord_83 : decode cX10_chord 83 = .ok (.iload_n 2, 1) := by decide +kernel
theorem dX10_chord_84 : decode cX10_chord 84 = .ok (.ifCond .ne 7, 3) := by decide +kernel
theorem dX10_chord_87 : decode cX10_chord 87 = .ok (.iload_n 3, 1) := by decide +kernel
theorem dX10_chord_88 : decode cX10_chord 88 = .ok (.goto 5, 3) := by decide +kernel
theorem dX10_chord_91 : decode cX10_chord 91 = .ok (.iload 4, 2) := by decide +kernel
theorem dX10_chord_93 : decode cX10_chord 93 = .ok (.ireturn, 1) := by decide +kernel
theorem dX10_isSilent_0 : decode cX10_isSilent 0 = .ok (.aload_n 0, 1) := by decide +kernel
theorem dX10_isSilent_1 : decode cX10_isSilent 1 = .ok (.getfield 31, 3) := by decide +kernel
theorem dX10_isSilent_4 : decode cX10_isSilent 4 = .ok (.bipush 15, 2) := by decide +kernel
theorem dX10_isSilent_6 : decode cX10_isSilent 6 = .ok (.iaload, 1) := by decide +kernel
theorem dX10_isSilent_7 : decode cX10_isSilent 7 = .ok (.istore_n 2, 1) := by decide +kernel
theorem dX10_isSilent_8 : decode cX10_isSilent 8 = .ok (.iload_n 2, 1) := by decide +kernel
theorem dX10_isSilent_9 : decode cX10_isSilent 9 = .ok (.sipush 240, 3) := by decide +kernel
theorem dX10_isSilent_12 : decode cX10_isSilent 12 = .ok (.if_icmp .ge 23, 3) := by decide +kernel
theorem dX10_isSilent_15 : decode cX10_isSilent 15 = .ok (.iload_n 1, 1) := by decide +kernel
theorem dX10_isSilent_16 : decode cX10_isSilent 16 = .ok (.aload_n 0, 1) := by decide +kernel
theorem dX10_isSilent_17 : decode cX10_isSilent 17 = .ok (.iload_n 2, 1) := by decide +kernel
theorem dX10_isSilent_18 : decode cX10_isSilent 18 = .ok (.invokevirtual 145, 3) := by decide +kernel
theorem dX10_isSilent_21 : decode cX10_isSilent 21 = .ok (.iconst (-1), 1) := by decide +kernel
theorem dX10_isSilent_22 : decode cX10_isSilent 22 = .ok (.ixor, 1) := by decide +kernel
theorem dX10_isSilent_23 : decode cX10_isSilent 23 = .ok (.iand, 1) := by decide +kernel
theorem dX10_isSilent_24 : decode cX10_isSilent 24 = .ok (.ifCond .ne 5, 3) := by decide +kernel
theorem dX10_isSilent_27 : decode cX10_isSilent 27 = .ok (.iconst 0, 1) := by decide +kernel
theorem dX10_isSilent_28 : decode cX10_isSilent 28 = .ok (.ireturn, 1) := by decide +kernel
theorem dX10_isSilent_29 : decode cX10_isSilent 29 = .ok (.iinc 2 1, 3) := by decide +kernel
theorem dX10_isSilent_32 : decode cX10_isSilent 32 = .ok (.goto (-24), 3) := by decide +kernel
theorem dX10_isSilent_35 : decode cX10_isSilent 35 = .ok (.iconst 1, 1) := by decide +kernel
theorem dX10_isSilent_36 : decode cX10_isSilent 36 = .ok (.ireturn, 1) := by decide +kernel
theorem dX10_silence_0 : decode cX10_silence 0 = .ok (.aload_n 0, 1) := by decide +kernel
theorem dX10_silence_1 : decode cX10_silence 1 = .ok (.iconst 0, 1) := by decide +kernel
theorem dX10_silence_2 : decode cX10_silence 2 = .ok (.putfield 62, 3) := by decide +kernel
theorem dX10_silence_5 : decode cX10_silence 5 = .ok (.aload_n 0, 1) := by decide +kernel
theorem dX10_silence_6 : decode cX10_silence 6 = .ok (.iload_n 1, 1) := by decide +kernel
theorem dX10_silence_7 : decode cX10_silence 7 = .ok (.invokevirtual 167, 3) := by decide +kernel
theorem dX10_silence_10 : decode cX10_silence 10 = .ok (.ifCond .eq 7, 3) := by decide +kernel
theorem dX10_silence_13 : decode cX10_silence 13 = .ok (.iload_n 1, 1) := by decide +kernel
theorem dX10_silence_14 : decode cX10_silence 14 = .ok (.ifCond .ne 5, 3) := by decide +kernel
theorem dX10_silence_17 : decode cX10_silence 17 = .ok (.iconst (-1), 1) := by decide +kernel
theorem dX10_silence_18 : decode cX10_silence 18 = .ok (.ireturn, 1) := by decide +kernel
theorem dX10_silence_19 : decode cX10_silence 19 = .ok (.bipush (-9), 2) := by decide +kernel
theorem dX10_silence_21 : decode cX10_silence 21 = .ok (.istore_n 2, 1) := by decide +kernel
theorem dX10_silence_22 : decode cX10_silence 22 = .ok (.iconst 0, 1) := by decide +kernel
theorem dX10_silence_23 : decode cX10_silence 23 = .ok (.istore_n 3, 1) := by decide +kernel
theorem dX10_silence_24 : decode cX10_silence 24 = .ok (.iload_n 3, 1) := by decide +kernel
theorem dX10_silence_25 : decode cX10_silence 25 = .ok (.iconst 1, 1) := by decide +kernel
theorem dX10_silence_26 : decode cX10_silence 26 = .ok (.aload_n 0, 1) := by decide +kernel
theorem dX10_silence_27 : decode cX10_silence 27 = .ok (.getfield 13, 3) := by decide +kernel
theorem dX10_silence_30 : decode cX10_silence 30 = .ok (.iconst 2, 1) := by decide +kernel
theorem dX10_silence_31 : decode cX10_silence 31 = .ok (.iaload, 1) := by decide +kernel
theorem dX10_silence_32 : decode cX10_silence 32 = .ok (.ishl, 1) := by decide +kernel
theorem dX10_silence_33 : decode cX10_silence 33 = .ok (.if_icmp .ge 65, 3) := by decide +kernel
theorem dX10_silence_36 : decode cX10_silence 36 = .ok (.iload_n 3, 1) := by decide +kernel
theorem dX10_silence_37 : decode cX10_silence 37 = .ok (.aload_n 0, 1) := by decide +kernel
theorem dX10_silence_38 : decode cX10_silence 38 = .ok (.getfield 31, 3) := by decide +kernel
theorem dX10_silence_41 : decode cX10_silence 41 = .ok (.bipush 16, 2) := by decide +kernel
theorem dX10_silence_43 : decode cX10_silence 43 = .ok (.iaload, 1) := by decide +kernel
theorem dX10_silence_44 : decode cX10_silence 44 = .ok (.iand, 1) := by decide +kernel
theorem dX10_silence_45 : decode cX10_silence 45 = .ok (.ifCond .ne 47, 3) := by decide +kernel
theorem dX10_silence_48 : decode cX10_silence 48 = .ok (.iload_n 2, 1) := by decide +kernel
theorem dX10_silence_49 : decode cX10_silence 49 = .ok (.bipush (-9), 2) := by decide +kernel
theorem dX10_silence_51 : decode cX10_silence 51 = .ok (.if_icmp .eq 14, 3) := by decide +kernel
theorem dX10_silence_54 : decode cX10_silence 54 = .ok (.iload_n 3, 1) := by decide +kernel
theorem dX10_silence_55 : decode cX10_silence 55 = .ok (.invokestatic 164, 3) := by decide +kernel
theorem dX10_silence_58 : decode cX10_silence 58 = .ok (.iload_n 2, 1) := by decide +kernel
theorem dX10_silence_59 : decode cX10_silence 59 = .ok (.invokestatic 164, 3) := by decide +kernel
theorem dX10_silence_62 : decode cX10_silence 62 = .ok (.if_icmp .ge 30, 3) := by decide +kernel
theorem dX10_silence_65 : decode cX10_silence 65 = .ok (.aload_n 0, 1) := by decide +kernel
theorem dX10_silence_66 : decode cX10_silence 66 = .ok (.aload_n 0, 1) := by decide +kernel
theorem dX10_silence_67 : decode cX10_silence 67 = .ok (.getfield 31, 3) := by decide +kernel
theorem dX10_silence_70 : decode cX10_silence 70 = .ok (.bipush 16, 2) := by decide +kernel
theorem dX10_silence_72 : decode cX10_silence 72 = .ok (.iaload, 1) := by decide +kernel
theorem dX10_silence_73 : decode cX10_silence 73 = .ok (.iload_n 3, 1) := by decide +kernel
theorem dX10_silence_74 : decode cX10_silence 74 = .ok (.ior, 1) := by decide +kernel
theorem dX10_silence_75 : decode cX10_silence 75 = .ok (.putfield 127, 3) := by decide +kernel
end
section
theorem dX10_silence_78 : decode cX10_silence 78 = .ok (.aload_n 0, 1) := by decide +kernel
theorem dX10_silence_79 : decode cX10_silence 79 = .ok (.iload_n 1, 1) := by decide +kernel
theorem dX10_silence_80 : decode cX10_silence 80 = .ok (.invokevirtual 170, 3) := by decide +kernel
theorem dX10_silence_83 : decode cX10_silence 83 = .ok (.ifCond .eq 7, 3) := by decide +kernel
theorem dX10_silence_86 : decode cX10_silence 86 = .ok (.iload_n 3, 1) := by decide +kernel
theorem dX10_silence_87 : decode cX10_silence 87 = .ok (.goto 4, 3) := by decide +kernel
theorem dX10_silence_90 : decode cX10_silence 90 = .ok (.iload_n 2, 1) := by decide +kernel
theorem dX10_silence_91 : decode cX10_silence 91 = .ok (.istore_n 2, 1) := by decide +kernel
theorem dX10_silence_92 : decode cX10_silence 92 = .ok (.iinc 3 1, 3) := by decide +kernel
theorem dX10_silence_95 : decode cX10_silence 95 = .ok (.goto (-71), 3) := by decide +kernel
theorem dX10_silence_98 : decode cX10_silence 98 = .ok (.iload_n 2, 1) := by decide +kernel
theorem dX10_silence_99 : decode cX10_silence 99 = .ok (.ireturn, 1) := by decide +kernel
theorem dX10_onWay_0 : decode cX10_onWay 0 = .ok (.iconst 0, 1) := by decide +kernel
theorem dX10_onWay_1 : decode cX10_onWay 1 = .ok (.istore 5, 2) := by decide +kernel
theorem dX10_onWay_3 : decode cX10_onWay 3 = .ok (.iconst 0, 1) := by decide +kernel
theorem dX10_onWay_4 : decode cX10_onWay 4 = .ok (.istore 6, 2) := by decide +kernel
theorem dX10_onWay_6 : decode cX10_onWay 6 = .ok (.iload 6, 2) := by decide +kernel
theorem dX10_onWay_8 : decode cX10_onWay 8 = .ok (.iload_n 3, 1) := by decide +kernel
theorem dX10_onWay_9 : decode cX10_onWay 9 = .ok (.if_icmp .ge 43, 3) := by decide +kernel
theorem dX10_onWay_12 : decode cX10_onWay 12 = .ok (.iload_n 2, 1) := by decide +kernel
theorem dX10_onWay_13 : decode cX10_onWay 13 = .ok (.iload 6, 2) := by decide +kernel
theorem dX10_onWay_15 : decode cX10_onWay 15 = .ok (.iadd, 1) := by decide +kernel
theorem dX10_onWay_16 : decode cX10_onWay 16 = .ok (.sipush 240, 3) := by decide +kernel
theorem dX10_onWay_19 : decode cX10_onWay 19 = .ok (.if_icmp .ge 33, 3) := by decide +kernel
theorem dX10_onWay_22 : decode cX10_onWay 22 = .ok (.iload 5, 2) := by decide +kernel
theorem dX10_onWay_24 : decode cX10_onWay 24 = .ok (.aload_n 0, 1) := by decide +kernel
theorem dX10_onWay_25 : decode cX10_onWay 25 = .ok (.iload_n 1, 1) := by decide +kernel
theorem dX10_onWay_26 : decode cX10_onWay 26 = .ok (.iload_n 2, 1) := by decide +kernel
theorem dX10_onWay_27 : decode cX10_onWay 27 = .ok (.iload 6, 2) := by decide +kernel
theorem dX10_onWay_29 : decode cX10_onWay 29 = .ok (.iadd, 1) := by decide +kernel
theorem dX10_onWay_30 : decode cX10_onWay 30 = .ok (.bipush (-9), 2) := by decide +kernel
theorem dX10_onWay_32 : decode cX10_onWay 32 = .ok (.invokevirtual 133, 3) := by decide +kernel
theorem dX10_onWay_35 : decode cX10_onWay 35 = .ok (.ifCond .eq 7, 3) := by decide +kernel
theorem dX10_onWay_38 : decode cX10_onWay 38 = .ok (.iconst 1, 1) := by decide +kernel
theorem dX10_onWay_39 : decode cX10_onWay 39 = .ok (.goto 4, 3) := by decide +kernel
theorem dX10_onWay_42 : decode cX10_onWay 42 = .ok (.iconst 0, 1) := by decide +kernel
theorem dX10_onWay_43 : decode cX10_onWay 43 = .ok (.iadd, 1) := by decide +kernel
theorem dX10_onWay_44 : decode cX10_onWay 44 = .ok (.istore 5, 2) := by decide +kernel
theorem dX10_onWay_46 : decode cX10_onWay 46 = .ok (.iinc 6 1, 3) := by decide +kernel
theorem dX10_onWay_49 : decode cX10_onWay 49 = .ok (.goto (-43), 3) := by decide +kernel
theorem dX10_onWay_52 : decode cX10_onWay 52 = .ok (.iload_n 2, 1) := by decide +kernel
theorem dX10_onWay_53 : decode cX10_onWay 53 = .ok (.iload_n 3, 1) := by decide +kernel
theorem dX10_onWay_54 : decode cX10_onWay 54 = .ok (.iadd, 1) := by decide +kernel
theorem dX10_onWay_55 : decode cX10_onWay 55 = .ok (.sipush 240, 3) := by decide +kernel
theorem dX10_onWay_58 : decode cX10_onWay 58 = .ok (.if_icmp .lt 8, 3) := by decide +kernel
theorem dX10_onWay_61 : decode cX10_onWay 61 = .ok (.iload 5, 2) := by decide +kernel
theorem dX10_onWay_63 : decode cX10_onWay 63 = .ok (.goto 20, 3) := by decide +kernel
theorem dX10_onWay_66 : decode cX10_onWay 66 = .ok (.iload 5, 2) := by decide +kernel
theorem dX10_onWay_68 : decode cX10_onWay 68 = .ok (.aload_n 0, 1) := by decide +kernel
theorem dX10_onWay_69 : decode cX10_onWay 69 = .ok (.getfield 53, 3) := by decide +kernel
theorem dX10_onWay_72 : decode cX10_onWay 72 = .ok (.bipush 6, 2) := by decide +kernel
theorem dX10_onWay_74 : decode cX10_onWay 74 = .ok (.iload_n 2, 1) := by decide +kernel
theorem dX10_onWay_75 : decode cX10_onWay 75 = .ok (.iload_n 3, 1) := by decide +kernel
theorem dX10_onWay_76 : decode cX10_onWay 76 = .ok (.iadd, 1) := by decide +kernel
theorem dX10_onWay_77 : decode cX10_onWay 77 = .ok (.imul, 1) := by decide +kernel
theorem dX10_onWay_78 : decode cX10_onWay 78 = .ok (.iload 4, 2) := by decide +kernel
theorem dX10_onWay_80 : decode cX10_onWay 80 = .ok (.iadd, 1) := by decide +kernel
theorem dX10_onWay_81 : decode cX10_onWay 81 = .ok (.iaload, 1) := by decide +kernel
theorem dX10_onWay_82 : decode cX10_onWay 82 = .ok (.iadd, 1) := by decide +kernel
theorem dX10_onWay_83 : decode cX10_onWay 83 = .ok (.ireturn, 1) := by decide +kernel
theorem dX10_costBy_0 : decode cX10_costBy 0 = .ok (.iload_n 3, 1) := by decide +kernel
theorem dX10_costBy_1 : decode cX10_costBy 1 = .ok (.iload 4, 2) := by decide +kernel
theorem dX10_costBy_3 : decode cX10_costBy 3 = .ok (.if_icmp .ne 33, 3) := by decide +kernel
theorem dX10_costBy_6 : decode cX10_costBy 6 = .ok (.aload_n 0, 1) := by decide +kernel
theorem dX10_costBy_7 : decode cX10_costBy 7 = .ok (.iload_n 1, 1) := by decide +kernel
theorem dX10_costBy_8 : decode cX10_costBy 8 = .ok (.iload_n 2, 1) := by decide +kernel
theorem dX10_costBy_9 : decode cX10_costBy 9 = .ok (.iload_n 3, 1) := by decide +kernel
theorem dX10_costBy_10 : decode cX10_costBy 10 = .ok (.invokevirtual 133, 3) := by decide +kernel
theorem dX10_costBy_13 : decode cX10_costBy 13 = .ok (.ifCond .eq 7, 3) := by decide +kernel
theorem dX10_costBy_16 : decode cX10_costBy 16 = .ok (.iconst 1, 1) := by decide +kernel
theorem dX10_costBy_17 : decode cX10_costBy 17 = .ok (.goto 4, 3) := by decide +kernel
theorem dX10_costBy_20 : decode cX10_costBy 20 = .ok (.iconst 0, 1) := by decide +kernel
theorem dX10_costBy_21 : decode cX10_costBy 21 = .ok (.aload_n 0, 1) := by decide +kernel
theorem dX10_costBy_22 : decode cX10_costBy 22 = .ok (.getfield 53, 3) := by decide +kernel
theorem dX10_costBy_25 : decode cX10_costBy 25 = .ok (.bipush 6, 2) := by decide +kernel
theorem dX10_costBy_27 : decode cX10_costBy 27 = .ok (.iload_n 2, 1) := by decide +kernel
theorem dX10_costBy_28 : decode cX10_costBy 28 = .ok (.iconst 1, 1) := by decide +kernel
theorem dX10_costBy_29 : decode cX10_costBy 29 = .ok (.iadd, 1) := by decide +kernel
theorem dX10_costBy_30 : decode cX10_costBy 30 = .ok (.imul, 1) := by decide +kernel
theorem dX10_costBy_31 : decode cX10_costBy 31 = .ok (.iload_n 3, 1) := by decide +kernel
theorem dX10_costBy_32 : decode cX10_costBy 32 = .ok (.iadd, 1) := by decide +kernel
theorem dX10_costBy_33 : decode cX10_costBy 33 = .ok (.iaload, 1) := by decide +kernel
theorem dX10_costBy_34 : decode cX10_costBy 34 = .ok (.iadd, 1) := by decide +kernel
theorem dX10_costBy_35 : decode cX10_costBy 35 = .ok (.ireturn, 1) := by decide +kernel
theorem dX10_costBy_36 : decode cX10_costBy 36 = .ok (.aload_n 0, 1) := by decide +kernel
theorem dX10_costBy_37 : decode cX10_costBy 37 = .ok (.iload_n 1, 1) := by decide +kernel
theorem dX10_costBy_38 : decode cX10_costBy 38 = .ok (.iload_n 2, 1) := by decide +kernel
theorem dX10_costBy_39 : decode cX10_costBy 39 = .ok (.aload_n 0, 1) := by decide +kernel
theorem dX10_costBy_40 : decode cX10_costBy 40 = .ok (.iload_n 3, 1) := by decide +kernel
theorem dX10_costBy_41 : decode cX10_costBy 41 = .ok (.iload 4, 2) := by decide +kernel
theorem dX10_costBy_43 : decode cX10_costBy 43 = .ok (.invokevirtual 161, 3) := by decide +kernel
theorem dX10_costBy_46 : decode cX10_costBy 46 = .ok (.iload 4, 2) := by decide +kernel
theorem dX10_costBy_48 : decode cX10_costBy 48 = .ok (.invokevirtual 173, 3) := by decide +kernel
theorem dX10_costBy_51 : decode cX10_costBy 51 = .ok (.ireturn, 1) := by decide +kernel
theorem dX10_measures_0 : decode cX10_measures 0 = .ok (.iconst 0, 1) := by decide +kernel
theorem dX10_measures_1 : decode cX10_measures 1 = .ok (.istore_n 2, 1) := by decide +kernel
theorem dX10_measures_2 : decode cX10_measures 2 = .ok (.iload_n 2, 1) := by decide +kernel
theorem dX10_measures_3 : decode cX10_measures 3 = .ok (.bipush 6, 2) := by decide +kernel
theorem dX10_measures_5 : decode cX10_measures 5 = .ok (.if_icmp .ge 20, 3) := by decide +kernel
theorem dX10_measures_8 : decode cX10_measures 8 = .ok (.aload_n 0, 1) := by decide +kernel
theorem dX10_measures_9 : decode cX10_measures 9 = .ok (.getfield 53, 3) := by decide +kernel
theorem dX10_measures_12 : decode cX10_measures 12 = .ok (.sipush 1440, 3) := by decide +kernel
theorem dX10_measures_15 : decode cX10_measures 15 = .ok (.iload_n 2, 1) := by decide +kernel
theorem dX10_measures_16 : decode cX10_measures 16 = .ok (.iadd, 1) := by decide +kernel
theorem dX10_measures_17 : decode cX10_measures 17 = .ok (.iconst 0, 1) := by decide +kernel
theorem dX10_measures_18 : decode cX10_measures 18 = .ok (.iastore, 1) := by decide +kernel
theorem dX10_measures_19 : decode cX10_measures 19 = .ok (.iinc 2 1, 3) := by decide +kernel
theorem dX10_measures_22 : decode cX10_measures 22 = .ok (.goto (-20), 3) := by decide +kernel
theorem dX10_measures_25 : decode cX10_measures 25 = .ok (.sipush 239, 3) := by decide +kernel
theorem dX10_measures_28 : decode cX10_measures 28 = .ok (.istore_n 2, 1) := by decide +kernel
theorem dX10_measures_29 : decode cX10_measures 29 = .ok (.iload_n 2, 1) := by decide +kernel
theorem dX10_measures_30 : decode cX10_measures 30 = .ok (.aload_n 0, 1) := by decide +kernel
theorem dX10_measures_31 : decode cX10_measures 31 = .ok (.getfield 31, 3) := by decide +kernel
theorem dX10_measures_34 : decode cX10_measures 34 = .ok (.bipush 15, 2) := by decide +kernel
theorem dX10_measures_36 : decode cX10_measures 36 = .ok (.iaload, 1) := by decide +kernel
theorem dX10_measures_37 : decode cX10_measures 37 = .ok (.if_icmp .lt 91, 3) := by decide +kernel
theorem dX10_measures_40 : decode cX10_measures 40 = .ok (.iconst 0, 1) := by decide +kernel
theorem dX10_measures_41 : decode cX10_measures 41 = .ok (.istore_n 3, 1) := by decide +kernel
theorem dX10_measures_42 : decode cX10_measures 42 = .ok (.iload_n 3, 1) := by decide +kernel
theorem dX10_measures_43 : decode cX10_measures 43 = .ok (.aload_n 0, 1) := by decide +kernel
theorem dX10_measures_44 : decode cX10_measures 44 = .ok (.getfield 13, 3) := by decide +kernel
theorem dX10_measures_47 : decode cX10_measures 47 = .ok (.iconst 0, 1) := by decide +kernel
theorem dX10_measures_48 : decode cX10_measures 48 = .ok (.iaload, 1) := by decide +kernel
theorem dX10_measures_49 : decode cX10_measures 49 = .ok (.if_icmp .ge 73, 3) := by decide +kernel
theorem dX10_measures_52 : decode cX10_measures 52 = .ok (.ldc 177, 2) := by decide +kernel
theorem dX10_measures_54 : decode cX10_measures 54 = .ok (.istore 4, 2) := by decide +kernel
theorem dX10_measures_56 : decode cX10_measures 56 = .ok (.iconst 0, 1) := by decide +kernel
theorem dX10_measures_57 : decode cX10_measures 57 = .ok (.istore 5, 2) := by decide +kernel
theorem dX10_measures_59 : decode cX10_measures 59 = .ok (.iload 5, 2) := by decide +kernel
theorem dX10_measures_61 : decode cX10_measures 61 = .ok (.aload_n 0, 1) := by decide +kernel
theorem dX10_measures_62 : decode cX10_measures 62 = .ok (.getfield 13, 3) := by decide +kernel
theorem dX10_measures_65 : decode cX10_measures 65 = .ok (.iconst 0, 1) := by decide +kernel
theorem dX10_measures_66 : decode cX10_measures 66 = .ok (.iaload, 1) := by decide +kernel
theorem dX10_measures_67 : decode cX10_measures 67 = .ok (.if_icmp .ge 36, 3) := by decide +kernel
theorem dX10_measures_70 : decode cX10_measures 70 = .ok (.aload_n 0, 1) := by decide +kernel
theorem dX10_measures_71 : decode cX10_measures 71 = .ok (.iload_n 1, 1) := by decide +kernel
theorem dX10_measures_72 : decode cX10_measures 72 = .ok (.iload_n 2, 1) := by decide +kernel
theorem dX10_measures_73 : decode cX10_measures 73 = .ok (.iload_n 3, 1) := by decide +kernel
theorem dX10_measures_74 : decode cX10_measures 74 = .ok (.iload 5, 2) := by decide +kernel
theorem dX10_measures_76 : decode cX10_measures 76 = .ok (.invokevirtual 178, 3) := by decide +kernel
theorem dX10_measures_79 : decode cX10_measures 79 = .ok (.istore 6, 2) := by decide +kernel
theorem dX10_measures_81 : decode cX10_measures 81 = .ok (.iload 6, 2) := by decide +kernel
theorem dX10_measures_83 : decode cX10_measures 83 = .ok (.iload 4, 2) := by decide +kernel
theorem dX10_measures_85 : decode cX10_measures 85 = .ok (.if_icmp .ge 8, 3) := by decide +kernel
theorem dX10_measures_88 : decode cX10_measures 88 = .ok (.iload 6, 2) := by decide +kernel
theorem dX10_measures_90 : decode cX10_measures 90 = .ok (.goto 5, 3) := by decide +kernel
theorem dX10_measures_93 : decode cX10_measures 93 = .ok (.iload 4, 2) := by decide +kernel
theorem dX10_measures_95 : decode cX10_measures 95 = .ok (.istore 4, 2) := by decide +kernel
theorem dX10_measures_97 : decode cX10_measures 97 = .ok (.iinc 5 1, 3) := by decide +kernel
theorem dX10_measures_100 : decode cX10_measures 100 = .ok (.goto (-41), 3) := by decide +kernel
theorem dX10_measures_103 : decode cX10_measures 103 = .ok (.aload_n 0, 1) := by decide +kernel
theorem dX10_measures_104 : decode cX10_measures 104 = .ok (.getfield 53, 3) := by decide +kernel
theorem dX10_measures_107 : decode cX10_measures 107 = .ok (.bipush 6, 2) := by decide +kernel
theorem dX10_measures_109 : decode cX10_measures 109 = .ok (.iload_n 2, 1) := by decide +kernel
theorem dX10_measures_110 : decode cX10_measures 110 = .ok (.imul, 1) := by decide +kernel
theorem dX10_measures_111 : decode cX10_measures 111 = .ok (.iload_n 3, 1) := by decide +kernel
theorem dX10_measures_112 : decode cX10_measures 112 = .ok (.iadd, 1) := by decide +kernel
theorem dX10_measures_113 : decode cX10_measures 113 = .ok (.iload 4, 2) := by decide +kernel
theorem dX10_measures_115 : decode cX10_measures 115 = .ok (.iastore, 1) := by decide +kernel
theorem dX10_measures_116 : decode cX10_measures 116 = .ok (.iinc 3 1, 3) := by decide +kernel
theorem dX10_measures_119 : decode cX10_measures 119 = .ok (.goto (-77), 3) := by decide +kernel
theorem dX10_measures_122 : decode cX10_measures 122 = .ok (.iinc 2 (-1), 3) := by decide +kernel
theorem dX10_measures_125 : decode cX10_measures 125 = .ok (.goto (-96), 3) := by decide +kernel
theorem dX10_measures_128 : decode cX10_measures 128 = .ok (.return_, 1) := by decide +kernel
theorem dX10_least_0 : decode cX10_least 0 = .ok (.aload_n 0, 1) := by decide +kernel
theorem dX10_least_1 : decode cX10_least 1 = .ok (.iconst 0, 1) := by decide +kernel
theorem dX10_least_2 : decode cX10_least 2 = .ok (.putfield 62, 3) := by decide +kernel
theorem dX10_least_5 : decode cX10_least 5 = .ok (.aload_n 0, 1) := by decide +kernel
theorem dX10_least_6 : decode cX10_least 6 = .ok (.iload_n 1, 1) := by decide +kernel
theorem dX10_least_7 : decode cX10_least 7 = .ok (.invokevirtual 136, 3) := by decide +kernel
theorem dX10_least_10 : decode cX10_least 10 = .ok (.ifCond .eq 12, 3) := by decide +kernel
theorem dX10_least_13 : decode cX10_least 13 = .ok (.iload_n 2, 1) := by decide +kernel
theorem dX10_least_14 : decode cX10_least 14 = .ok (.iconst 0, 1) := by decide +kernel
theorem dX10_least_15 : decode cX10_least 15 = .ok (.iconst 1, 1) := by decide +kernel
theorem dX10_least_16 : decode cX10_least 16 = .ok (.invokestatic 66, 3) := by decide +kernel
theorem dX10_least_19 : decode cX10_least 19 = .ok (.ifCond .ne 5, 3) := by decide +kernel
theorem dX10_least_22 : decode cX10_least 22 = .ok (.iconst (-1), 1) := by decide +kernel
theorem dX10_least_23 : decode cX10_least 23 = .ok (.ireturn, 1) := by decide +kernel
theorem dX10_least_24 : decode cX10_least 24 = .ok (.aload_n 0, 1) := by decide +kernel
theorem dX10_least_25 : decode cX10_least 25 = .ok (.getfield 31, 3) := by decide +kernel
theorem dX10_least_28 : decode cX10_least 28 = .ok (.iconst 0, 1) := by decide +kernel
theorem dX10_least_29 : decode cX10_least 29 = .ok (.iload_n 1, 1) := by decide +kernel
theorem dX10_least_30 : decode cX10_least 30 = .ok (.iadd, 1) := by decide +kernel
theorem dX10_least_31 : decode cX10_least 31 = .ok (.iaload, 1) := by decide +kernel
theorem dX10_least_32 : decode cX10_least 32 = .ok (.istore_n 3, 1) := by decide +kernel
theorem dX10_least_33 : decode cX10_least 33 = .ok (.aload_n 0, 1) := by decide +kernel
theorem dX10_least_34 : decode cX10_least 34 = .ok (.getfield 31, 3) := by decide +kernel
theorem dX10_least_37 : decode cX10_least 37 = .ok (.bipush 15, 2) := by decide +kernel
theorem dX10_least_39 : decode cX10_least 39 = .ok (.iaload, 1) := by decide +kernel
theorem dX10_least_40 : decode cX10_least 40 = .ok (.sipush 240, 3) := by decide +kernel
theorem dX10_least_43 : decode cX10_least 43 = .ok (.if_icmp .ne 13, 3) := by decide +kernel
theorem dX10_least_46 : decode cX10_least 46 = .ok (.iload_n 2, 1) := by decide +kernel
theorem dX10_least_47 : decode cX10_least 47 = .ok (.ifCond .ne 7, 3) := by decide +kernel
theorem dX10_least_50 : decode cX10_least 50 = .ok (.iconst 0, 1) := by decide +kernel
theorem dX10_least_51 : decode cX10_least 51 = .ok (.goto 4, 3) := by decide +kernel
theorem dX10_least_54 : decode cX10_least 54 = .ok (.iload_n 3, 1) := by decide +kernel
theorem dX10_least_55 : decode cX10_least 55 = .ok (.ireturn, 1) := by decide +kernel
theorem dX10_least_56 : decode cX10_least 56 = .ok (.aload_n 0, 1) := by decide +kernel
theorem dX10_least_57 : decode cX10_least 57 = .ok (.invokevirtual 139, 3) := by decide +kernel
theorem dX10_least_60 : decode cX10_least 60 = .ok (.aload_n 0, 1) := by decide +kernel
theorem dX10_least_61 : decode cX10_least 61 = .ok (.iload_n 1, 1) := by decide +kernel
theorem dX10_least_62 : decode cX10_least 62 = .ok (.invokevirtual 181, 3) := by decide +kernel
theorem dX10_least_65 : decode cX10_least 65 = .ok (.aload_n 0, 1) := by decide +kernel
theorem dX10_least_66 : decode cX10_least 66 = .ok (.getfield 31, 3) := by decide +kernel
theorem dX10_least_69 : decode cX10_least 69 = .ok (.iconst 5, 1) := by decide +kernel
theorem dX10_least_70 : decode cX10_least 70 = .ok (.iload_n 1, 1) := by decide +kernel
theorem dX10_least_71 : decode cX10_least 71 = .ok (.iadd, 1) := by decide +kernel
theorem dX10_least_72 : decode cX10_least 72 = .ok (.iaload, 1) := by decide +kernel
theorem dX10_least_73 : decode cX10_least 73 = .ok (.ifCond .le 34, 3) := by decide +kernel
theorem dX10_least_76 : decode cX10_least 76 = .ok (.iload_n 2, 1) := by decide +kernel
theorem dX10_least_77 : decode cX10_least 77 = .ok (.iconst 1, 1) := by decide +kernel
theorem dX10_least_78 : decode cX10_least 78 = .ok (.if_icmp .ne 7, 3) := by decide +kernel
theorem dX10_least_81 : decode cX10_least 81 = .ok (.iload_n 3, 1) := by decide +kernel
theorem dX10_least_82 : decode cX10_least 82 = .ok (.goto 24, 3) := by decide +kernel
theorem dX10_least_85 : decode cX10_least 85 = .ok (.aload_n 0, 1) := by decide +kernel
theorem dX10_least_86 : decode cX10_least 86 = .ok (.iload_n 1, 1) := by decide +kernel
theorem dX10_least_87 : decode cX10_least 87 = .ok (.aload_n 0, 1) := by decide +kernel
theorem dX10_least_88 : decode cX10_least 88 = .ok (.getfield 31, 3) := by decide +kernel
theorem dX10_least_91 : decode cX10_least 91 = .ok (.bipush 15, 2) := by decide +kernel
theorem dX10_least_93 : decode cX10_least 93 = .ok (.iaload, 1) := by decide +kernel
theorem dX10_least_94 : decode cX10_least 94 = .ok (.aload_n 0, 1) := by decide +kernel
theorem dX10_least_95 : decode cX10_least 95 = .ok (.getfield 31, 3) := by decide +kernel
theorem dX10_least_98 : decode cX10_least 98 = .ok (.iconst 5, 1) := by decide +kernel
theorem dX10_least_99 : decode cX10_least 99 = .ok (.iload_n 1, 1) := by decide +kernel
theorem dX10_least_100 : decode cX10_least 100 = .ok (.iadd, 1) := by decide +kernel
theorem dX10_least_101 : decode cX10_least 101 = .ok (.iaload, 1) := by decide +kernel
theorem dX10_least_102 : decode cX10_least 102 = .ok (.iload_n 3, 1) := by decide +kernel
theorem dX10_least_103 : decode cX10_least 103 = .ok (.invokevirtual 173, 3) := by decide +kernel
theorem dX10_least_106 : decode cX10_least 106 = .ok (.ireturn, 1) := by decide +kernel
theorem dX10_least_107 : decode cX10_least 107 = .ok (.iload_n 2, 1) := by decide +kernel
theorem dX10_least_108 : decode cX10_least 108 = .ok (.ifCond .ne 21, 3) := by decide +kernel
theorem dX10_least_111 : decode cX10_least 111 = .ok (.aload_n 0, 1) := by decide +kernel
theorem dX10_least_112 : decode cX10_least 112 = .ok (.getfield 53, 3) := by decide +kernel
theorem dX10_least_115 : decode cX10_least 115 = .ok (.bipush 6, 2) := by decide +kernel
theorem dX10_least_117 : decode cX10_least 117 = .ok (.aload_n 0, 1) := by decide +kernel
theorem dX10_least_118 : decode cX10_least 118 = .ok (.getfield 31, 3) := by decide +kernel
theorem dX10_least_121 : decode cX10_least 121 = .ok (.bipush 15, 2) := by decide +kernel
theorem dX10_least_123 : decode cX10_least 123 = .ok (.iaload, 1) := by decide +kernel
theorem dX10_least_124 : decode cX10_least 124 = .ok (.imul, 1) := by decide +kernel
theorem dX10_least_125 : decode cX10_least 125 = .ok (.iload_n 3, 1) := by decide +kernel
theorem dX10_least_126 : decode cX10_least 126 = .ok (.iadd, 1) := by decide +kernel
theorem dX10_least_127 : decode cX10_least 127 = .ok (.iaload, 1) := by decide +kernel
theorem dX10_least_128 : decode cX10_least 128 = .ok (.ireturn, 1) := by decide +kernel
theorem dX10_least_129 : decode cX10_least 129 = .ok (.iconst 0, 1) := by decide +kernel
theorem dX10_least_130 : decode cX10_least 130 = .ok (.istore 4, 2) := by decide +kernel
theorem dX10_least_132 : decode cX10_least 132 = .ok (.aload_n 0, 1) := by decide +kernel
theorem dX10_least_133 : decode cX10_least 133 = .ok (.iload_n 1, 1) := by decide +kernel
theorem dX10_least_134 : decode cX10_least 134 = .ok (.aload_n 0, 1) := by decide +kernel
theorem dX10_least_135 : decode cX10_least 135 = .ok (.getfield 31, 3) := by decide +kernel
theorem dX10_least_138 : decode cX10_least 138 = .ok (.bipush 15, 2) := by decide +kernel
theorem dX10_least_140 : decode cX10_least 140 = .ok (.iaload, 1) := by decide +kernel
theorem dX10_least_141 : decode cX10_least 141 = .ok (.iload_n 3, 1) := by decide +kernel
theorem dX10_least_142 : decode cX10_least 142 = .ok (.iload 4, 2) := by decide +kernel
theorem dX10_least_144 : decode cX10_least 144 = .ok (.invokevirtual 178, 3) := by decide +kernel
theorem dX10_least_147 : decode cX10_least 147 = .ok (.aload_n 0, 1) := by decide +kernel
theorem dX10_least_148 : decode cX10_least 148 = .ok (.getfield 53, 3) := by decide +kernel
theorem dX10_least_151 : decode cX10_least 151 = .ok (.bipush 6, 2) := by decide +kernel
theorem dX10_least_153 : decode cX10_least 153 = .ok (.aload_n 0, 1) := by decide +kernel
theorem dX10_least_154 : decode cX10_least 154 = .ok (.getfield 31, 3) := by decide +kernel
theorem dX10_least_157 : decode cX10_least 157 = .ok (.bipush 15, 2) := by decide +kernel
theorem dX10_least_159 : decode cX10_least 159 = .ok (.iaload, 1) := by decide +kernel
theorem dX10_least_160 : decode cX10_least 160 = .ok (.imul, 1) := by decide +kernel
theorem dX10_least_161 : decode cX10_least 161 = .ok (.iload_n 3, 1) := by decide +kernel
theorem dX10_least_162 : decode cX10_least 162 = .ok (.iadd, 1) := by decide +kernel
theorem dX10_least_163 : decode cX10_least 163 = .ok (.iaload, 1) := by decide +kernel
theorem dX10_least_164 : decode cX10_least 164 = .ok (.if_icmp .eq 9, 3) := by decide +kernel
theorem dX10_least_167 : decode cX10_least 167 = .ok (.iinc 4 1, 3) := by decide +kernel
theorem dX10_least_170 : decode cX10_least 170 = .ok (.goto (-38), 3) := by decide +kernel
theorem dX10_least_173 : decode cX10_least 173 = .ok (.iload 4, 2) := by decide +kernel
theorem dX10_least_175 : decode cX10_least 175 = .ok (.ireturn, 1) := by decide +kernel
theorem dX10_hears_0 : decode cX10_hears 0 = .ok (.aload_n 0, 1) := by decide +kernel
theorem dX10_hears_1 : decode cX10_hears 1 = .ok (.iconst 0, 1) := by decide +kernel
theorem dX10_hears_2 : decode cX10_hears 2 = .ok (.putfield 62, 3) := by decide +kernel
theorem dX10_hears_5 : decode cX10_hears 5 = .ok (.aload_n 0, 1) := by decide +kernel
theorem dX10_hears_6 : decode cX10_hears 6 = .ok (.iload_n 1, 1) := by decide +kernel
theorem dX10_hears_7 : decode cX10_hears 7 = .ok (.invokevirtual 136, 3) := by decide +kernel
theorem dX10_hears_10 : decode cX10_hears 10 = .ok (.ifCond .eq 23, 3) := by decide +kernel
theorem dX10_hears_13 : decode cX10_hears 13 = .ok (.iload_n 2, 1) := by decide +kernel
theorem dX10_hears_14 : decode cX10_hears 14 = .ok (.iconst 0, 1) := by decide +kernel
theorem dX10_hears_15 : decode cX10_hears 15 = .ok (.sipush 239, 3) := by decide +kernel
theorem dX10_hears_18 : decode cX10_hears 18 = .ok (.invokestatic 66, 3) := by decide +kernel
theorem dX10_hears_21 : decode cX10_hears 21 = .ok (.ifCond .eq 12, 3) := by decide +kernel
theorem dX10_hears_24 : decode cX10_hears 24 = .ok (.iload_n 3, 1) := by decide +kernel
theorem dX10_hears_25 : decode cX10_hears 25 = .ok (.iconst 0, 1) := by decide +kernel
theorem dX10_hears_26 : decode cX10_hears 26 = .ok (.iconst 1, 1) := by decide +kernel
theorem dX10_hears_27 : decode cX10_hears 27 = .ok (.invokestatic 66, 3) := by decide +kernel
theorem dX10_hears_30 : decode cX10_hears 30 = .ok (.ifCond .ne 5, 3) := by decide +kernel
theorem dX10_hears_33 : decode cX10_hears 33 = .ok (.iconst (-1), 1) := by decide +kernel
theorem dX10_hears_34 : decode cX10_hears 34 = .ok (.ireturn, 1) := by decide +kernel
theorem dX10_hears_35 : decode cX10_hears 35 = .ok (.aload_n 0, 1) := by decide +kernel
theorem dX10_hears_36 : decode cX10_hears 36 = .ok (.getfield 121, 3) := by decide +kernel
theorem dX10_hears_39 : decode cX10_hears 39 = .ok (.bipush 6, 2) := by decide +kernel
theorem dX10_hears_41 : decode cX10_hears 41 = .ok (.if_icmp .ne 6, 3) := by decide +kernel
theorem dX10_hears_44 : decode cX10_hears 44 = .ok (.bipush (-3), 2) := by decide +kernel
theorem dX10_hears_46 : decode cX10_hears 46 = .ok (.ireturn, 1) := by decide +kernel
theorem dX10_hears_47 : decode cX10_hears 47 = .ok (.aload_n 0, 1) := by decide +kernel
theorem dX10_hears_48 : decode cX10_hears 48 = .ok (.getfield 44, 3) := by decide +kernel
theorem dX10_hears_51 : decode cX10_hears 51 = .ok (.aload_n 0, 1) := by decide +kernel
theorem dX10_hears_52 : decode cX10_hears 52 = .ok (.getfield 121, 3) := by decide +kernel
theorem dX10_hears_55 : decode cX10_hears 55 = .ok (.iload_n 1, 1) := by decide +kernel
theorem dX10_hears_56 : decode cX10_hears 56 = .ok (.iastore, 1) := by decide +kernel
theorem dX10_hears_57 : decode cX10_hears 57 = .ok (.aload_n 0, 1) := by decide +kernel
theorem dX10_hears_58 : decode cX10_hears 58 = .ok (.getfield 47, 3) := by decide +kernel
theorem dX10_hears_61 : decode cX10_hears 61 = .ok (.aload_n 0, 1) := by decide +kernel
theorem dX10_hears_62 : decode cX10_hears 62 = .ok (.getfield 121, 3) := by decide +kernel
theorem dX10_hears_65 : decode cX10_hears 65 = .ok (.iload_n 2, 1) := by decide +kernel
theorem dX10_hears_66 : decode cX10_hears 66 = .ok (.iastore, 1) := by decide +kernel
theorem dX10_hears_67 : decode cX10_hears 67 = .ok (.aload_n 0, 1) := by decide +kernel
theorem dX10_hears_68 : decode cX10_hears 68 = .ok (.getfield 50, 3) := by decide +kernel
theorem dX10_hears_71 : decode cX10_hears 71 = .ok (.aload_n 0, 1) := by decide +kernel
theorem dX10_hears_72 : decode cX10_hears 72 = .ok (.getfield 121, 3) := by decide +kernel
theorem dX10_hears_75 : decode cX10_hears 75 = .ok (.iload_n 3, 1) := by decide +kernel
theorem dX10_hears_76 : decode cX10_hears 76 = .ok (.iastore, 1) := by decide +kernel
theorem dX10_hears_77 : decode cX10_hears 77 = .ok (.aload_n 0, 1) := by decide +kernel
theorem dX10_hears_78 : decode cX10_hears 78 = .ok (.dup, 1) := by decide +kernel
theorem dX10_hears_79 : decode cX10_hears 79 = .ok (.getfield 121, 3) := by decide +kernel
theorem dX10_hears_82 : decode cX10_hears 82 = .ok (.iconst 1, 1) := by decide +kernel
theorem dX10_hears_83 : decode cX10_hears 83 = .ok (.iadd, 1) := by decide +kernel
theorem dX10_hears_84 : decode cX10_hears 84 = .ok (.putfield 121, 3) := by decide +kernel
theorem dX10_hears_87 : decode cX10_hears 87 = .ok (.aload_n 0, 1) := by decide +kernel
theorem dX10_hears_88 : decode cX10_hears 88 = .ok (.getfield 121, 3) := by decide +kernel
theorem dX10_hears_91 : decode cX10_hears 91 = .ok (.ireturn, 1) := by decide +kernel
theorem dX10_forget_0 : decode cX10_forget 0 = .ok (.aload_n 0, 1) := by decide +kernel
theorem dX10_forget_1 : decode cX10_forget 1 = .ok (.iconst 0, 1) := by decide +kernel
theorem dX10_forget_2 : decode cX10_forget 2 = .ok (.putfield 62, 3) := by decide +kernel
theorem dX10_forget_5 : decode cX10_forget 5 = .ok (.aload_n 0, 1) := by decide +kernel
theorem dX10_forget_6 : decode cX10_forget 6 = .ok (.getfield 121, 3) := by decide +kernel
theorem dX10_forget_9 : decode cX10_forget 9 = .ok (.istore_n 1, 1) := by decide +kernel
theorem dX10_forget_10 : decode cX10_forget 10 = .ok (.aload_n 0, 1) := by decide +kernel
theorem dX10_forget_11 : decode cX10_forget 11 = .ok (.iconst 0, 1) := by decide +kernel
theorem dX10_forget_12 : decode cX10_forget 12 = .ok (.putfield 121, 3) := by decide +kernel
theorem dX10_forget_15 : decode cX10_forget 15 = .ok (.iload_n 1, 1) := by decide +kernel
theorem dX10_forget_16 : decode cX10_forget 16 = .ok (.ireturn, 1) := by decide +kernel
theorem dX10_can_0 : decode cX10_can 0 = .ok (.aload_n 0, 1) := by decide +kernel
theorem dX10_can_1 : decode cX10_can 1 = .ok (.iconst 0, 1) := by decide +kernel
theorem dX10_can_2 : decode cX10_can 2 = .ok (.putfield 62, 3) := by decide +kernel
theorem dX10_can_5 : decode cX10_can 5 = .ok (.aload_n 0, 1) := by decide +kernel
theorem dX10_can_6 : decode cX10_can 6 = .ok (.iload_n 1, 1) := by decide +kernel
theorem dX10_can_7 : decode cX10_can 7 = .ok (.invokevirtual 136, 3) := by decide +kernel
theorem dX10_can_10 : decode cX10_can 10 = .ok (.ifCond .ne 5, 3) := by decide +kernel
theorem dX10_can_13 : decode cX10_can 13 = .ok (.iconst (-1), 1) := by decide +kernel
theorem dX10_can_14 : decode cX10_can 14 = .ok (.ireturn, 1) := by decide +kernel
theorem dX10_can_15 : decode cX10_can 15 = .ok (.aload_n 0, 1) := by decide +kernel
theorem dX10_can_16 : decode cX10_can 16 = .ok (.invokevirtual 139, 3) := by decide +kernel
theorem dX10_can_19 : decode cX10_can 19 = .ok (.iconst 0, 1) := by decide +kernel
theorem dX10_can_20 : decode cX10_can 20 = .ok (.istore_n 2, 1) := by decide +kernel
theorem dX10_can_21 : decode cX10_can 21 = .ok (.iconst 0, 1) := by decide +kernel
theorem dX10_can_22 : decode cX10_can 22 = .ok (.istore_n 3, 1) := by decide +kernel
theorem dX10_can_23 : decode cX10_can 23 = .ok (.iload_n 3, 1) := by decide +kernel
theorem dX10_can_24 : decode cX10_can 24 = .ok (.aload_n 0, 1) := by decide +kernel
theorem dX10_can_25 : decode cX10_can 25 = .ok (.getfield 13, 3) := by decide +kernel
theorem dX10_can_28 : decode cX10_can 28 = .ok (.iconst 0, 1) := by decide +kernel
theorem dX10_can_29 : decode cX10_can 29 = .ok (.iaload, 1) := by decide +kernel
theorem dX10_can_30 : decode cX10_can 30 = .ok (.if_icmp .ge 100, 3) := by decide +kernel
theorem dX10_can_33 : decode cX10_can 33 = .ok (.iconst 1, 1) := by decide +kernel
theorem dX10_can_34 : decode cX10_can 34 = .ok (.istore 4, 2) := by decide +kernel
theorem dX10_can_36 : decode cX10_can 36 = .ok (.iconst 0, 1) := by decide +kernel
theorem dX10_can_37 : decode cX10_can 37 = .ok (.istore 5, 2) := by decide +kernel
theorem dX10_can_39 : decode cX10_can 39 = .ok (.iload 5, 2) := by decide +kernel
theorem dX10_can_41 : decode cX10_can 41 = .ok (.aload_n 0, 1) := by decide +kernel
theorem dX10_can_42 : decode cX10_can 42 = .ok (.getfield 121, 3) := by decide +kernel
theorem dX10_can_45 : decode cX10_can 45 = .ok (.if_icmp .ge 64, 3) := by decide +kernel
theorem dX10_can_48 : decode cX10_can 48 = .ok (.iload 4, 2) := by decide +kernel
theorem dX10_can_50 : decode cX10_can 50 = .ok (.ifCond .eq 50, 3) := by decide +kernel
theorem dX10_can_53 : decode cX10_can 53 = .ok (.aload_n 0, 1) := by decide +kernel
theorem dX10_can_54 : decode cX10_can 54 = .ok (.getfield 44, 3) := by decide +kernel
theorem dX10_can_57 : decode cX10_can 57 = .ok (.iload 5, 2) := by decide +kernel
theorem dX10_can_59 : decode cX10_can 59 = .ok (.iaload, 1) := by decide +kernel
theorem dX10_can_60 : decode cX10_can 60 = .ok (.iload_n 1, 1) := by decide +kernel
theorem dX10_can_61 : decode cX10_can 61 = .ok (.if_icmp .ne 35, 3) := by decide +kernel
theorem dX10_can_64 : decode cX10_can 64 = .ok (.aload_n 0, 1) := by decide +kernel
theorem dX10_can_65 : decode cX10_can 65 = .ok (.iload_n 1, 1) := by decide +kernel
theorem dX10_can_66 : decode cX10_can 66 = .ok (.aload_n 0, 1) := by decide +kernel
theorem dX10_can_67 : decode cX10_can 67 = .ok (.getfield 47, 3) := by decide +kernel
theorem dX10_can_70 : decode cX10_can 70 = .ok (.iload 5, 2) := by decide +kernel
theorem dX10_can_72 : decode cX10_can 72 = .ok (.iaload, 1) := by decide +kernel
theorem dX10_can_73 : decode cX10_can 73 = .ok (.iload_n 3, 1) := by decide +kernel
theorem dX10_can_74 : decode cX10_can 74 = .ok (.invokevirtual 133, 3) := by decide +kernel
theorem dX10_can_77 : decode cX10_can 77 = .ok (.aload_n 0, 1) := by decide +kernel
theorem dX10_can_78 : decode cX10_can 78 = .ok (.getfield 50, 3) := by decide +kernel
theorem dX10_can_81 : decode cX10_can 81 = .ok (.iload 5, 2) := by decide +kernel
theorem dX10_can_83 : decode cX10_can 83 = .ok (.iaload, 1) := by decide +kernel
theorem dX10_can_84 : decode cX10_can 84 = .ok (.iconst 1, 1) := by decide +kernel
theorem dX10_can_85 : decode cX10_can 85 = .ok (.if_icmp .ne 7, 3) := by decide +kernel
theorem dX10_can_88 : decode cX10_can 88 = .ok (.iconst 1, 1) := by decide +kernel
theorem dX10_can_89 : decode cX10_can 89 = .ok (.goto 4, 3) := by decide +kernel
theorem dX10_can_92 : decode cX10_can 92 = .ok (.iconst 0, 1) := by decide +kernel
theorem dX10_can_93 : decode cX10_can 93 = .ok (.if_icmp .ne 7, 3) := by decide +kernel
theorem dX10_can_96 : decode cX10_can 96 = .ok (.iconst 1, 1) := by decide +kernel
theorem dX10_can_97 : decode cX10_can 97 = .ok (.goto 4, 3) := by decide +kernel
theorem dX10_can_100 : decode cX10_can 100 = .ok (.iconst 0, 1) := by decide +kernel
theorem dX10_can_101 : decode cX10_can 101 = .ok (.istore 4, 2) := by decide +kernel
theorem dX10_can_103 : decode cX10_can 103 = .ok (.iinc 5 1, 3) := by decide +kernel
theorem dX10_can_106 : decode cX10_can 106 = .ok (.goto (-67), 3) := by decide +kernel
theorem dX10_can_109 : decode cX10_can 109 = .ok (.iload_n 2, 1) := by decide +kernel
theorem dX10_can_110 : decode cX10_can 110 = .ok (.iload 4, 2) := by decide +kernel
theorem dX10_can_112 : decode cX10_can 112 = .ok (.ifCond .eq 9, 3) := by decide +kernel
theorem dX10_can_115 : decode cX10_can 115 = .ok (.iconst 1, 1) := by decide +kernel
theorem dX10_can_116 : decode cX10_can 116 = .ok (.iload_n 3, 1) := by decide +kernel
theorem dX10_can_117 : decode cX10_can 117 = .ok (.ishl, 1) := by decide +kernel
theorem dX10_can_118 : decode cX10_can 118 = .ok (.goto 4, 3) := by decide +kernel
theorem dX10_can_121 : decode cX10_can 121 = .ok (.iconst 0, 1) := by decide +kernel
theorem dX10_can_122 : decode cX10_can 122 = .ok (.ior, 1) := by decide +kernel
theorem dX10_can_123 : decode cX10_can 123 = .ok (.istore_n 2, 1) := by decide +kernel
theorem dX10_can_124 : decode cX10_can 124 = .ok (.iinc 3 1, 3) := by decide +kernel
theorem dX10_can_127 : decode cX10_can 127 = .ok (.goto (-104), 3) := by decide +kernel
theorem dX10_can_130 : decode cX10_can 130 = .ok (.iload_n 2, 1) := by decide +kernel
theorem dX10_can_131 : decode cX10_can 131 = .ok (.ireturn, 1) := by decide +kernel
theorem dX10_tells_0 : decode cX10_tells 0 = .ok (.aload_n 0, 1) := by decide +kernel
theorem dX10_tells_1 : decode cX10_tells 1 = .ok (.iconst 0, 1) := by decide +kernel
theorem dX10_tells_2 : decode cX10_tells 2 = .ok (.putfield 62, 3) := by decide +kernel
theorem dX10_tells_5 : decode cX10_tells 5 = .ok (.aload_n 0, 1) := by decide +kernel
theorem dX10_tells_6 : decode cX10_tells 6 = .ok (.iload_n 1, 1) := by decide +kernel
theorem dX10_tells_7 : decode cX10_tells 7 = .ok (.invokevirtual 136, 3) := by decide +kernel
theorem dX10_tells_10 : decode cX10_tells 10 = .ok (.ifCond .eq 19, 3) := by decide +kernel
theorem dX10_tells_13 : decode cX10_tells 13 = .ok (.aload_n 0, 1) := by decide +kernel
theorem dX10_tells_14 : decode cX10_tells 14 = .ok (.iload_n 2, 1) := by decide +kernel
theorem dX10_tells_15 : decode cX10_tells 15 = .ok (.invokevirtual 155, 3) := by decide +kernel
theorem dX10_tells_18 : decode cX10_tells 18 = .ok (.ifCond .eq 11, 3) := by decide +kernel
theorem dX10_tells_21 : decode cX10_tells 21 = .ok (.aload_n 0, 1) := by decide +kernel
theorem dX10_tells_22 : decode cX10_tells 22 = .ok (.iload_n 3, 1) := by decide +kernel
theorem dX10_tells_23 : decode cX10_tells 23 = .ok (.invokevirtual 155, 3) := by decide +kernel
theorem dX10_tells_26 : decode cX10_tells 26 = .ok (.ifCond .ne 5, 3) := by decide +kernel
theorem dX10_tells_29 : decode cX10_tells 29 = .ok (.iconst (-1), 1) := by decide +kernel
theorem dX10_tells_30 : decode cX10_tells 30 = .ok (.ireturn, 1) := by decide +kernel
theorem dX10_tells_31 : decode cX10_tells 31 = .ok (.aload_n 0, 1) := by decide +kernel
theorem dX10_tells_32 : decode cX10_tells 32 = .ok (.invokevirtual 139, 3) := by decide +kernel
theorem dX10_tells_35 : decode cX10_tells 35 = .ok (.iconst 0, 1) := by decide +kernel
theorem dX10_tells_36 : decode cX10_tells 36 = .ok (.istore 4, 2) := by decide +kernel
theorem dX10_tells_38 : decode cX10_tells 38 = .ok (.iload 4, 2) := by decide +kernel
theorem dX10_tells_40 : decode cX10_tells 40 = .ok (.sipush 240, 3) := by decide +kernel
theorem dX10_tells_43 : decode cX10_tells 43 = .ok (.if_icmp .ge 31, 3) := by decide +kernel
theorem dX10_tells_46 : decode cX10_tells 46 = .ok (.aload_n 0, 1) := by decide +kernel
theorem dX10_tells_47 : decode cX10_tells 47 = .ok (.iload_n 1, 1) := by decide +kernel
theorem dX10_tells_48 : decode cX10_tells 48 = .ok (.iload 4, 2) := by decide +kernel
theorem dX10_tells_50 : decode cX10_tells 50 = .ok (.iload_n 2, 1) := by decide +kernel
theorem dX10_tells_51 : decode cX10_tells 51 = .ok (.invokevirtual 133, 3) := by decide +kernel
theorem dX10_tells_54 : decode cX10_tells 54 = .ok (.aload_n 0, 1) := by decide +kernel
theorem dX10_tells_55 : decode cX10_tells 55 = .ok (.iload_n 1, 1) := by decide +kernel
theorem dX10_tells_56 : decode cX10_tells 56 = .ok (.iload 4, 2) := by decide +kernel
theorem dX10_tells_58 : decode cX10_tells 58 = .ok (.iload_n 3, 1) := by decide +kernel
theorem dX10_tells_59 : decode cX10_tells 59 = .ok (.invokevirtual 133, 3) := by decide +kernel
theorem dX10_tells_62 : decode cX10_tells 62 = .ok (.if_icmp .eq 6, 3) := by decide +kernel
theorem dX10_tells_65 : decode cX10_tells 65 = .ok (.iload 4, 2) := by decide +kernel
theorem dX10_tells_67 : decode cX10_tells 67 = .ok (.ireturn, 1) := by decide +kernel
theorem dX10_tells_68 : decode cX10_tells 68 = .ok (.iinc 4 1, 3) := by decide +kernel
theorem dX10_tells_71 : decode cX10_tells 71 = .ok (.goto (-33), 3) := by decide +kernel
theorem dX10_tells_74 : decode cX10_tells 74 = .ok (.bipush (-9), 2) := by decide +kernel
theorem dX10_tells_76 : decode cX10_tells 76 = .ok (.ireturn, 1) := by decide +kernel
theorem dX10_gcd_0 : decode cX10_gcd 0 = .ok (.iload_n 0, 1) := by decide +kernel
theorem dX10_gcd_1 : decode cX10_gcd 1 = .ok (.istore_n 2, 1) := by decide +kernel
theorem dX10_gcd_2 : decode cX10_gcd 2 = .ok (.iload_n 1, 1) := by decide +kernel
theorem dX10_gcd_3 : decode cX10_gcd 3 = .ok (.istore_n 3, 1) := by decide +kernel
theorem dX10_gcd_4 : decode cX10_gcd 4 = .ok (.iload_n 3, 1) := by decide +kernel
theorem dX10_gcd_5 : decode cX10_gcd 5 = .ok (.ifCond .eq 16, 3) := by decide +kernel
theorem dX10_gcd_8 : decode cX10_gcd 8 = .ok (.iload_n 2, 1) := by decide +kernel
theorem dX10_gcd_9 : decode cX10_gcd 9 = .ok (.iload_n 3, 1) := by decide +kernel
theorem dX10_gcd_10 : decode cX10_gcd 10 = .ok (.irem, 1) := by decide +kernel
theorem dX10_gcd_11 : decode cX10_gcd 11 = .ok (.istore 4, 2) := by decide +kernel
theorem dX10_gcd_13 : decode cX10_gcd 13 = .ok (.iload_n 3, 1) := by decide +kernel
theorem dX10_gcd_14 : decode cX10_gcd 14 = .ok (.istore_n 2, 1) := by decide +kernel
theorem dX10_gcd_15 : decode cX10_gcd 15 = .ok (.iload 4, 2) := by decide +kernel
theorem dX10_gcd_17 : decode cX10_gcd 17 = .ok (.istore_n 3, 1) := by decide +kernel
theorem dX10_gcd_18 : decode cX10_gcd 18 = .ok (.goto (-14), 3) := by decide +kernel
theorem dX10_gcd_21 : decode cX10_gcd 21 = .ok (.iload_n 2, 1) := by decide +kernel
theorem dX10_gcd_22 : decode cX10_gcd 22 = .ok (.ireturn, 1) := by decide +kernel
theorem dX10_odds_0 : decode cX10_odds 0 = .ok (.aload_n 0, 1) := by decide +kernel
theorem dX10_odds_1 : decode cX10_odds 1 = .ok (.iconst 0, 1) := by decide +kernel
theorem dX10_odds_2 : decode cX10_odds 2 = .ok (.putfield 62, 3) := by decide +kernel
theorem dX10_odds_5 : decode cX10_odds 5 = .ok (.aload_n 0, 1) := by decide +kernel
theorem dX10_odds_6 : decode cX10_odds 6 = .ok (.iload_n 1, 1) := by decide +kernel
theorem dX10_odds_7 : decode cX10_odds 7 = .ok (.invokevirtual 136, 3) := by decide +kernel
theorem dX10_odds_10 : decode cX10_odds 10 = .ok (.ifCond .eq 34, 3) := by decide +kernel
theorem dX10_odds_13 : decode cX10_odds 13 = .ok (.iload_n 2, 1) := by decide +kernel
theorem dX10_odds_14 : decode cX10_odds 14 = .ok (.iconst 0, 1) := by decide +kernel
theorem dX10_odds_15 : decode cX10_odds 15 = .ok (.sipush 239, 3) := by decide +kernel
theorem dX10_odds_18 : decode cX10_odds 18 = .ok (.invokestatic 66, 3) := by decide +kernel
theorem dX10_odds_21 : decode cX10_odds 21 = .ok (.ifCond .eq 23, 3) := by decide +kernel
theorem dX10_odds_24 : decode cX10_odds 24 = .ok (.iload_n 3, 1) := by decide +kernel
theorem dX10_odds_25 : decode cX10_odds 25 = .ok (.iconst 0, 1) := by decide +kernel
theorem dX10_odds_26 : decode cX10_odds 26 = .ok (.bipush 10, 2) := by decide +kernel
theorem dX10_odds_28 : decode cX10_odds 28 = .ok (.invokestatic 66, 3) := by decide +kernel
theorem dX10_odds_31 : decode cX10_odds 31 = .ok (.ifCond .eq 13, 3) := by decide +kernel
theorem dX10_odds_34 : decode cX10_odds 34 = .ok (.iload 4, 2) := by decide +kernel
theorem dX10_odds_36 : decode cX10_odds 36 = .ok (.iconst 0, 1) := by decide +kernel
theorem dX10_odds_37 : decode cX10_odds 37 = .ok (.iconst 1, 1) := by decide +kernel
theorem dX10_odds_38 : decode cX10_odds 38 = .ok (.invokestatic 66, 3) := by decide +kernel
theorem dX10_odds_41 : decode cX10_odds 41 = .ok (.ifCond .ne 5, 3) := by decide +kernel
theorem dX10_odds_44 : decode cX10_odds 44 = .ok (.iconst (-1), 1) := by decide +kernel
theorem dX10_odds_45 : decode cX10_odds 45 = .ok (.ireturn, 1) := by decide +kernel
theorem dX10_odds_46 : decode cX10_odds 46 = .ok (.iconst 1, 1) := by decide +kernel
theorem dX10_odds_47 : decode cX10_odds 47 = .ok (.istore 5, 2) := by decide +kernel
theorem dX10_odds_49 : decode cX10_odds 49 = .ok (.iconst 1, 1) := by decide +kernel
theorem dX10_odds_50 : decode cX10_odds 50 = .ok (.istore 6, 2) := by decide +kernel
theorem dX10_odds_52 : decode cX10_odds 52 = .ok (.iconst 0, 1) := by decide +kernel
theorem dX10_odds_53 : decode cX10_odds 53 = .ok (.istore 7, 2) := by decide +kernel
theorem dX10_odds_55 : decode cX10_odds 55 = .ok (.iload 7, 2) := by decide +kernel
theorem dX10_odds_57 : decode cX10_odds 57 = .ok (.aload_n 0, 1) := by decide +kernel
theorem dX10_odds_58 : decode cX10_odds 58 = .ok (.getfield 13, 3) := by decide +kernel
theorem dX10_odds_61 : decode cX10_odds 61 = .ok (.iconst 2, 1) := by decide +kernel
theorem dX10_odds_62 : decode cX10_odds 62 = .ok (.iaload, 1) := by decide +kernel
theorem dX10_odds_63 : decode cX10_odds 63 = .ok (.if_icmp .ge 59, 3) := by decide +kernel
theorem dX10_odds_66 : decode cX10_odds 66 = .ok (.aload_n 0, 1) := by decide +kernel
theorem dX10_odds_67 : decode cX10_odds 67 = .ok (.sipush 255, 3) := by decide +kernel
theorem dX10_odds_70 : decode cX10_odds 70 = .ok (.iconst 1, 1) := by decide +kernel
theorem dX10_odds_71 : decode cX10_odds 71 = .ok (.iload 7, 2) := by decide +kernel
theorem dX10_odds_73 : decode cX10_odds 73 = .ok (.ishl, 1) := by decide +kernel
theorem dX10_odds_74 : decode cX10_odds 74 = .ok (.iconst (-1), 1) := by decide +kernel
theorem dX10_odds_75 : decode cX10_odds 75 = .ok (.ixor, 1) := by decide +kernel
theorem dX10_odds_76 : decode cX10_odds 76 = .ok (.iand, 1) := by decide +kernel
theorem dX10_odds_77 : decode cX10_odds 77 = .ok (.aload_n 0, 1) := by decide +kernel
theorem dX10_odds_78 : decode cX10_odds 78 = .ok (.getfield 31, 3) := by decide +kernel
theorem dX10_odds_81 : decode cX10_odds 81 = .ok (.bipush 16, 2) := by decide +kernel
theorem dX10_odds_83 : decode cX10_odds 83 = .ok (.iaload, 1) := by decide +kernel
theorem dX10_odds_84 : decode cX10_odds 84 = .ok (.ior, 1) := by decide +kernel
theorem dX10_odds_85 : decode cX10_odds 85 = .ok (.putfield 127, 3) := by decide +kernel
theorem dX10_odds_88 : decode cX10_odds 88 = .ok (.aload_n 0, 1) := by decide +kernel
theorem dX10_odds_89 : decode cX10_odds 89 = .ok (.iload_n 1, 1) := by decide +kernel
theorem dX10_odds_90 : decode cX10_odds 90 = .ok (.iload_n 2, 1) := by decide +kernel
theorem dX10_odds_91 : decode cX10_odds 91 = .ok (.aload_n 0, 1) := by decide +kernel
theorem dX10_odds_92 : decode cX10_odds 92 = .ok (.getfield 16, 3) := by decide +kernel
theorem dX10_odds_95 : decode cX10_odds 95 = .ok (.iload_n 1, 1) := by decide +kernel
theorem dX10_odds_96 : decode cX10_odds 96 = .ok (.iaload, 1) := by decide +kernel
theorem dX10_odds_97 : decode cX10_odds 97 = .ok (.invokevirtual 133, 3) := by decide +kernel
theorem dX10_odds_100 : decode cX10_odds 100 = .ok (.ifCond .eq 16, 3) := by decide +kernel
theorem dX10_odds_103 : decode cX10_odds 103 = .ok (.iload 5, 2) := by decide +kernel
theorem dX10_odds_105 : decode cX10_odds 105 = .ok (.bipush 10, 2) := by decide +kernel
theorem dX10_odds_107 : decode cX10_odds 107 = .ok (.imul, 1) := by decide +kernel
theorem dX10_odds_108 : decode cX10_odds 108 = .ok (.istore 5, 2) := by decide +kernel
theorem dX10_odds_110 : decode cX10_odds 110 = .ok (.iload 6, 2) := by decide +kernel
theorem dX10_odds_112 : decode cX10_odds 112 = .ok (.iload_n 3, 1) := by decide +kernel
theorem dX10_odds_113 : decode cX10_odds 113 = .ok (.imul, 1) := by decide +kernel
theorem dX10_odds_114 : decode cX10_odds 114 = .ok (.istore 6, 2) := by decide +kernel
theorem dX10_odds_116 : decode cX10_odds 116 = .ok (.iinc 7 1, 3) := by decide +kernel
theorem dX10_odds_119 : decode cX10_odds 119 = .ok (.goto (-64), 3) := by decide +kernel
theorem dX10_odds_122 : decode cX10_odds 122 = .ok (.iload 5, 2) := by decide +kernel
theorem dX10_odds_124 : decode cX10_odds 124 = .ok (.iload 6, 2) := by decide +kernel
theorem dX10_odds_126 : decode cX10_odds 126 = .ok (.isub, 1) := by decide +kernel
theorem dX10_odds_127 : decode cX10_odds 127 = .ok (.iload 5, 2) := by decide +kernel
theorem dX10_odds_129 : decode cX10_odds 129 = .ok (.invokestatic 184, 3) := by decide +kernel
theorem dX10_odds_132 : decode cX10_odds 132 = .ok (.istore 7, 2) := by decide +kernel
theorem dX10_odds_134 : decode cX10_odds 134 = .ok (.iload 4, 2) := by decide +kernel
theorem dX10_odds_136 : decode cX10_odds 136 = .ok (.ifCond .ne 14, 3) := by decide +kernel
theorem dX10_odds_139 : decode cX10_odds 139 = .ok (.iload 5, 2) := by decide +kernel
theorem dX10_odds_141 : decode cX10_odds 141 = .ok (.iload 6, 2) := by decide +kernel
theorem dX10_odds_143 : decode cX10_odds 143 = .ok (.isub, 1) := by decide +kernel
theorem dX10_odds_144 : decode cX10_odds 144 = .ok (.iload 7, 2) := by decide +kernel
theorem dX10_odds_146 : decode cX10_odds 146 = .ok (.idiv, 1) := by decide +kernel
theorem dX10_odds_147 : decode cX10_odds 147 = .ok (.goto 8, 3) := by decide +kernel
theorem dX10_odds_150 : decode cX10_odds 150 = .ok (.iload 5, 2) := by decide +kernel
theorem dX10_odds_152 : decode cX10_odds 152 = .ok (.iload 7, 2) := by decide +kernel
theorem dX10_odds_154 : decode cX10_odds 154 = .ok (.idiv, 1) := by decide +kernel
theorem dX10_odds_155 : decode cX10_odds 155 = .ok (.ireturn, 1) := by decide +kernel
theorem dX10_rate_0 : decode cX10_rate 0 = .ok (.aload_n 0, 1) := by decide +kernel
theorem dX10_rate_1 : decode cX10_rate 1 = .ok (.iconst 0, 1) := by decide +kernel
theorem dX10_rate_2 : decode cX10_rate 2 = .ok (.putfield 62, 3) := by decide +kernel
theorem dX10_rate_5 : decode cX10_rate 5 = .ok (.iload_n 1, 1) := by decide +kernel
theorem dX10_rate_6 : decode cX10_rate 6 = .ok (.iconst 0, 1) := by decide +kernel
theorem dX10_rate_7 : decode cX10_rate 7 = .ok (.iconst 5, 1) := by decide +kernel
theorem dX10_rate_8 : decode cX10_rate 8 = .ok (.invokestatic 66, 3) := by decide +kernel
theorem dX10_rate_11 : decode cX10_rate 11 = .ok (.ifCond .eq 11, 3) := by decide +kernel
theorem dX10_rate_14 : decode cX10_rate 14 = .ok (.aload_n 0, 1) := by decide +kernel
theorem dX10_rate_15 : decode cX10_rate 15 = .ok (.iload_n 2, 1) := by decide +kernel
theorem dX10_rate_16 : decode cX10_rate 16 = .ok (.invokevirtual 142, 3) := by decide +kernel
theorem dX10_rate_19 : decode cX10_rate 19 = .ok (.ifCond .ne 6, 3) := by decide +kernel
theorem dX10_rate_22 : decode cX10_rate 22 = .ok (.ldc 187, 2) := by decide +kernel
theorem dX10_rate_24 : decode cX10_rate 24 = .ok (.ireturn, 1) := by decide +kernel
theorem dX10_rate_25 : decode cX10_rate 25 = .ok (.aload_n 0, 1) := by decide +kernel
theorem dX10_rate_26 : decode cX10_rate 26 = .ok (.getfield 28, 3) := by decide +kernel
theorem dX10_rate_29 : decode cX10_rate 29 = .ok (.iload_n 2, 1) := by decide +kernel
theorem dX10_rate_30 : decode cX10_rate 30 = .ok (.iaload, 1) := by decide +kernel
theorem dX10_rate_31 : decode cX10_rate 31 = .ok (.istore_n 3, 1) := by decide +kernel
theorem dX10_rate_32 : decode cX10_rate 32 = .ok (.iload_n 3, 1) := by decide +kernel
theorem dX10_rate_33 : decode cX10_rate 33 = .ok (.aload_n 0, 1) := by decide +kernel
theorem dX10_rate_34 : decode cX10_rate 34 = .ok (.getfield 22, 3) := by decide +kernel
theorem dX10_rate_37 : decode cX10_rate 37 = .ok (.iload_n 2, 1) := by decide +kernel
theorem dX10_rate_38 : decode cX10_rate 38 = .ok (.iaload, 1) := by decide +kernel
theorem dX10_rate_39 : decode cX10_rate 39 = .ok (.iadd, 1) := by decide +kernel
theorem dX10_rate_40 : decode cX10_rate 40 = .ok (.istore 4, 2) := by decide +kernel
theorem dX10_rate_42 : decode cX10_rate 42 = .ok (.iload_n 3, 1) := by decide +kernel
theorem dX10_rate_43 : decode cX10_rate 43 = .ok (.aload_n 0, 1) := by decide +kernel
theorem dX10_rate_44 : decode cX10_rate 44 = .ok (.getfield 31, 3) := by decide +kernel
theorem dX10_rate_47 : decode cX10_rate 47 = .ok (.bipush 16, 2) := by decide +kernel
theorem dX10_rate_49 : decode cX10_rate 49 = .ok (.iaload, 1) := by decide +kernel
theorem dX10_rate_50 : decode cX10_rate 50 = .ok (.iload_n 2, 1) := by decide +kernel
theorem dX10_rate_51 : decode cX10_rate 51 = .ok (.ishr, 1) := by decide +kernel
theorem dX10_rate_52 : decode cX10_rate 52 = .ok (.iconst 1, 1) := by decide +kernel
theorem dX10_rate_53 : decode cX10_rate 53 = .ok (.iand, 1) := by decide +kernel
theorem dX10_rate_54 : decode cX10_rate 54 = .ok (.iconst 1, 1) := by decide +kernel
theorem dX10_rate_55 : decode cX10_rate 55 = .ok (.if_icmp .ne 8, 3) := by decide +kernel
theorem dX10_rate_58 : decode cX10_rate 58 = .ok (.bipush 7, 2) := by decide +kernel
theorem dX10_rate_60 : decode cX10_rate 60 = .ok (.goto 4, 3) := by decide +kernel
theorem dX10_rate_63 : decode cX10_rate 63 = .ok (.iconst 0, 1) := by decide +kernel
theorem dX10_rate_64 : decode cX10_rate 64 = .ok (.isub, 1) := by decide +kernel
theorem dX10_rate_65 : decode cX10_rate 65 = .ok (.istore 5, 2) := by decide +kernel
theorem dX10_rate_67 : decode cX10_rate 67 = .ok (.aload_n 0, 1) := by decide +kernel
theorem dX10_rate_68 : decode cX10_rate 68 = .ok (.dup, 1) := by decide +kernel
theorem dX10_rate_69 : decode cX10_rate 69 = .ok (.getfield 188, 3) := by decide +kernel
theorem dX10_rate_72 : decode cX10_rate 72 = .ok (.iload_n 1, 1) := by decide +kernel
theorem dX10_rate_73 : decode cX10_rate 73 = .ok (.ifCond .ne 7, 3) := by decide +kernel
theorem dX10_rate_76 : decode cX10_rate 76 = .ok (.lconst 1, 1) := by decide +kernel
theorem dX10_rate_77 : decode cX10_rate 77 = .ok (.goto 50, 3) := by decide +kernel
theorem dX10_rate_80 : decode cX10_rate 80 = .ok (.iload_n 1, 1) := by decide +kernel
theorem dX10_rate_81 : decode cX10_rate 81 = .ok (.iconst 1, 1) := by decide +kernel
theorem dX10_rate_82 : decode cX10_rate 82 = .ok (.if_icmp .ne 9, 3) := by decide +kernel
theorem dX10_rate_85 : decode cX10_rate 85 = .ok (.ldc2_w 192, 3) := by decide +kernel
theorem dX10_rate_88 : decode cX10_rate 88 = .ok (.goto 39, 3) := by decide +kernel
theorem dX10_rate_91 : decode cX10_rate 91 = .ok (.iload_n 1, 1) := by decide +kernel
theorem dX10_rate_92 : decode cX10_rate 92 = .ok (.iconst 2, 1) := by decide +kernel
theorem dX10_rate_93 : decode cX10_rate 93 = .ok (.if_icmp .ne 9, 3) := by decide +kernel
theorem dX10_rate_96 : decode cX10_rate 96 = .ok (.ldc2_w 194, 3) := by decide +kernel
theorem dX10_rate_99 : decode cX10_rate 99 = .ok (.goto 28, 3) := by decide +kernel
theorem dX10_rate_102 : decode cX10_rate 102 = .ok (.iload_n 1, 1) := by decide +kernel
theorem dX10_rate_103 : decode cX10_rate 103 = .ok (.iconst 3, 1) := by decide +kernel
theorem dX10_rate_104 : decode cX10_rate 104 = .ok (.if_icmp .ne 9, 3) := by decide +kernel
theorem dX10_rate_107 : decode cX10_rate 107 = .ok (.ldc2_w 196, 3) := by decide +kernel
theorem dX10_rate_110 : decode cX10_rate 110 = .ok (.goto 17, 3) := by decide +kernel
theorem dX10_rate_113 : decode cX10_rate 113 = .ok (.iload_n 1, 1) := by decide +kernel
theorem dX10_rate_114 : decode cX10_rate 114 = .ok (.iconst 4, 1) := by decide +kernel
theorem dX10_rate_115 : decode cX10_rate 115 = .ok (.if_icmp .ne 9, 3) := by decide +kernel
theorem dX10_rate_118 : decode cX10_rate 118 = .ok (.ldc2_w 198, 3) := by decide +kernel
theorem dX10_rate_121 : decode cX10_rate 121 = .ok (.goto 6, 3) := by decide +kernel
theorem dX10_rate_124 : decode cX10_rate 124 = .ok (.ldc2_w 200, 3) := by decide +kernel
theorem dX10_rate_127 : decode cX10_rate 127 = .ok (.ladd, 1) := by decide +kernel
theorem dX10_rate_128 : decode cX10_rate 128 = .ok (.putfield 188, 3) := by decide +kernel
theorem dX10_rate_131 : decode cX10_rate 131 = .ok (.iload_n 1, 1) := by decide +kernel
theorem dX10_rate_132 : decode cX10_rate 132 = .ok (.ifCond .ne 7, 3) := by decide +kernel
theorem dX10_rate_135 : decode cX10_rate 135 = .ok (.iload_n 3, 1) := by decide +kernel
theorem dX10_rate_136 : decode cX10_rate 136 = .ok (.goto 66, 3) := by decide +kernel
theorem dX10_rate_139 : decode cX10_rate 139 = .ok (.iload_n 1, 1) := by decide +kernel
theorem dX10_rate_140 : decode cX10_rate 140 = .ok (.iconst 1, 1) := by decide +kernel
theorem dX10_rate_141 : decode cX10_rate 141 = .ok (.if_icmp .ne 8, 3) := by decide +kernel
theorem dX10_rate_144 : decode cX10_rate 144 = .ok (.iload 4, 2) := by decide +kernel
theorem dX10_rate_146 : decode cX10_rate 146 = .ok (.goto 56, 3) := by decide +kernel
theorem dX10_rate_149 : decode cX10_rate 149 = .ok (.iload_n 1, 1) := by decide +kernel
theorem dX10_rate_150 : decode cX10_rate 150 = .ok (.iconst 2, 1) := by decide +kernel
theorem dX10_rate_151 : decode cX10_rate 151 = .ok (.if_icmp .ne 8, 3) := by decide +kernel
theorem dX10_rate_154 : decode cX10_rate 154 = .ok (.iload 5, 2) := by decide +kernel
theorem dX10_rate_156 : decode cX10_rate 156 = .ok (.goto 46, 3) := by decide +kernel
theorem dX10_rate_159 : decode cX10_rate 159 = .ok (.iload_n 1, 1) := by decide +kernel
theorem dX10_rate_160 : decode cX10_rate 160 = .ok (.iconst 3, 1) := by decide +kernel
theorem dX10_rate_161 : decode cX10_rate 161 = .ok (.if_icmp .ne 10, 3) := by decide +kernel
theorem dX10_rate_164 : decode cX10_rate 164 = .ok (.iconst 2, 1) := by decide +kernel
theorem dX10_rate_165 : decode cX10_rate 165 = .ok (.iload 4, 2) := by decide +kernel
theorem dX10_rate_167 : decode cX10_rate 167 = .ok (.imul, 1) := by decide +kernel
theorem dX10_rate_168 : decode cX10_rate 168 = .ok (.goto 34, 3) := by decide +kernel
theorem dX10_rate_171 : decode cX10_rate 171 = .ok (.iload_n 1, 1) := by decide +kernel
theorem dX10_rate_172 : decode cX10_rate 172 = .ok (.iconst 4, 1) := by decide +kernel
theorem dX10_rate_173 : decode cX10_rate 173 = .ok (.if_icmp .ne 10, 3) := by decide +kernel
theorem dX10_rate_176 : decode cX10_rate 176 = .ok (.iload 5, 2) := by decide +kernel
theorem dX10_rate_178 : decode cX10_rate 178 = .ok (.iload_n 2, 1) := by decide +kernel
theorem dX10_rate_179 : decode cX10_rate 179 = .ok (.iadd, 1) := by decide +kernel
theorem dX10_rate_180 : decode cX10_rate 180 = .ok (.goto 22, 3) := by decide +kernel
theorem dX10_rate_183 : decode cX10_rate 183 = .ok (.iload_n 3, 1) := by decide +kernel
theorem dX10_rate_184 : decode cX10_rate 184 = .ok (.aload_n 0, 1) := by decide +kernel
theorem dX10_rate_185 : decode cX10_rate 185 = .ok (.getfield 31, 3) := by decide +kernel
theorem dX10_rate_188 : decode cX10_rate 188 = .ok (.bipush 10, 2) := by decide +kernel
theorem dX10_rate_190 : decode cX10_rate 190 = .ok (.aload_n 0, 1) := by decide +kernel
theorem dX10_rate_191 : decode cX10_rate 191 = .ok (.getfield 31, 3) := by decide +kernel
theorem dX10_rate_194 : decode cX10_rate 194 = .ok (.bipush 17, 2) := by decide +kernel
theorem dX10_rate_196 : decode cX10_rate 196 = .ok (.iload_n 2, 1) := by decide +kernel
theorem dX10_rate_197 : decode cX10_rate 197 = .ok (.iadd, 1) := by decide +kernel
theorem dX10_rate_198 : decode cX10_rate 198 = .ok (.iaload, 1) := by decide +kernel
theorem dX10_rate_199 : decode cX10_rate 199 = .ok (.iadd, 1) := by decide +kernel
theorem dX10_rate_200 : decode cX10_rate 200 = .ok (.iaload, 1) := by decide +kernel
theorem dX10_rate_201 : decode cX10_rate 201 = .ok (.iadd, 1) := by decide +kernel
theorem dX10_rate_202 : decode cX10_rate 202 = .ok (.ireturn, 1) := by decide +kernel
theorem dX10_keep_0 : decode cX10_keep 0 = .ok (.aload_n 0, 1) := by decide +kernel
theorem dX10_keep_1 : decode cX10_keep 1 = .ok (.iconst 0, 1) := by decide +kernel
theorem dX10_keep_2 : decode cX10_keep 2 = .ok (.putfield 62, 3) := by decide +kernel
theorem dX10_keep_5 : decode cX10_keep 5 = .ok (.iload_n 1, 1) := by decide +kernel
theorem dX10_keep_6 : decode cX10_keep 6 = .ok (.iconst 0, 1) := by decide +kernel
theorem dX10_keep_7 : decode cX10_keep 7 = .ok (.iconst 1, 1) := by decide +kernel
theorem dX10_keep_8 : decode cX10_keep 8 = .ok (.invokestatic 66, 3) := by decide +kernel
theorem dX10_keep_11 : decode cX10_keep 11 = .ok (.ifCond .ne 5, 3) := by decide +kernel
theorem dX10_keep_14 : decode cX10_keep 14 = .ok (.iconst (-1), 1) := by decide +kernel
theorem dX10_keep_15 : decode cX10_keep 15 = .ok (.ireturn, 1) := by decide +kernel
theorem dX10_keep_16 : decode cX10_keep 16 = .ok (.iconst 0, 1) := by decide +kernel
theorem dX10_keep_17 : decode cX10_keep 17 = .ok (.istore_n 2, 1) := by decide +kernel
theorem dX10_keep_18 : decode cX10_keep 18 = .ok (.iload_n 2, 1) := by decide +kernel
theorem dX10_keep_19 : decode cX10_keep 19 = .ok (.bipush 25, 2) := by decide +kernel
theorem dX10_keep_21 : decode cX10_keep 21 = .ok (.if_icmp .ge 26, 3) := by decide +kernel
theorem dX10_keep_24 : decode cX10_keep 24 = .ok (.aload_n 0, 1) := by decide +kernel
theorem dX10_keep_25 : decode cX10_keep 25 = .ok (.getfield 34, 3) := by decide +kernel
theorem dX10_keep_28 : decode cX10_keep 28 = .ok (.bipush 25, 2) := by decide +kernel
theorem dX10_keep_30 : decode cX10_keep 30 = .ok (.iload_n 1, 1) := by decide +kernel
theorem dX10_keep_31 : decode cX10_keep 31 = .ok (.imul, 1) := by decide +kernel
theorem dX10_keep_32 : decode cX10_keep 32 = .ok (.iload_n 2, 1) := by decide +kernel
theorem dX10_keep_33 : decode cX10_keep 33 = .ok (.iadd, 1) := by decide +kernel
theorem dX10_keep_34 : decode cX10_keep 34 = .ok (.aload_n 0, 1) := by decide +kernel
theorem dX10_keep_35 : decode cX10_keep 35 = .ok (.getfield 31, 3) := by decide +kernel
theorem dX10_keep_38 : decode cX10_keep 38 = .ok (.iload_n 2, 1) := by decide +kernel
theorem dX10_keep_39 : decode cX10_keep 39 = .ok (.iaload, 1) := by decide +kernel
theorem dX10_keep_40 : decode cX10_keep 40 = .ok (.iastore, 1) := by decide +kernel
theorem dX10_keep_41 : decode cX10_keep 41 = .ok (.iinc 2 1, 3) := by decide +kernel
theorem dX10_keep_44 : decode cX10_keep 44 = .ok (.goto (-26), 3) := by decide +kernel
theorem dX10_keep_47 : decode cX10_keep 47 = .ok (.aload_n 0, 1) := by decide +kernel
theorem dX10_keep_48 : decode cX10_keep 48 = .ok (.getfield 37, 3) := by decide +kernel
theorem dX10_keep_51 : decode cX10_keep 51 = .ok (.iload_n 1, 1) := by decide +kernel
theorem dX10_keep_52 : decode cX10_keep 52 = .ok (.iconst 1, 1) := by decide +kernel
theorem dX10_keep_53 : decode cX10_keep 53 = .ok (.bastore, 1) := by decide +kernel
theorem dX10_keep_54 : decode cX10_keep 54 = .ok (.aload_n 0, 1) := by decide +kernel
theorem dX10_keep_55 : decode cX10_keep 55 = .ok (.getfield 31, 3) := by decide +kernel
theorem dX10_keep_58 : decode cX10_keep 58 = .ok (.bipush 15, 2) := by decide +kernel
theorem dX10_keep_60 : decode cX10_keep 60 = .ok (.iaload, 1) := by decide +kernel
theorem dX10_keep_61 : decode cX10_keep 61 = .ok (.ireturn, 1) := by decide +kernel
theorem dX10_back_0 : decode cX10_back 0 = .ok (.aload_n 0, 1) := by decide +kernel
theorem dX10_back_1 : decode cX10_back 1 = .ok (.iconst 0, 1) := by decide +kernel
theorem dX10_back_2 : decode cX10_back 2 = .ok (.putfield 62, 3) := by decide +kernel
theorem dX10_back_5 : decode cX10_back 5 = .ok (.iload_n 1, 1) := by decide +kernel
theorem dX10_back_6 : decode cX10_back 6 = .ok (.iconst 0, 1) := by decide +kernel
theorem dX10_back_7 : decode cX10_back 7 = .ok (.iconst 1, 1) := by decide +kernel
theorem dX10_back_8 : decode cX10_back 8 = .ok (.invokestatic 66, 3) := by decide +kernel
theorem dX10_back_11 : decode cX10_back 11 = .ok (.ifCond .ne 5, 3) := by decide +kernel
theorem dX10_back_14 : decode cX10_back 14 = .ok (.iconst (-1), 1) := by decide +kernel
theorem dX10_back_15 : decode cX10_back 15 = .ok (.ireturn, 1) := by decide +kernel
theorem dX10_back_16 : decode cX10_back 16 = .ok (.aload_n 0, 1) := by decide +kernel
theorem dX10_back_17 : decode cX10_back 17 = .ok (.getfield 37, 3) := by decide +kernel
theorem dX10_back_20 : decode cX10_back 20 = .ok (.iload_n 1, 1) := by decide +kernel
theorem dX10_back_21 : decode cX10_back 21 = .ok (.baload, 1) := by decide +kernel
theorem dX10_back_22 : decode cX10_back 22 = .ok (.ifCond .ne 6, 3) := by decide +kernel
theorem dX10_back_25 : decode cX10_back 25 = .ok (.bipush (-2), 2) := by decide +kernel
theorem dX10_back_27 : decode cX10_back 27 = .ok (.ireturn, 1) := by decide +kernel
theorem dX10_back_28 : decode cX10_back 28 = .ok (.iconst 0, 1) := by decide +kernel
theorem dX10_back_29 : decode cX10_back 29 = .ok (.istore_n 2, 1) := by decide +kernel
theorem dX10_back_30 : decode cX10_back 30 = .ok (.iload_n 2, 1) := by decide +kernel
theorem dX10_back_31 : decode cX10_back 31 = .ok (.bipush 25, 2) := by decide +kernel
theorem dX10_back_33 : decode cX10_back 33 = .ok (.if_icmp .ge 26, 3) := by decide +kernel
theorem dX10_back_36 : decode cX10_back 36 = .ok (.aload_n 0, 1) := by decide +kernel
theorem dX10_back_37 : decode cX10_back 37 = .ok (.getfield 31, 3) := by decide +kernel
theorem dX10_back_40 : decode cX10_back 40 = .ok (.iload_n 2, 1) := by decide +kernel
theorem dX10_back_41 : decode cX10_back 41 = .ok (.aload_n 0, 1) := by decide +kernel
theorem dX10_back_42 : decode cX10_back 42 = .ok (.getfield 34, 3) := by decide +kernel
theorem dX10_back_45 : decode cX10_back 45 = .ok (.bipush 25, 2) := by decide +kernel
theorem dX10_back_47 : decode cX10_back 47 = .ok (.iload_n 1, 1) := by decide +kernel
theorem dX10_back_48 : decode cX10_back 48 = .ok (.imul, 1) := by decide +kernel
theorem dX10_back_49 : decode cX10_back 49 = .ok (.iload_n 2, 1) := by decide +kernel
theorem dX10_back_50 : decode cX10_back 50 = .ok (.iadd, 1) := by decide +kernel
theorem dX10_back_51 : decode cX10_back 51 = .ok (.iaload, 1) := by decide +kernel
theorem dX10_back_52 : decode cX10_back 52 = .ok (.iastore, 1) := by decide +kernel
theorem dX10_back_53 : decode cX10_back 53 = .ok (.iinc 2 1, 3) := by decide +kernel
theorem dX10_back_56 : decode cX10_back 56 = .ok (.goto (-26), 3) := by decide +kernel
theorem dX10_back_59 : decode cX10_back 59 = .ok (.aload_n 0, 1) := by decide +kernel
theorem dX10_back_60 : decode cX10_back 60 = .ok (.iconst 0, 1) := by decide +kernel
theorem dX10_back_61 : decode cX10_back 61 = .ok (.putfield 124, 3) := by decide +kernel
theorem dX10_back_64 : decode cX10_back 64 = .ok (.aload_n 0, 1) := by decide +kernel
theorem dX10_back_65 : decode cX10_back 65 = .ok (.getfield 31, 3) := by decide +kernel
theorem dX10_back_68 : decode cX10_back 68 = .ok (.bipush 15, 2) := by decide +kernel
theorem dX10_back_70 : decode cX10_back 70 = .ok (.iaload, 1) := by decide +kernel
theorem dX10_back_71 : decode cX10_back 71 = .ok (.ireturn, 1) := by decide +kernel
theorem dX10_count_0 : decode cX10_count 0 = .ok (.aload_n 0, 1) := by decide +kernel
theorem dX10_count_1 : decode cX10_count 1 = .ok (.iconst 0, 1) := by decide +kernel
theorem dX10_count_2 : decode cX10_count 2 = .ok (.putfield 62, 3) := by decide +kernel
theorem dX10_count_5 : decode cX10_count 5 = .ok (.iload_n 1, 1) := by decide +kernel
theorem dX10_count_6 : decode cX10_count 6 = .ok (.iconst 0, 1) := by decide +kernel
theorem dX10_count_7 : decode cX10_count 7 = .ok (.iconst 4, 1) := by decide +kernel
theorem dX10_count_8 : decode cX10_count 8 = .ok (.invokestatic 66, 3) := by decide +kernel
theorem dX10_count_11 : decode cX10_count 11 = .ok (.ifCond .eq 12, 3) := by decide +kernel
theorem dX10_count_14 : decode cX10_count 14 = .ok (.aload_n 0, 1) := by decide +kernel
theorem dX10_count_15 : decode cX10_count 15 = .ok (.getfield 13, 3) := by decide +kernel
theorem dX10_count_18 : decode cX10_count 18 = .ok (.iload_n 1, 1) := by decide +kernel
theorem dX10_count_19 : decode cX10_count 19 = .ok (.iaload, 1) := by decide +kernel
theorem dX10_count_20 : decode cX10_count 20 = .ok (.goto 29, 3) := by decide +kernel
theorem dX10_count_23 : decode cX10_count 23 = .ok (.iload_n 1, 1) := by decide +kernel
theorem dX10_count_24 : decode cX10_count 24 = .ok (.iconst 5, 1) := by decide +kernel
theorem dX10_count_25 : decode cX10_count 25 = .ok (.if_icmp .ne 10, 3) := by decide +kernel
theorem dX10_count_28 : decode cX10_count 28 = .ok (.aload_n 0, 1) := by decide +kernel
theorem dX10_count_29 : decode cX10_count 29 = .ok (.getfield 121, 3) := by decide +kernel
theorem dX10_count_32 : decode cX10_count 32 = .ok (.goto 17, 3) := by decide +kernel
theorem dX10_count_35 : decode cX10_count 35 = .ok (.iload_n 1, 1) := by decide +kernel
theorem dX10_count_36 : decode cX10_count 36 = .ok (.bipush 6, 2) := by decide +kernel
theorem dX10_count_38 : decode cX10_count 38 = .ok (.if_icmp .ne 10, 3) := by decide +kernel
theorem dX10_count_41 : decode cX10_count 41 = .ok (.aload_n 0, 1) := by decide +kernel
theorem dX10_count_42 : decode cX10_count 42 = .ok (.getfield 70, 3) := by decide +kernel
theorem dX10_count_45 : decode cX10_count 45 = .ok (.goto 4, 3) := by decide +kernel
theorem dX10_count_48 : decode cX10_count 48 = .ok (.iconst (-1), 1) := by decide +kernel
theorem dX10_count_49 : decode cX10_count 49 = .ok (.ireturn, 1) := by decide +kernel
theorem dX10_trace_0 : decode cX10_trace 0 = .ok (.aload_n 0, 1) := by decide +kernel
theorem dX10_trace_1 : decode cX10_trace 1 = .ok (.iconst 0, 1) := by decide +kernel
theorem dX10_trace_2 : decode cX10_trace 2 = .ok (.putfield 62, 3) := by decide +kernel
theorem dX10_trace_5 : decode cX10_trace 5 = .ok (.aload_n 0, 1) := by decide +kernel
theorem dX10_trace_6 : decode cX10_trace 6 = .ok (.getfield 188, 3) := by decide +kernel
theorem dX10_trace_9 : decode cX10_trace 9 = .ok (.lreturn, 1) := by decide +kernel
theorem dJ6_bitCount_0f7a4_0 : decode cJ6_bitCount_0f7a4 0 = .ok (.iload_n 0, 1) := by decide +kernel
theorem dJ6_bitCount_0f7a4_1 : decode cJ6_bitCount_0f7a4 1 = .ok (.iload_n 0, 1) := by decide +kernel
theorem dJ6_bitCount_0f7a4_2 : decode cJ6_bitCount_0f7a4 2 = .ok (.iconst 1, 1) := by decide +kernel
theorem dJ6_bitCount_0f7a4_3 : decode cJ6_bitCount_0f7a4 3 = .ok (.iushr, 1) := by decide +kernel
theorem dJ6_bitCount_0f7a4_4 : decode cJ6_bitCount_0f7a4 4 = .ok (.ldc_w 265, 3) := by decide +kernel
theorem dJ6_bitCount_0f7a4_7 : decode cJ6_bitCount_0f7a4 7 = .ok (.iand, 1) := by decide +kernel
theorem dJ6_bitCount_0f7a4_8 : decode cJ6_bitCount_0f7a4 8 = .ok (.isub, 1) := by decide +kernel
theorem dJ6_bitCount_0f7a4_9 : decode cJ6_bitCount_0f7a4 9 = .ok (.istore_n 0, 1) := by decide +kernel
theorem dJ6_bitCount_0f7a4_10 : decode cJ6_bitCount_0f7a4 10 = .ok (.iload_n 0, 1) := by decide +kernel
theorem dJ6_bitCount_0f7a4_11 : decode cJ6_bitCount_0f7a4 11 = .ok (.ldc_w 266, 3) := by decide +kernel
theorem dJ6_bitCount_0f7a4_14 : decode cJ6_bitCount_0f7a4 14 = .ok (.iand, 1) := by decide +kernel
theorem dJ6_bitCount_0f7a4_15 : decode cJ6_bitCount_0f7a4 15 = .ok (.iload_n 0, 1) := by decide +kernel
theorem dJ6_bitCount_0f7a4_16 : decode cJ6_bitCount_0f7a4 16 = .ok (.iconst 2, 1) := by decide +kernel
theorem dJ6_bitCount_0f7a4_17 : decode cJ6_bitCount_0f7a4 17 = .ok (.iushr, 1) := by decide +kernel
theorem dJ6_bitCount_0f7a4_18 : decode cJ6_bitCount_0f7a4 18 = .ok (.ldc_w 266, 3) := by decide +kernel
theorem dJ6_bitCount_0f7a4_21 : decode cJ6_bitCount_0f7a4 21 = .ok (.iand, 1) := by decide +kernel
theorem dJ6_bitCount_0f7a4_22 : decode cJ6_bitCount_0f7a4 22 = .ok (.iadd, 1) := by decide +kernel
theorem dJ6_bitCount_0f7a4_23 : decode cJ6_bitCount_0f7a4 23 = .ok (.istore_n 0, 1) := by decide +kernel
theorem dJ6_bitCount_0f7a4_24 : decode cJ6_bitCount_0f7a4 24 = .ok (.iload_n 0, 1) := by decide +kernel
theorem dJ6_bitCount_0f7a4_25 : decode cJ6_bitCount_0f7a4 25 = .ok (.iload_n 0, 1) := by decide +kernel
theorem dJ6_bitCount_0f7a4_26 : decode cJ6_bitCount_0f7a4 26 = .ok (.iconst 4, 1) := by decide +kernel
theorem dJ6_bitCount_0f7a4_27 : decode cJ6_bitCount_0f7a4 27 = .ok (.iushr, 1) := by decide +kernel
theorem dJ6_bitCount_0f7a4_28 : decode cJ6_bitCount_0f7a4 28 = .ok (.iadd, 1) := by decide +kernel
theorem dJ6_bitCount_0f7a4_29 : decode cJ6_bitCount_0f7a4 29 = .ok (.ldc_w 267, 3) := by decide +kernel
theorem dJ6_bitCount_0f7a4_32 : decode cJ6_bitCount_0f7a4 32 = .ok (.iand, 1) := by decide +kernel
theorem dJ6_bitCount_0f7a4_33 : decode cJ6_bitCount_0f7a4 33 = .ok (.istore_n 0, 1) := by decide +kernel
theorem dJ6_bitCount_0f7a4_34 : decode cJ6_bitCount_0f7a4 34 = .ok (.iload_n 0, 1) := by decide +kernel
theorem dJ6_bitCount_0f7a4_35 : decode cJ6_bitCount_0f7a4 35 = .ok (.iload_n 0, 1) := by decide +kernel
theorem dJ6_bitCount_0f7a4_36 : decode cJ6_bitCount_0f7a4 36 = .ok (.bipush 8, 2) := by decide +kernel
theorem dJ6_bitCount_0f7a4_38 : decode cJ6_bitCount_0f7a4 38 = .ok (.iushr, 1) := by decide +kernel
theorem dJ6_bitCount_0f7a4_39 : decode cJ6_bitCount_0f7a4 39 = .ok (.iadd, 1) := by decide +kernel
theorem dJ6_bitCount_0f7a4_40 : decode cJ6_bitCount_0f7a4 40 = .ok (.istore_n 0, 1) := by decide +kernel
theorem dJ6_bitCount_0f7a4_41 : decode cJ6_bitCount_0f7a4 41 = .ok (.iload_n 0, 1) := by decide +kernel
theorem dJ6_bitCount_0f7a4_42 : decode cJ6_bitCount_0f7a4 42 = .ok (.iload_n 0, 1) := by decide +kernel
theorem dJ6_bitCount_0f7a4_43 : decode cJ6_bitCount_0f7a4 43 = .ok (.bipush 16, 2) := by decide +kernel
theorem dJ6_bitCount_0f7a4_45 : decode cJ6_bitCount_0f7a4 45 = .ok (.iushr, 1) := by decide +kernel
theorem dJ6_bitCount_0f7a4_46 : decode cJ6_bitCount_0f7a4 46 = .ok (.iadd, 1) := by decide +kernel
theorem dJ6_bitCount_0f7a4_47 : decode cJ6_bitCount_0f7a4 47 = .ok (.istore_n 0, 1) := by decide +kernel
theorem dJ6_bitCount_0f7a4_48 : decode cJ6_bitCount_0f7a4 48 = .ok (.iload_n 0, 1) := by decide +kernel
theorem dJ6_bitCount_0f7a4_49 : decode cJ6_bitCount_0f7a4 49 = .ok (.bipush 63, 2) := by decide +kernel
theorem dJ6_bitCount_0f7a4_51 : decode cJ6_bitCount_0f7a4 51 = .ok (.iand, 1) := by decide +kernel
theorem dJ6_bitCount_0f7a4_52 : decode cJ6_bitCount_0f7a4 52 = .ok (.ireturn, 1) := by decide +kernel
theorem dJ9_abs_0f7a4_0 : decode cJ9_abs_0f7a4 0 = .ok (.iload_n 0, 1) := by decide +kernel
theorem dJ9_abs_0f7a4_1 : decode cJ9_abs_0f7a4 1 = .ok (.ifCond .ge 8, 3) := by decide +kernel
theorem dJ9_abs_0f7a4_4 : decode cJ9_abs_0f7a4 4 = .ok (.iload_n 0, 1) := by decide +kernel
theorem dJ9_abs_0f7a4_5 : decode cJ9_abs_0f7a4 5 = .ok (.ineg, 1) := by decide +kernel
theorem dJ9_abs_0f7a4_6 : decode cJ9_abs_0f7a4 6 = .ok (.goto 4, 3) := by decide +kernel
theorem dJ9_abs_0f7a4_9 : decode cJ9_abs_0f7a4 9 = .ok (.iload_n 0, 1) := by decide +kernel
theorem dJ9_abs_0f7a4_10 : decode cJ9_abs_0f7a4 10 = .ok (.ireturn, 1) := by decide +kernel
theorem dJ9_max_7cf53_0 : decode cJ9_max_7cf53 0 = .ok (.iload_n 0, 1) := by decide +kernel
theorem dJ9_max_7cf53_1 : decode cJ9_max_7cf53 1 = .ok (.iload_n 1, 1) := by decide +kernel
theorem dJ9_max_7cf53_2 : decode cJ9_max_7cf53 2 = .ok (.if_icmp .lt 7, 3) := by decide +kernel
theorem dJ9_max_7cf53_5 : decode cJ9_max_7cf53 5 = .ok (.iload_n 0, 1) := by decide +kernel
theorem dJ9_max_7cf53_6 : decode cJ9_max_7cf53 6 = .ok (.goto 4, 3) := by decide +kernel
theorem dJ9_max_7cf53_9 : decode cJ9_max_7cf53 9 = .ok (.iload_n 1, 1) := by decide +kernel
theorem dJ9_max_7cf53_10 : decode cJ9_max_7cf53 10 = .ok (.ireturn, 1) := by decide +kernel
theorem dJ9_min_7cf53_0 : decode cJ9_min_7cf53 0 = .ok (.iload_n 0, 1) := by decide +kernel
theorem dJ9_min_7cf53_1 : decode cJ9_min_7cf53 1 = .ok (.iload_n 1, 1) := by decide +kernel
theorem dJ9_min_7cf53_2 : decode cJ9_min_7cf53 2 = .ok (.if_icmp .gt 7, 3) := by decide +kernel
theorem dJ9_min_7cf53_5 : decode cJ9_min_7cf53 5 = .ok (.iload_n 0, 1) := by decide +kernel
theorem dJ9_min_7cf53_6 : decode cJ9_min_7cf53 6 = .ok (.goto 4, 3) := by decide +kernel
theorem dJ9_min_7cf53_9 : decode cJ9_min_7cf53 9 = .ok (.iload_n 1, 1) := by decide +kernel
theorem dJ9_min_7cf53_10 : decode cJ9_min_7cf53 10 = .ok (.ireturn, 1) := by decide +kernel
theorem dL_law_0 : decode cL_law 0 = .ok (.new 7, 3) := by decide +kernel
theorem dL_law_3 : decode cL_law 3 = .ok (.dup, 1) := by decide +kernel
theorem dL_law_4 : decode cL_law 4 = .ok (.invokespecial 9, 3) := by decide +kernel
theorem dL_law_7 : decode cL_law 7 = .ok (.astore_n 1, 1) := by decide +kernel
theorem dL_law_8 : decode cL_law 8 = .ok (.new 10, 3) := by decide +kernel
theorem dL_law_11 : decode cL_law 11 = .ok (.dup, 1) := by decide +kernel
theorem dL_law_12 : decode cL_law 12 = .ok (.invokespecial 12, 3) := by decide +kernel
theorem dL_law_15 : decode cL_law 15 = .ok (.astore_n 2, 1) := by decide +kernel
theorem dL_law_16 : decode cL_law 16 = .ok (.iconst 0, 1) := by decide +kernel
theorem dL_law_17 : decode cL_law 17 = .ok (.istore_n 3, 1) := by decide +kernel
theorem dL_law_18 : decode cL_law 18 = .ok (.iload_n 3, 1) := by decide +kernel
theorem dL_law_19 : decode cL_law 19 = .ok (.aload_n 0, 1) := by decide +kernel
theorem dL_law_20 : decode cL_law 20 = .ok (.arraylength, 1) := by decide +kernel
theorem dL_law_21 : decode cL_law 21 = .ok (.iconst 5, 1) := by decide +kernel
theorem dL_law_22 : decode cL_law 22 = .ok (.isub, 1) := by decide +kernel
theorem dL_law_23 : decode cL_law 23 = .ok (.if_icmp .gt 807, 3) := by decide +kernel
theorem dL_law_26 : decode cL_law 26 = .ok (.aload_n 0, 1) := by decide +kernel
theorem dL_law_27 : decode cL_law 27 = .ok (.iload_n 3, 1) := by decide +kernel
theorem dL_law_28 : decode cL_law 28 = .ok (.iaload, 1) := by decide +kernel
theorem dL_law_29 : decode cL_law 29 = .ok (.bipush 31, 2) := by decide +kernel
theorem dL_law_31 : decode cL_law 31 = .ok (.iand, 1) := by decide +kernel
theorem dL_law_32 : decode cL_law 32 = .ok (.tableswitch 792 0 24 #[116, 139, 152, 165, 198, 231, 254, 287, 310, 343, 376, 389, 412, 445, 468, 501, 544, 557, 580, 623, 676, 709, 732, 755, 778], 116) := by decide +kernel
theorem dL_law_148 : decode cL_law 148 = .ok (.aload_n 1, 1) := by decide +kernel
theorem dL_law_149 : decode cL_law 149 = .ok (.aload_n 0, 1) := by decide +kernel
theorem dL_law_150 : decode cL_law 150 = .ok (.iload_n 3, 1) := by decide +kernel
theorem dL_law_151 : decode cL_law 151 = .ok (.iconst 1, 1) := by decide +kernel
theorem dL_law_152 : decode cL_law 152 = .ok (.iadd, 1) := by decide +kernel
theorem dL_law_153 : decode cL_law 153 = .ok (.iaload, 1) := by decide +kernel
theorem dL_law_154 : decode cL_law 154 = .ok (.invokevirtual 13, 3) := by decide +kernel
theorem dL_law_157 : decode cL_law 157 = .ok (.aload_n 2, 1) := by decide +kernel
theorem dL_law_158 : decode cL_law 158 = .ok (.aload_n 0, 1) := by decide +kernel
theorem dL_law_159 : decode cL_law 159 = .ok (.iload_n 3, 1) := by decide +kernel
theorem dL_law_160 : decode cL_law 160 = .ok (.iconst 1, 1) := by decide +kernel
theorem dL_law_161 : decode cL_law 161 = .ok (.iadd, 1) := by decide +kernel
theorem dL_law_162 : decode cL_law 162 = .ok (.iaload, 1) := by decide +kernel
theorem dL_law_163 : decode cL_law 163 = .ok (.invokevirtual 17, 3) := by decide +kernel
theorem dL_law_166 : decode cL_law 166 = .ok (.if_icmp .eq 658, 3) := by decide +kernel
theorem dL_law_169 : decode cL_law 169 = .ok (.iconst 0, 1) := by decide +kernel
theorem dL_law_170 : decode cL_law 170 = .ok (.ireturn, 1) := by decide +kernel
theorem dL_law_171 : decode cL_law 171 = .ok (.aload_n 1, 1) := by decide +kernel
theorem dL_law_172 : decode cL_law 172 = .ok (.invokevirtual 18, 3) := by decide +kernel
theorem dL_law_175 : decode cL_law 175 = .ok (.aload_n 2, 1) := by decide +kernel
theorem dL_law_176 : decode cL_law 176 = .ok (.invokevirtual 22, 3) := by decide +kernel
theorem dL_law_179 : decode cL_law 179 = .ok (.if_icmp .eq 645, 3) := by decide +kernel
theorem dL_law_182 : decode cL_law 182 = .ok (.iconst 0, 1) := by decide +kernel
theorem dL_law_183 : decode cL_law 183 = .ok (.ireturn, 1) := by decide +kernel
theorem dL_law_184 : decode cL_law 184 = .ok (.aload_n 1, 1) := by decide +kernel
theorem dL_law_185 : decode cL_law 185 = .ok (.invokevirtual 23, 3) := by decide +kernel
theorem dL_law_188 : decode cL_law 188 = .ok (.aload_n 2, 1) := by decide +kernel
theorem dL_law_189 : decode cL_law 189 = .ok (.invokevirtual 26, 3) := by decide +kernel
theorem dL_law_192 : decode cL_law 192 = .ok (.if_icmp .eq 632, 3) := by decide +kernel
theorem dL_law_195 : decode cL_law 195 = .ok (.iconst 0, 1) := by decide +kernel
theorem dL_law_196 : decode cL_law 196 = .ok (.ireturn, 1) := by decide +kernel
theorem dL_law_197 : decode cL_law 197 = .ok (.aload_n 1, 1) := by decide +kernel
theorem dL_law_198 : decode cL_law 198 = .ok (.aload_n 0, 1) := by decide +kernel
theorem dL_law_199 : decode cL_law 199 = .ok (.iload_n 3, 1) := by decide +kernel
theorem dL_law_200 : decode cL_law 200 = .ok (.iconst 1, 1) := by decide +kernel
theorem dL_law_201 : decode cL_law 201 = .ok (.iadd, 1) := by decide +kernel
theorem dL_law_202 : decode cL_law 202 = .ok (.iaload, 1) := by decide +kernel
theorem dL_law_203 : decode cL_law 203 = .ok (.aload_n 0, 1) := by decide +kernel
theorem dL_law_204 : decode cL_law 204 = .ok (.iload_n 3, 1) := by decide +kernel
theorem dL_law_205 : decode cL_law 205 = .ok (.iconst 2, 1) := by decide +kernel
theorem dL_law_206 : decode cL_law 206 = .ok (.iadd, 1) := by decide +kernel
theorem dL_law_207 : decode cL_law 207 = .ok (.iaload, 1) := by decide +kernel
theorem dL_law_208 : decode cL_law 208 = .ok (.invokevirtual 27, 3) := by decide +kernel
theorem dL_law_211 : decode cL_law 211 = .ok (.aload_n 2, 1) := by decide +kernel
theorem dL_law_212 : decode cL_law 212 = .ok (.aload_n 0, 1) := by decide +kernel
theorem dL_law_213 : decode cL_law 213 = .ok (.iload_n 3, 1) := by decide +kernel
theorem dL_law_214 : decode cL_law 214 = .ok (.iconst 1, 1) := by decide +kernel
theorem dL_law_215 : decode cL_law 215 = .ok (.iadd, 1) := by decide +kernel
theorem dL_law_216 : decode cL_law 216 = .ok (.iaload, 1) := by decide +kernel
theorem dL_law_217 : decode cL_law 217 = .ok (.aload_n 0, 1) := by decide +kernel
theorem dL_law_218 : decode cL_law 218 = .ok (.iload_n 3, 1) := by decide +kernel
theorem dL_law_219 : decode cL_law 219 = .ok (.iconst 2, 1) := by decide +kernel
theorem dL_law_220 : decode cL_law 220 = .ok (.iadd, 1) := by decide +kernel
theorem dL_law_221 : decode cL_law 221 = .ok (.iaload, 1) := by decide +kernel
theorem dL_law_222 : decode cL_law 222 = .ok (.invokevirtual 31, 3) := by decide +kernel
theorem dL_law_225 : decode cL_law 225 = .ok (.if_icmp .eq 599, 3) := by decide +kernel
theorem dL_law_228 : decode cL_law 228 = .ok (.iconst 0, 1) := by decide +kernel
theorem dL_law_229 : decode cL_law 229 = .ok (.ireturn, 1) := by decide +kernel
theorem dL_law_230 : decode cL_law 230 = .ok (.aload_n 1, 1) := by decide +kernel
theorem dL_law_231 : decode cL_law 231 = .ok (.aload_n 0, 1) := by decide +kernel
theorem dL_law_232 : decode cL_law 232 = .ok (.iload_n 3, 1) := by decide +kernel
theorem dL_law_233 : decode cL_law 233 = .ok (.iconst 1, 1) := by decide +kernel
theorem dL_law_234 : decode cL_law 234 = .ok (.iadd, 1) := by decide +kernel
theorem dL_law_235 : decode cL_law 235 = .ok (.iaload, 1) := by decide +kernel
theorem dL_law_236 : decode cL_law 236 = .ok (.aload_n 0, 1) := by decide +kernel
theorem dL_law_237 : decode cL_law 237 = .ok (.iload_n 3, 1) := by decide +kernel
theorem dL_law_238 : decode cL_law 238 = .ok (.iconst 2, 1) := by decide +kernel
theorem dL_law_239 : decode cL_law 239 = .ok (.iadd, 1) := by decide +kernel
theorem dL_law_240 : decode cL_law 240 = .ok (.iaload, 1) := by decide +kernel
theorem dL_law_241 : decode cL_law 241 = .ok (.invokevirtual 32, 3) := by decide +kernel
theorem dL_law_244 : decode cL_law 244 = .ok (.aload_n 2, 1) := by decide +kernel
theorem dL_law_245 : decode cL_law 245 = .ok (.aload_n 0, 1) := by decide +kernel
theorem dL_law_246 : decode cL_law 246 = .ok (.iload_n 3, 1) := by decide +kernel
theorem dL_law_247 : decode cL_law 247 = .ok (.iconst 1, 1) := by decide +kernel
theorem dL_law_248 : decode cL_law 248 = .ok (.iadd, 1) := by decide +kernel
theorem dL_law_249 : decode cL_law 249 = .ok (.iaload, 1) := by decide +kernel
theorem dL_law_250 : decode cL_law 250 = .ok (.aload_n 0, 1) := by decide +kernel
theorem dL_law_251 : decode cL_law 251 = .ok (.iload_n 3, 1) := by decide +kernel
theorem dL_law_252 : decode cL_law 252 = .ok (.iconst 2, 1) := by decide +kernel
theorem dL_law_253 : decode cL_law 253 = .ok (.iadd, 1) := by decide +kernel
theorem dL_law_254 : decode cL_law 254 = .ok (.iaload, 1) := by decide +kernel
theorem dL_law_255 : decode cL_law 255 = .ok (.invokevirtual 35, 3) := by decide +kernel
theorem dL_law_258 : decode cL_law 258 = .ok (.if_icmp .eq 566, 3) := by decide +kernel
theorem dL_law_261 : decode cL_law 261 = .ok (.iconst 0, 1) := by decide +kernel
theorem dL_law_262 : decode cL_law 262 = .ok (.ireturn, 1) := by decide +kernel
theorem dL_law_263 : decode cL_law 263 = .ok (.aload_n 1, 1) := by decide +kernel
theorem dL_law_264 : decode cL_law 264 = .ok (.aload_n 0, 1) := by decide +kernel
theorem dL_law_265 : decode cL_law 265 = .ok (.iload_n 3, 1) := by decide +kernel
theorem dL_law_266 : decode cL_law 266 = .ok (.iconst 1, 1) := by decide +kernel
theorem dL_law_267 : decode cL_law 267 = .ok (.iadd, 1) := by decide +kernel
theorem dL_law_268 : decode cL_law 268 = .ok (.iaload, 1) := by decide +kernel
theorem dL_law_269 : decode cL_law 269 = .ok (.invokevirtual 36, 3) := by decide +kernel
theorem dL_law_272 : decode cL_law 272 = .ok (.aload_n 2, 1) := by decide +kernel
theorem dL_law_273 : decode cL_law 273 = .ok (.aload_n 0, 1) := by decide +kernel
theorem dL_law_274 : decode cL_law 274 = .ok (.iload_n 3, 1) := by decide +kernel
theorem dL_law_275 : decode cL_law 275 = .ok (.iconst 1, 1) := by decide +kernel
theorem dL_law_276 : decode cL_law 276 = .ok (.iadd, 1) := by decide +kernel
theorem dL_law_277 : decode cL_law 277 = .ok (.iaload, 1) := by decide +kernel
theorem dL_law_278 : decode cL_law 278 = .ok (.invokevirtual 39, 3) := by decide +kernel
theorem dL_law_281 : decode cL_law 281 = .ok (.if_icmp .eq 543, 3) := by decide +kernel
theorem dL_law_284 : decode cL_law 284 = .ok (.iconst 0, 1) := by decide +kernel
theorem dL_law_285 : decode cL_law 285 = .ok (.ireturn, 1) := by decide +kernel
theorem dL_law_286 : decode cL_law 286 = .ok (.aload_n 1, 1) := by decide +kernel
theorem dL_law_287 : decode cL_law 287 = .ok (.aload_n 0, 1) := by decide +kernel
theorem dL_law_288 : decode cL_law 288 = .ok (.iload_n 3, 1) := by decide +kernel
theorem dL_law_289 : decode cL_law 289 = .ok (.iconst 1, 1) := by decide +kernel
theorem dL_law_290 : decode cL_law 290 = .ok (.iadd, 1) := by decide +kernel
theorem dL_law_291 : decode cL_law 291 = .ok (.iaload, 1) := by decide +kernel
theorem dL_law_292 : decode cL_law 292 = .ok (.aload_n 0, 1) := by decide +kernel
theorem dL_law_293 : decode cL_law 293 = .ok (.iload_n 3, 1) := by decide +kernel
theorem dL_law_294 : decode cL_law 294 = .ok (.iconst 2, 1) := by decide +kernel
theorem dL_law_295 : decode cL_law 295 = .ok (.iadd, 1) := by decide +kernel
theorem dL_law_296 : decode cL_law 296 = .ok (.iaload, 1) := by decide +kernel
theorem dL_law_297 : decode cL_law 297 = .ok (.invokevirtual 40, 3) := by decide +kernel
theorem dL_law_300 : decode cL_law 300 = .ok (.aload_n 2, 1) := by decide +kernel
theorem dL_law_301 : decode cL_law 301 = .ok (.aload_n 0, 1) := by decide +kernel
theorem dL_law_302 : decode cL_law 302 = .ok (.iload_n 3, 1) := by decide +kernel
theorem dL_law_303 : decode cL_law 303 = .ok (.iconst 1, 1) := by decide +kernel
theorem dL_law_304 : decode cL_law 304 = .ok (.iadd, 1) := by decide +kernel
theorem dL_law_305 : decode cL_law 305 = .ok (.iaload, 1) := by decide +kernel
theorem dL_law_306 : decode cL_law 306 = .ok (.aload_n 0, 1) := by decide +kernel
theorem dL_law_307 : decode cL_law 307 = .ok (.iload_n 3, 1) := by decide +kernel
theorem dL_law_308 : decode cL_law 308 = .ok (.iconst 2, 1) := by decide +kernel
theorem dL_law_309 : decode cL_law 309 = .ok (.iadd, 1) := by decide +kernel
theorem dL_law_310 : decode cL_law 310 = .ok (.iaload, 1) := by decide +kernel
theorem dL_law_311 : decode cL_law 311 = .ok (.invokevirtual 43, 3) := by decide +kernel
theorem dL_law_314 : decode cL_law 314 = .ok (.if_icmp .eq 510, 3) := by decide +kernel
theorem dL_law_317 : decode cL_law 317 = .ok (.iconst 0, 1) := by decide +kernel
theorem dL_law_318 : decode cL_law 318 = .ok (.ireturn, 1) := by decide +kernel
theorem dL_law_319 : decode cL_law 319 = .ok (.aload_n 1, 1) := by decide +kernel
theorem dL_law_320 : decode cL_law 320 = .ok (.aload_n 0, 1) := by decide +kernel
theorem dL_law_321 : decode cL_law 321 = .ok (.iload_n 3, 1) := by decide +kernel
theorem dL_law_322 : decode cL_law 322 = .ok (.iconst 1, 1) := by decide +kernel
theorem dL_law_323 : decode cL_law 323 = .ok (.iadd, 1) := by decide +kernel
theorem dL_law_324 : decode cL_law 324 = .ok (.iaload, 1) := by decide +kernel
theorem dL_law_325 : decode cL_law 325 = .ok (.invokevirtual 44, 3) := by decide +kernel
theorem dL_law_328 : decode cL_law 328 = .ok (.aload_n 2, 1) := by decide +kernel
theorem dL_law_329 : decode cL_law 329 = .ok (.aload_n 0, 1) := by decide +kernel
theorem dL_law_330 : decode cL_law 330 = .ok (.iload_n 3, 1) := by decide +kernel
theorem dL_law_331 : decode cL_law 331 = .ok (.iconst 1, 1) := by decide +kernel
theorem dL_law_332 : decode cL_law 332 = .ok (.iadd, 1) := by decide +kernel
theorem dL_law_333 : decode cL_law 333 = .ok (.iaload, 1) := by decide +kernel
theorem dL_law_334 : decode cL_law 334 = .ok (.invokevirtual 47, 3) := by decide +kernel
theorem dL_law_337 : decode cL_law 337 = .ok (.if_icmp .eq 487, 3) := by decide +kernel
theorem dL_law_340 : decode cL_law 340 = .ok (.iconst 0, 1) := by decide +kernel
theorem dL_law_341 : decode cL_law 341 = .ok (.ireturn, 1) := by decide +kernel
theorem dL_law_342 : decode cL_law 342 = .ok (.aload_n 1, 1) := by decide +kernel
theorem dL_law_343 : decode cL_law 343 = .ok (.aload_n 0, 1) := by decide +kernel
theorem dL_law_344 : decode cL_law 344 = .ok (.iload_n 3, 1) := by decide +kernel
theorem dL_law_345 : decode cL_law 345 = .ok (.iconst 1, 1) := by decide +kernel
theorem dL_law_346 : decode cL_law 346 = .ok (.iadd, 1) := by decide +kernel
theorem dL_law_347 : decode cL_law 347 = .ok (.iaload, 1) := by decide +kernel
theorem dL_law_348 : decode cL_law 348 = .ok (.aload_n 0, 1) := by decide +kernel
theorem dL_law_349 : decode cL_law 349 = .ok (.iload_n 3, 1) := by decide +kernel
theorem dL_law_350 : decode cL_law 350 = .ok (.iconst 2, 1) := by decide +kernel
theorem dL_law_351 : decode cL_law 351 = .ok (.iadd, 1) := by decide +kernel
theorem dL_law_352 : decode cL_law 352 = .ok (.iaload, 1) := by decide +kernel
theorem dL_law_353 : decode cL_law 353 = .ok (.invokevirtual 48, 3) := by decide +kernel
theorem dL_law_356 : decode cL_law 356 = .ok (.aload_n 2, 1) := by decide +kernel
theorem dL_law_357 : decode cL_law 357 = .ok (.aload_n 0, 1) := by decide +kernel
theorem dL_law_358 : decode cL_law 358 = .ok (.iload_n 3, 1) := by decide +kernel
theorem dL_law_359 : decode cL_law 359 = .ok (.iconst 1, 1) := by decide +kernel
theorem dL_law_360 : decode cL_law 360 = .ok (.iadd, 1) := by decide +kernel
theorem dL_law_361 : decode cL_law 361 = .ok (.iaload, 1) := by decide +kernel
theorem dL_law_362 : decode cL_law 362 = .ok (.aload_n 0, 1) := by decide +kernel
theorem dL_law_363 : decode cL_law 363 = .ok (.iload_n 3, 1) := by decide +kernel
theorem dL_law_364 : decode cL_law 364 = .ok (.iconst 2, 1) := by decide +kernel
theorem dL_law_365 : decode cL_law 365 = .ok (.iadd, 1) := by decide +kernel
theorem dL_law_366 : decode cL_law 366 = .ok (.iaload, 1) := by decide +kernel
theorem dL_law_367 : decode cL_law 367 = .ok (.invokevirtual 51, 3) := by decide +kernel
theorem dL_law_370 : decode cL_law 370 = .ok (.if_icmp .eq 454, 3) := by decide +kernel
theorem dL_law_373 : decode cL_law 373 = .ok (.iconst 0, 1) := by decide +kernel
theorem dL_law_374 : decode cL_law 374 = .ok (.ireturn, 1) := by decide +kernel
theorem dL_law_375 : decode cL_law 375 = .ok (.aload_n 1, 1) := by decide +kernel
theorem dL_law_376 : decode cL_law 376 = .ok (.aload_n 0, 1) := by decide +kernel
theorem dL_law_377 : decode cL_law 377 = .ok (.iload_n 3, 1) := by decide +kernel
theorem dL_law_378 : decode cL_law 378 = .ok (.iconst 1, 1) := by decide +kernel
theorem dL_law_379 : decode cL_law 379 = .ok (.iadd, 1) := by decide +kernel
theorem dL_law_380 : decode cL_law 380 = .ok (.iaload, 1) := by decide +kernel
theorem dL_law_381 : decode cL_law 381 = .ok (.aload_n 0, 1) := by decide +kernel
theorem dL_law_382 : decode cL_law 382 = .ok (.iload_n 3, 1) := by decide +kernel
theorem dL_law_383 : decode cL_law 383 = .ok (.iconst 2, 1) := by decide +kernel
theorem dL_law_384 : decode cL_law 384 = .ok (.iadd, 1) := by decide +kernel
theorem dL_law_385 : decode cL_law 385 = .ok (.iaload, 1) := by decide +kernel
theorem dL_law_386 : decode cL_law 386 = .ok (.invokevirtual 52, 3) := by decide +kernel
theorem dL_law_389 : decode cL_law 389 = .ok (.aload_n 2, 1) := by decide +kernel
theorem dL_law_390 : decode cL_law 390 = .ok (.aload_n 0, 1) := by decide +kernel
theorem dL_law_391 : decode cL_law 391 = .ok (.iload_n 3, 1) := by decide +kernel
theorem dL_law_392 : decode cL_law 392 = .ok (.iconst 1, 1) := by decide +kernel
theorem dL_law_393 : decode cL_law 393 = .ok (.iadd, 1) := by decide +kernel
theorem dL_law_394 : decode cL_law 394 = .ok (.iaload, 1) := by decide +kernel
theorem dL_law_395 : decode cL_law 395 = .ok (.aload_n 0, 1) := by decide +kernel
theorem dL_law_396 : decode cL_law 396 = .ok (.iload_n 3, 1) := by decide +kernel
theorem dL_law_397 : decode cL_law 397 = .ok (.iconst 2, 1) := by decide +kernel
theorem dL_law_398 : decode cL_law 398 = .ok (.iadd, 1) := by decide +kernel
theorem dL_law_399 : decode cL_law 399 = .ok (.iaload, 1) := by decide +kernel
theorem dL_law_400 : decode cL_law 400 = .ok (.invokevirtual 55, 3) := by decide +kernel
theorem dL_law_403 : decode cL_law 403 = .ok (.if_icmp .eq 421, 3) := by decide +kernel
theorem dL_law_406 : decode cL_law 406 = .ok (.iconst 0, 1) := by decide +kernel
theorem dL_law_407 : decode cL_law 407 = .ok (.ireturn, 1) := by decide +kernel
theorem dL_law_408 : decode cL_law 408 = .ok (.aload_n 1, 1) := by decide +kernel
theorem dL_law_409 : decode cL_law 409 = .ok (.invokevirtual 56, 3) := by decide +kernel
theorem dL_law_412 : decode cL_law 412 = .ok (.aload_n 2, 1) := by decide +kernel
theorem dL_law_413 : decode cL_law 413 = .ok (.invokevirtual 59, 3) := by decide +kernel
theorem dL_law_416 : decode cL_law 416 = .ok (.if_icmp .eq 408, 3) := by decide +kernel
theorem dL_law_419 : decode cL_law 419 = .ok (.iconst 0, 1) := by decide +kernel
theorem dL_law_420 : decode cL_law 420 = .ok (.ireturn, 1) := by decide +kernel
theorem dL_law_421 : decode cL_law 421 = .ok (.aload_n 1, 1) := by decide +kernel
theorem dL_law_422 : decode cL_law 422 = .ok (.aload_n 0, 1) := by decide +kernel
theorem dL_law_423 : decode cL_law 423 = .ok (.iload_n 3, 1) := by decide +kernel
theorem dL_law_424 : decode cL_law 424 = .ok (.iconst 1, 1) := by decide +kernel
theorem dL_law_425 : decode cL_law 425 = .ok (.iadd, 1) := by decide +kernel
theorem dL_law_426 : decode cL_law 426 = .ok (.iaload, 1) := by decide +kernel
theorem dL_law_427 : decode cL_law 427 = .ok (.invokevirtual 60, 3) := by decide +kernel
theorem dL_law_430 : decode cL_law 430 = .ok (.aload_n 2, 1) := by decide +kernel
theorem dL_law_431 : decode cL_law 431 = .ok (.aload_n 0, 1) := by decide +kernel
theorem dL_law_432 : decode cL_law 432 = .ok (.iload_n 3, 1) := by decide +kernel
theorem dL_law_433 : decode cL_law 433 = .ok (.iconst 1, 1) := by decide +kernel
theorem dL_law_434 : decode cL_law 434 = .ok (.iadd, 1) := by decide +kernel
theorem dL_law_435 : decode cL_law 435 = .ok (.iaload, 1) := by decide +kernel
theorem dL_law_436 : decode cL_law 436 = .ok (.invokevirtual 63, 3) := by decide +kernel
theorem dL_law_439 : decode cL_law 439 = .ok (.if_icmp .eq 385, 3) := by decide +kernel
theorem dL_law_442 : decode cL_law 442 = .ok (.iconst 0, 1) := by decide +kernel
theorem dL_law_443 : decode cL_law 443 = .ok (.ireturn, 1) := by decide +kernel
theorem dL_law_444 : decode cL_law 444 = .ok (.aload_n 1, 1) := by decide +kernel
theorem dL_law_445 : decode cL_law 445 = .ok (.aload_n 0, 1) := by decide +kernel
theorem dL_law_446 : decode cL_law 446 = .ok (.iload_n 3, 1) := by decide +kernel
theorem dL_law_447 : decode cL_law 447 = .ok (.iconst 1, 1) := by decide +kernel
theorem dL_law_448 : decode cL_law 448 = .ok (.iadd, 1) := by decide +kernel
theorem dL_law_449 : decode cL_law 449 = .ok (.iaload, 1) := by decide +kernel
theorem dL_law_450 : decode cL_law 450 = .ok (.aload_n 0, 1) := by decide +kernel
theorem dL_law_451 : decode cL_law 451 = .ok (.iload_n 3, 1) := by decide +kernel
theorem dL_law_452 : decode cL_law 452 = .ok (.iconst 2, 1) := by decide +kernel
theorem dL_law_453 : decode cL_law 453 = .ok (.iadd, 1) := by decide +kernel
theorem dL_law_454 : decode cL_law 454 = .ok (.iaload, 1) := by decide +kernel
theorem dL_law_455 : decode cL_law 455 = .ok (.invokevirtual 64, 3) := by decide +kernel
theorem dL_law_458 : decode cL_law 458 = .ok (.aload_n 2, 1) := by decide +kernel
theorem dL_law_459 : decode cL_law 459 = .ok (.aload_n 0, 1) := by decide +kernel
theorem dL_law_460 : decode cL_law 460 = .ok (.iload_n 3, 1) := by decide +kernel
theorem dL_law_461 : decode cL_law 461 = .ok (.iconst 1, 1) := by decide +kernel
theorem dL_law_462 : decode cL_law 462 = .ok (.iadd, 1) := by decide +kernel
theorem dL_law_463 : decode cL_law 463 = .ok (.iaload, 1) := by decide +kernel
theorem dL_law_464 : decode cL_law 464 = .ok (.aload_n 0, 1) := by decide +kernel
theorem dL_law_465 : decode cL_law 465 = .ok (.iload_n 3, 1) := by decide +kernel
theorem dL_law_466 : decode cL_law 466 = .ok (.iconst 2, 1) := by decide +kernel
theorem dL_law_467 : decode cL_law 467 = .ok (.iadd, 1) := by decide +kernel
theorem dL_law_468 : decode cL_law 468 = .ok (.iaload, 1) := by decide +kernel
theorem dL_law_469 : decode cL_law 469 = .ok (.invokevirtual 67, 3) := by decide +kernel
theorem dL_law_472 : decode cL_law 472 = .ok (.if_icmp .eq 352, 3) := by decide +kernel
theorem dL_law_475 : decode cL_law 475 = .ok (.iconst 0, 1) := by decide +kernel
theorem dL_law_476 : decode cL_law 476 = .ok (.ireturn, 1) := by decide +kernel
theorem dL_law_477 : decode cL_law 477 = .ok (.aload_n 1, 1) := by decide +kernel
theorem dL_law_478 : decode cL_law 478 = .ok (.aload_n 0, 1) := by decide +kernel
theorem dL_law_479 : decode cL_law 479 = .ok (.iload_n 3, 1) := by decide +kernel
theorem dL_law_480 : decode cL_law 480 = .ok (.iconst 1, 1) := by decide +kernel
theorem dL_law_481 : decode cL_law 481 = .ok (.iadd, 1) := by decide +kernel
theorem dL_law_482 : decode cL_law 482 = .ok (.iaload, 1) := by decide +kernel
theorem dL_law_483 : decode cL_law 483 = .ok (.invokevirtual 68, 3) := by decide +kernel
theorem dL_law_486 : decode cL_law 486 = .ok (.aload_n 2, 1) := by decide +kernel
theorem dL_law_487 : decode cL_law 487 = .ok (.aload_n 0, 1) := by decide +kernel
theorem dL_law_488 : decode cL_law 488 = .ok (.iload_n 3, 1) := by decide +kernel
theorem dL_law_489 : decode cL_law 489 = .ok (.iconst 1, 1) := by decide +kernel
theorem dL_law_490 : decode cL_law 490 = .ok (.iadd, 1) := by decide +kernel
theorem dL_law_491 : decode cL_law 491 = .ok (.iaload, 1) := by decide +kernel
theorem dL_law_492 : decode cL_law 492 = .ok (.invokevirtual 71, 3) := by decide +kernel
theorem dL_law_495 : decode cL_law 495 = .ok (.if_icmp .eq 329, 3) := by decide +kernel
theorem dL_law_498 : decode cL_law 498 = .ok (.iconst 0, 1) := by decide +kernel
theorem dL_law_499 : decode cL_law 499 = .ok (.ireturn, 1) := by decide +kernel
theorem dL_law_500 : decode cL_law 500 = .ok (.aload_n 1, 1) := by decide +kernel
theorem dL_law_501 : decode cL_law 501 = .ok (.aload_n 0, 1) := by decide +kernel
theorem dL_law_502 : decode cL_law 502 = .ok (.iload_n 3, 1) := by decide +kernel
theorem dL_law_503 : decode cL_law 503 = .ok (.iconst 1, 1) := by decide +kernel
theorem dL_law_504 : decode cL_law 504 = .ok (.iadd, 1) := by decide +kernel
theorem dL_law_505 : decode cL_law 505 = .ok (.iaload, 1) := by decide +kernel
theorem dL_law_506 : decode cL_law 506 = .ok (.aload_n 0, 1) := by decide +kernel
theorem dL_law_507 : decode cL_law 507 = .ok (.iload_n 3, 1) := by decide +kernel
theorem dL_law_508 : decode cL_law 508 = .ok (.iconst 2, 1) := by decide +kernel
theorem dL_law_509 : decode cL_law 509 = .ok (.iadd, 1) := by decide +kernel
theorem dL_law_510 : decode cL_law 510 = .ok (.iaload, 1) := by decide +kernel
theorem dL_law_511 : decode cL_law 511 = .ok (.invokevirtual 72, 3) := by decide +kernel
theorem dL_law_514 : decode cL_law 514 = .ok (.aload_n 2, 1) := by decide +kernel
theorem dL_law_515 : decode cL_law 515 = .ok (.aload_n 0, 1) := by decide +kernel
theorem dL_law_516 : decode cL_law 516 = .ok (.iload_n 3, 1) := by decide +kernel
theorem dL_law_517 : decode cL_law 517 = .ok (.iconst 1, 1) := by decide +kernel
theorem dL_law_518 : decode cL_law 518 = .ok (.iadd, 1) := by decide +kernel
theorem dL_law_519 : decode cL_law 519 = .ok (.iaload, 1) := by decide +kernel
theorem dL_law_520 : decode cL_law 520 = .ok (.aload_n 0, 1) := by decide +kernel
theorem dL_law_521 : decode cL_law 521 = .ok (.iload_n 3, 1) := by decide +kernel
theorem dL_law_522 : decode cL_law 522 = .ok (.iconst 2, 1) := by decide +kernel
theorem dL_law_523 : decode cL_law 523 = .ok (.iadd, 1) := by decide +kernel
theorem dL_law_524 : decode cL_law 524 = .ok (.iaload, 1) := by decide +kernel
theorem dL_law_525 : decode cL_law 525 = .ok (.invokevirtual 75, 3) := by decide +kernel
theorem dL_law_528 : decode cL_law 528 = .ok (.if_icmp .eq 296, 3) := by decide +kernel
theorem dL_law_531 : decode cL_law 531 = .ok (.iconst 0, 1) := by decide +kernel
theorem dL_law_532 : decode cL_law 532 = .ok (.ireturn, 1) := by decide +kernel
theorem dL_law_533 : decode cL_law 533 = .ok (.aload_n 1, 1) := by decide +kernel
theorem dL_law_534 : decode cL_law 534 = .ok (.aload_n 0, 1) := by decide +kernel
theorem dL_law_535 : decode cL_law 535 = .ok (.iload_n 3, 1) := by decide +kernel
theorem dL_law_536 : decode cL_law 536 = .ok (.iconst 1, 1) := by decide +kernel
theorem dL_law_537 : decode cL_law 537 = .ok (.iadd, 1) := by decide +kernel
theorem dL_law_538 : decode cL_law 538 = .ok (.iaload, 1) := by decide +kernel
theorem dL_law_539 : decode cL_law 539 = .ok (.aload_n 0, 1) := by decide +kernel
theorem dL_law_540 : decode cL_law 540 = .ok (.iload_n 3, 1) := by decide +kernel
theorem dL_law_541 : decode cL_law 541 = .ok (.iconst 2, 1) := by decide +kernel
theorem dL_law_542 : decode cL_law 542 = .ok (.iadd, 1) := by decide +kernel
theorem dL_law_543 : decode cL_law 543 = .ok (.iaload, 1) := by decide +kernel
theorem dL_law_544 : decode cL_law 544 = .ok (.aload_n 0, 1) := by decide +kernel
theorem dL_law_545 : decode cL_law 545 = .ok (.iload_n 3, 1) := by decide +kernel
theorem dL_law_546 : decode cL_law 546 = .ok (.iconst 3, 1) := by decide +kernel
theorem dL_law_547 : decode cL_law 547 = .ok (.iadd, 1) := by decide +kernel
theorem dL_law_548 : decode cL_law 548 = .ok (.iaload, 1) := by decide +kernel
theorem dL_law_549 : decode cL_law 549 = .ok (.invokevirtual 76, 3) := by decide +kernel
theorem dL_law_552 : decode cL_law 552 = .ok (.aload_n 2, 1) := by decide +kernel
theorem dL_law_553 : decode cL_law 553 = .ok (.aload_n 0, 1) := by decide +kernel
theorem dL_law_554 : decode cL_law 554 = .ok (.iload_n 3, 1) := by decide +kernel
theorem dL_law_555 : decode cL_law 555 = .ok (.iconst 1, 1) := by decide +kernel
theorem dL_law_556 : decode cL_law 556 = .ok (.iadd, 1) := by decide +kernel
theorem dL_law_557 : decode cL_law 557 = .ok (.iaload, 1) := by decide +kernel
theorem dL_law_558 : decode cL_law 558 = .ok (.aload_n 0, 1) := by decide +kernel
theorem dL_law_559 : decode cL_law 559 = .ok (.iload_n 3, 1) := by decide +kernel
theorem dL_law_560 : decode cL_law 560 = .ok (.iconst 2, 1) := by decide +kernel
theorem dL_law_561 : decode cL_law 561 = .ok (.iadd, 1) := by decide +kernel
theorem dL_law_562 : decode cL_law 562 = .ok (.iaload, 1) := by decide +kernel
theorem dL_law_563 : decode cL_law 563 = .ok (.aload_n 0, 1) := by decide +kernel
theorem dL_law_564 : decode cL_law 564 = .ok (.iload_n 3, 1) := by decide +kernel
theorem dL_law_565 : decode cL_law 565 = .ok (.iconst 3, 1) := by decide +kernel
theorem dL_law_566 : decode cL_law 566 = .ok (.iadd, 1) := by decide +kernel
theorem dL_law_567 : decode cL_law 567 = .ok (.iaload, 1) := by decide +kernel
theorem dL_law_568 : decode cL_law 568 = .ok (.invokevirtual 80, 3) := by decide +kernel
theorem dL_law_571 : decode cL_law 571 = .ok (.if_icmp .eq 253, 3) := by decide +kernel
theorem dL_law_574 : decode cL_law 574 = .ok (.iconst 0, 1) := by decide +kernel
theorem dL_law_575 : decode cL_law 575 = .ok (.ireturn, 1) := by decide +kernel
theorem dL_law_576 : decode cL_law 576 = .ok (.aload_n 1, 1) := by decide +kernel
theorem dL_law_577 : decode cL_law 577 = .ok (.invokevirtual 81, 3) := by decide +kernel
theorem dL_law_580 : decode cL_law 580 = .ok (.aload_n 2, 1) := by decide +kernel
theorem dL_law_581 : decode cL_law 581 = .ok (.invokevirtual 84, 3) := by decide +kernel
theorem dL_law_584 : decode cL_law 584 = .ok (.if_icmp .eq 240, 3) := by decide +kernel
theorem dL_law_587 : decode cL_law 587 = .ok (.iconst 0, 1) := by decide +kernel
theorem dL_law_588 : decode cL_law 588 = .ok (.ireturn, 1) := by decide +kernel
theorem dL_law_589 : decode cL_law 589 = .ok (.aload_n 1, 1) := by decide +kernel
theorem dL_law_590 : decode cL_law 590 = .ok (.aload_n 0, 1) := by decide +kernel
theorem dL_law_591 : decode cL_law 591 = .ok (.iload_n 3, 1) := by decide +kernel
theorem dL_law_592 : decode cL_law 592 = .ok (.iconst 1, 1) := by decide +kernel
theorem dL_law_593 : decode cL_law 593 = .ok (.iadd, 1) := by decide +kernel
theorem dL_law_594 : decode cL_law 594 = .ok (.iaload, 1) := by decide +kernel
theorem dL_law_595 : decode cL_law 595 = .ok (.invokevirtual 85, 3) := by decide +kernel
theorem dL_law_598 : decode cL_law 598 = .ok (.aload_n 2, 1) := by decide +kernel
theorem dL_law_599 : decode cL_law 599 = .ok (.aload_n 0, 1) := by decide +kernel
theorem dL_law_600 : decode cL_law 600 = .ok (.iload_n 3, 1) := by decide +kernel
theorem dL_law_601 : decode cL_law 601 = .ok (.iconst 1, 1) := by decide +kernel
theorem dL_law_602 : decode cL_law 602 = .ok (.iadd, 1) := by decide +kernel
theorem dL_law_603 : decode cL_law 603 = .ok (.iaload, 1) := by decide +kernel
theorem dL_law_604 : decode cL_law 604 = .ok (.invokevirtual 88, 3) := by decide +kernel
theorem dL_law_607 : decode cL_law 607 = .ok (.if_icmp .eq 217, 3) := by decide +kernel
theorem dL_law_610 : decode cL_law 610 = .ok (.iconst 0, 1) := by decide +kernel
theorem dL_law_611 : decode cL_law 611 = .ok (.ireturn, 1) := by decide +kernel
theorem dL_law_612 : decode cL_law 612 = .ok (.aload_n 1, 1) := by decide +kernel
theorem dL_law_613 : decode cL_law 613 = .ok (.aload_n 0, 1) := by decide +kernel
theorem dL_law_614 : decode cL_law 614 = .ok (.iload_n 3, 1) := by decide +kernel
theorem dL_law_615 : decode cL_law 615 = .ok (.iconst 1, 1) := by decide +kernel
theorem dL_law_616 : decode cL_law 616 = .ok (.iadd, 1) := by decide +kernel
theorem dL_law_617 : decode cL_law 617 = .ok (.iaload, 1) := by decide +kernel
theorem dL_law_618 : decode cL_law 618 = .ok (.aload_n 0, 1) := by decide +kernel
theorem dL_law_619 : decode cL_law 619 = .ok (.iload_n 3, 1) := by decide +kernel
theorem dL_law_620 : decode cL_law 620 = .ok (.iconst 2, 1) := by decide +kernel
theorem dL_law_621 : decode cL_law 621 = .ok (.iadd, 1) := by decide +kernel
theorem dL_law_622 : decode cL_law 622 = .ok (.iaload, 1) := by decide +kernel
theorem dL_law_623 : decode cL_law 623 = .ok (.aload_n 0, 1) := by decide +kernel
theorem dL_law_624 : decode cL_law 624 = .ok (.iload_n 3, 1) := by decide +kernel
theorem dL_law_625 : decode cL_law 625 = .ok (.iconst 3, 1) := by decide +kernel
theorem dL_law_626 : decode cL_law 626 = .ok (.iadd, 1) := by decide +kernel
theorem dL_law_627 : decode cL_law 627 = .ok (.iaload, 1) := by decide +kernel
theorem dL_law_628 : decode cL_law 628 = .ok (.invokevirtual 89, 3) := by decide +kernel
theorem dL_law_631 : decode cL_law 631 = .ok (.aload_n 2, 1) := by decide +kernel
theorem dL_law_632 : decode cL_law 632 = .ok (.aload_n 0, 1) := by decide +kernel
theorem dL_law_633 : decode cL_law 633 = .ok (.iload_n 3, 1) := by decide +kernel
theorem dL_law_634 : decode cL_law 634 = .ok (.iconst 1, 1) := by decide +kernel
theorem dL_law_635 : decode cL_law 635 = .ok (.iadd, 1) := by decide +kernel
theorem dL_law_636 : decode cL_law 636 = .ok (.iaload, 1) := by decide +kernel
theorem dL_law_637 : decode cL_law 637 = .ok (.aload_n 0, 1) := by decide +kernel
theorem dL_law_638 : decode cL_law 638 = .ok (.iload_n 3, 1) := by decide +kernel
theorem dL_law_639 : decode cL_law 639 = .ok (.iconst 2, 1) := by decide +kernel
theorem dL_law_640 : decode cL_law 640 = .ok (.iadd, 1) := by decide +kernel
theorem dL_law_641 : decode cL_law 641 = .ok (.iaload, 1) := by decide +kernel
theorem dL_law_642 : decode cL_law 642 = .ok (.aload_n 0, 1) := by decide +kernel
theorem dL_law_643 : decode cL_law 643 = .ok (.iload_n 3, 1) := by decide +kernel
theorem dL_law_644 : decode cL_law 644 = .ok (.iconst 3, 1) := by decide +kernel
theorem dL_law_645 : decode cL_law 645 = .ok (.iadd, 1) := by decide +kernel
theorem dL_law_646 : decode cL_law 646 = .ok (.iaload, 1) := by decide +kernel
theorem dL_law_647 : decode cL_law 647 = .ok (.invokevirtual 92, 3) := by decide +kernel
theorem dL_law_650 : decode cL_law 650 = .ok (.if_icmp .eq 174, 3) := by decide +kernel
theorem dL_law_653 : decode cL_law 653 = .ok (.iconst 0, 1) := by decide +kernel
theorem dL_law_654 : decode cL_law 654 = .ok (.ireturn, 1) := by decide +kernel
theorem dL_law_655 : decode cL_law 655 = .ok (.aload_n 1, 1) := by decide +kernel
theorem dL_law_656 : decode cL_law 656 = .ok (.aload_n 0, 1) := by decide +kernel
theorem dL_law_657 : decode cL_law 657 = .ok (.iload_n 3, 1) := by decide +kernel
theorem dL_law_658 : decode cL_law 658 = .ok (.iconst 1, 1) := by decide +kernel
theorem dL_law_659 : decode cL_law 659 = .ok (.iadd, 1) := by decide +kernel
theorem dL_law_660 : decode cL_law 660 = .ok (.iaload, 1) := by decide +kernel
theorem dL_law_661 : decode cL_law 661 = .ok (.aload_n 0, 1) := by decide +kernel
theorem dL_law_662 : decode cL_law 662 = .ok (.iload_n 3, 1) := by decide +kernel
theorem dL_law_663 : decode cL_law 663 = .ok (.iconst 2, 1) := by decide +kernel
theorem dL_law_664 : decode cL_law 664 = .ok (.iadd, 1) := by decide +kernel
theorem dL_law_665 : decode cL_law 665 = .ok (.iaload, 1) := by decide +kernel
theorem dL_law_666 : decode cL_law 666 = .ok (.aload_n 0, 1) := by decide +kernel
theorem dL_law_667 : decode cL_law 667 = .ok (.iload_n 3, 1) := by decide +kernel
theorem dL_law_668 : decode cL_law 668 = .ok (.iconst 3, 1) := by decide +kernel
theorem dL_law_669 : decode cL_law 669 = .ok (.iadd, 1) := by decide +kernel
theorem dL_law_670 : decode cL_law 670 = .ok (.iaload, 1) := by decide +kernel
theorem dL_law_671 : decode cL_law 671 = .ok (.aload_n 0, 1) := by decide +kernel
theorem dL_law_672 : decode cL_law 672 = .ok (.iload_n 3, 1) := by decide +kernel
theorem dL_law_673 : decode cL_law 673 = .ok (.iconst 4, 1) := by decide +kernel
theorem dL_law_674 : decode cL_law 674 = .ok (.iadd, 1) := by decide +kernel
theorem dL_law_675 : decode cL_law 675 = .ok (.iaload, 1) := by decide +kernel
theorem dL_law_676 : decode cL_law 676 = .ok (.invokevirtual 93, 3) := by decide +kernel
theorem dL_law_679 : decode cL_law 679 = .ok (.aload_n 2, 1) := by decide +kernel
theorem dL_law_680 : decode cL_law 680 = .ok (.aload_n 0, 1) := by decide +kernel
theorem dL_law_681 : decode cL_law 681 = .ok (.iload_n 3, 1) := by decide +kernel
theorem dL_law_682 : decode cL_law 682 = .ok (.iconst 1, 1) := by decide +kernel
theorem dL_law_683 : decode cL_law 683 = .ok (.iadd, 1) := by decide +kernel
theorem dL_law_684 : decode cL_law 684 = .ok (.iaload, 1) := by decide +kernel
theorem dL_law_685 : decode cL_law 685 = .ok (.aload_n 0, 1) := by decide +kernel
theorem dL_law_686 : decode cL_law 686 = .ok (.iload_n 3, 1) := by decide +kernel
theorem dL_law_687 : decode cL_law 687 = .ok (.iconst 2, 1) := by decide +kernel
theorem dL_law_688 : decode cL_law 688 = .ok (.iadd, 1) := by decide +kernel
theorem dL_law_689 : decode cL_law 689 = .ok (.iaload, 1) := by decide +kernel
theorem dL_law_690 : decode cL_law 690 = .ok (.aload_n 0, 1) := by decide +kernel
theorem dL_law_691 : decode cL_law 691 = .ok (.iload_n 3, 1) := by decide +kernel
theorem dL_law_692 : decode cL_law 692 = .ok (.iconst 3, 1) := by decide +kernel
theorem dL_law_693 : decode cL_law 693 = .ok (.iadd, 1) := by decide +kernel
theorem dL_law_694 : decode cL_law 694 = .ok (.iaload, 1) := by decide +kernel
theorem dL_law_695 : decode cL_law 695 = .ok (.aload_n 0, 1) := by decide +kernel
theorem dL_law_696 : decode cL_law 696 = .ok (.iload_n 3, 1) := by decide +kernel
theorem dL_law_697 : decode cL_law 697 = .ok (.iconst 4, 1) := by decide +kernel
theorem dL_law_698 : decode cL_law 698 = .ok (.iadd, 1) := by decide +kernel
theorem dL_law_699 : decode cL_law 699 = .ok (.iaload, 1) := by decide +kernel
theorem dL_law_700 : decode cL_law 700 = .ok (.invokevirtual 97, 3) := by decide +kernel
theorem dL_law_703 : decode cL_law 703 = .ok (.if_icmp .eq 121, 3) := by decide +kernel
theorem dL_law_706 : decode cL_law 706 = .ok (.iconst 0, 1) := by decide +kernel
theorem dL_law_707 : decode cL_law 707 = .ok (.ireturn, 1) := by decide +kernel
theorem dL_law_708 : decode cL_law 708 = .ok (.aload_n 1, 1) := by decide +kernel
theorem dL_law_709 : decode cL_law 709 = .ok (.aload_n 0, 1) := by decide +kernel
theorem dL_law_710 : decode cL_law 710 = .ok (.iload_n 3, 1) := by decide +kernel
theorem dL_law_711 : decode cL_law 711 = .ok (.iconst 1, 1) := by decide +kernel
theorem dL_law_712 : decode cL_law 712 = .ok (.iadd, 1) := by decide +kernel
theorem dL_law_713 : decode cL_law 713 = .ok (.iaload, 1) := by decide +kernel
theorem dL_law_714 : decode cL_law 714 = .ok (.aload_n 0, 1) := by decide +kernel
theorem dL_law_715 : decode cL_law 715 = .ok (.iload_n 3, 1) := by decide +kernel
theorem dL_law_716 : decode cL_law 716 = .ok (.iconst 2, 1) := by decide +kernel
theorem dL_law_717 : decode cL_law 717 = .ok (.iadd, 1) := by decide +kernel
theorem dL_law_718 : decode cL_law 718 = .ok (.iaload, 1) := by decide +kernel
theorem dL_law_719 : decode cL_law 719 = .ok (.invokevirtual 98, 3) := by decide +kernel
theorem dL_law_722 : decode cL_law 722 = .ok (.aload_n 2, 1) := by decide +kernel
theorem dL_law_723 : decode cL_law 723 = .ok (.aload_n 0, 1) := by decide +kernel
theorem dL_law_724 : decode cL_law 724 = .ok (.iload_n 3, 1) := by decide +kernel
theorem dL_law_725 : decode cL_law 725 = .ok (.iconst 1, 1) := by decide +kernel
theorem dL_law_726 : decode cL_law 726 = .ok (.iadd, 1) := by decide +kernel
theorem dL_law_727 : decode cL_law 727 = .ok (.iaload, 1) := by decide +kernel
theorem dL_law_728 : decode cL_law 728 = .ok (.aload_n 0, 1) := by decide +kernel
theorem dL_law_729 : decode cL_law 729 = .ok (.iload_n 3, 1) := by decide +kernel
theorem dL_law_730 : decode cL_law 730 = .ok (.iconst 2, 1) := by decide +kernel
theorem dL_law_731 : decode cL_law 731 = .ok (.iadd, 1) := by decide +kernel
theorem dL_law_732 : decode cL_law 732 = .ok (.iaload, 1) := by decide +kernel
theorem dL_law_733 : decode cL_law 733 = .ok (.invokevirtual 101, 3) := by decide +kernel
theorem dL_law_736 : decode cL_law 736 = .ok (.if_icmp .eq 88, 3) := by decide +kernel
theorem dL_law_739 : decode cL_law 739 = .ok (.iconst 0, 1) := by decide +kernel
theorem dL_law_740 : decode cL_law 740 = .ok (.ireturn, 1) := by decide +kernel
theorem dL_law_741 : decode cL_law 741 = .ok (.aload_n 1, 1) := by decide +kernel
theorem dL_law_742 : decode cL_law 742 = .ok (.aload_n 0, 1) := by decide +kernel
theorem dL_law_743 : decode cL_law 743 = .ok (.iload_n 3, 1) := by decide +kernel
theorem dL_law_744 : decode cL_law 744 = .ok (.iconst 1, 1) := by decide +kernel
theorem dL_law_745 : decode cL_law 745 = .ok (.iadd, 1) := by decide +kernel
theorem dL_law_746 : decode cL_law 746 = .ok (.iaload, 1) := by decide +kernel
theorem dL_law_747 : decode cL_law 747 = .ok (.invokevirtual 102, 3) := by decide +kernel
theorem dL_law_750 : decode cL_law 750 = .ok (.aload_n 2, 1) := by decide +kernel
theorem dL_law_751 : decode cL_law 751 = .ok (.aload_n 0, 1) := by decide +kernel
theorem dL_law_752 : decode cL_law 752 = .ok (.iload_n 3, 1) := by decide +kernel
theorem dL_law_753 : decode cL_law 753 = .ok (.iconst 1, 1) := by decide +kernel
theorem dL_law_754 : decode cL_law 754 = .ok (.iadd, 1) := by decide +kernel
theorem dL_law_755 : decode cL_law 755 = .ok (.iaload, 1) := by decide +kernel
theorem dL_law_756 : decode cL_law 756 = .ok (.invokevirtual 105, 3) := by decide +kernel
theorem dL_law_759 : decode cL_law 759 = .ok (.if_icmp .eq 65, 3) := by decide +kernel
theorem dL_law_762 : decode cL_law 762 = .ok (.iconst 0, 1) := by decide +kernel
theorem dL_law_763 : decode cL_law 763 = .ok (.ireturn, 1) := by decide +kernel
theorem dL_law_764 : decode cL_law 764 = .ok (.aload_n 1, 1) := by decide +kernel
theorem dL_law_765 : decode cL_law 765 = .ok (.aload_n 0, 1) := by decide +kernel
theorem dL_law_766 : decode cL_law 766 = .ok (.iload_n 3, 1) := by decide +kernel
theorem dL_law_767 : decode cL_law 767 = .ok (.iconst 1, 1) := by decide +kernel
theorem dL_law_768 : decode cL_law 768 = .ok (.iadd, 1) := by decide +kernel
theorem dL_law_769 : decode cL_law 769 = .ok (.iaload, 1) := by decide +kernel
theorem dL_law_770 : decode cL_law 770 = .ok (.invokevirtual 106, 3) := by decide +kernel
theorem dL_law_773 : decode cL_law 773 = .ok (.aload_n 2, 1) := by decide +kernel
theorem dL_law_774 : decode cL_law 774 = .ok (.aload_n 0, 1) := by decide +kernel
theorem dL_law_775 : decode cL_law 775 = .ok (.iload_n 3, 1) := by decide +kernel
theorem dL_law_776 : decode cL_law 776 = .ok (.iconst 1, 1) := by decide +kernel
theorem dL_law_777 : decode cL_law 777 = .ok (.iadd, 1) := by decide +kernel
theorem dL_law_778 : decode cL_law 778 = .ok (.iaload, 1) := by decide +kernel
theorem dL_law_779 : decode cL_law 779 = .ok (.invokevirtual 109, 3) := by decide +kernel
theorem dL_law_782 : decode cL_law 782 = .ok (.if_icmp .eq 42, 3) := by decide +kernel
theorem dL_law_785 : decode cL_law 785 = .ok (.iconst 0, 1) := by decide +kernel
theorem dL_law_786 : decode cL_law 786 = .ok (.ireturn, 1) := by decide +kernel
theorem dL_law_787 : decode cL_law 787 = .ok (.aload_n 1, 1) := by decide +kernel
theorem dL_law_788 : decode cL_law 788 = .ok (.aload_n 0, 1) := by decide +kernel
theorem dL_law_789 : decode cL_law 789 = .ok (.iload_n 3, 1) := by decide +kernel
theorem dL_law_790 : decode cL_law 790 = .ok (.iconst 1, 1) := by decide +kernel
theorem dL_law_791 : decode cL_law 791 = .ok (.iadd, 1) := by decide +kernel
theorem dL_law_792 : decode cL_law 792 = .ok (.iaload, 1) := by decide +kernel
theorem dL_law_793 : decode cL_law 793 = .ok (.invokevirtual 110, 3) := by decide +kernel
theorem dL_law_796 : decode cL_law 796 = .ok (.aload_n 2, 1) := by decide +kernel
theorem dL_law_797 : decode cL_law 797 = .ok (.aload_n 0, 1) := by decide +kernel
theorem dL_law_798 : decode cL_law 798 = .ok (.iload_n 3, 1) := by decide +kernel
theorem dL_law_799 : decode cL_law 799 = .ok (.iconst 1, 1) := by decide +kernel
theorem dL_law_800 : decode cL_law 800 = .ok (.iadd, 1) := by decide +kernel
theorem dL_law_801 : decode cL_law 801 = .ok (.iaload, 1) := by decide +kernel
theorem dL_law_802 : decode cL_law 802 = .ok (.invokevirtual 113, 3) := by decide +kernel
theorem dL_law_805 : decode cL_law 805 = .ok (.if_icmp .eq 19, 3) := by decide +kernel
theorem dL_law_808 : decode cL_law 808 = .ok (.iconst 0, 1) := by decide +kernel
theorem dL_law_809 : decode cL_law 809 = .ok (.ireturn, 1) := by decide +kernel
theorem dL_law_810 : decode cL_law 810 = .ok (.aload_n 1, 1) := by decide +kernel
theorem dL_law_811 : decode cL_law 811 = .ok (.invokevirtual 114, 3) := by decide +kernel
theorem dL_law_814 : decode cL_law 814 = .ok (.aload_n 2, 1) := by decide +kernel
theorem dL_law_815 : decode cL_law 815 = .ok (.invokevirtual 118, 3) := by decide +kernel
theorem dL_law_818 : decode cL_law 818 = .ok (.lcmp, 1) := by decide +kernel
theorem dL_law_819 : decode cL_law 819 = .ok (.ifCond .eq 5, 3) := by decide +kernel
theorem dL_law_822 : decode cL_law 822 = .ok (.iconst 0, 1) := by decide +kernel
theorem dL_law_823 : decode cL_law 823 = .ok (.ireturn, 1) := by decide +kernel
theorem dL_law_824 : decode cL_law 824 = .ok (.iinc 3 5, 3) := by decide +kernel
theorem dL_law_827 : decode cL_law 827 = .ok (.goto (-809), 3) := by decide +kernel
theorem dL_law_830 : decode cL_law 830 = .ok (.iconst 1, 1) := by decide +kernel
theorem dL_law_831 : decode cL_law 831 = .ok (.ireturn, 1) := by decide +kernel
end
section
/-! ===== the one world: all cells of the class and of the reference, by numbers ===== -/
/-- tables' numbers; classes of int[], boolean[], Moment[]; the cells' addresses; which cells may change -/
abbrev gG : Type := va_G × (ClassId × ClassId × ClassId) × (Nat → Nat) × (Nat → Prop)
/-- a state: what stands in a cell's place -/
abbrev gSt : Type := Nat → Nat → Int32
def gAd (G : gG) (i : Nat) : Nat := G.2.2.1 i
def gA (G : gG) : Nat → Prop := G.2.2.2
def gty (G : gG) : List (ClassId × FieldType) := [(G.2.1.1, .int), (G.2.1.2.1, .boolean), (G.2.1.2.2, .object "AbsentBells$Moment")]
def gkinds : List Nat := [9, 6, 11, 4, 11, 11, 11, 11, 11, 0, 4, 11, 11, 11, 11, 11, 3, 11, 11, 11, 11, 2, 13, 3, 11, 11, 11, 11, 3, 11, 11, 11, 11, 3, 11, 11, 11, 11, 3, 11, 11, 11, 11, 3, 11, 11, 11, 11, 3, 11, 11, 11, 11, 3, 11, 11, 11, 11, 3, 11, 11, 11, 11, 3, 11, 11, 11, 11, 3, 11, 11, 11, 11, 1, 11, 11, 11, 8, 11, 11, 11, 7, 11, 5, 13, 3, 11, 11, 11, 11, 3, 11, 11, 11, 11, 12, 10, 11, 11, 11, 11, 11, 11, 11, 11, 11, 12, 11, 11, 11, 11, 11]
def glens : List Nat := [0, 0, 200, 0, 5, 8, 8, 8, 8, 0, 0, 5, 8, 8, 8, 8, 0, 5, 5, 5, 8, 0, 10, 0, 5, 5, 5, 8, 0, 5, 5, 5, 8, 0, 5, 5, 5, 8, 0, 5, 5, 5, 8, 0, 5, 5, 5, 8, 0, 5, 5, 5, 8, 0, 5, 5, 5, 8, 0, 5, 5, 5, 8, 0, 5, 5, 5, 8, 0, 5, 5, 5, 8, 0, 6, 6, 6, 0, 240, 241, 1446, 0, 240, 0, 2, 0, 5, 5, 5, 8, 0, 5, 5, 5, 8, 2, 0, 200, 10, 10, 8, 16, 16, 16, 25, 50, 2, 250, 6, 6, 6, 1446]
def gkind (i : Nat) : Nat := gkinds.getD i 99
def glen (i : Nat) : Nat := glens.getD i 0
def gF0 (G : gG) (i : Nat) (f : Nat → Int32) (t : Int64) : List Value := [.ref (gAd G (i + 1)), .ref (gAd G (i + 7))]
def gF1 (G : gG) (i : Nat) (f : Nat → Int32) (t : Int64) : List Value := [.int (f 0), .ref (gAd G (i + 1)), .ref (gAd G (i + 2)), .ref (gAd G (i + 3))]
def gF2 (G : gG) (i : Nat) (f : Nat → Int32) (t : Int64) : List Value := [.ref (gAd G (i + 1)), .int (f 1), .int (f 2)]
def gF3 (G : gG) (i : Nat) (f : Nat → Int32) (t : Int64) : List Value := [.int (f 0), .int (f 1), .ref (gAd G (i + 1)), .ref (gAd G (i + 2)), .ref (gAd G (i + 3)), .ref (gAd G (i + 4))]
def gF4 (G : gG) (i : Nat) (f : Nat → Int32) (t : Int64) : List Value := [.int (f 0), .int (f 1), .int (f 2), .int (f 3), .int (f 4), .ref (gAd G (i + 1)), .ref (gAd G (i + 2)), .ref (gAd G (i + 3)), .ref (gAd G (i + 4)), .ref (gAd G (i + 5))]
def gF5 (G : gG) (i : Nat) (f : Nat → Int32) (t : Int64) : List Value := [.long t]
def gF6 (G : gG) (i : Nat) (f : Nat → Int32) (t : Int64) : List Value := [.ref (gAd G (i + 1)), .int (f 1), .ref (gAd G (i + 2)), .int (f 3), .int (f 4), .int (f 5), .int (f 6), .int (f 7), .int (f 8), .int (f 9)]
def gF7 (G : gG) (i : Nat) (f : Nat → Int32) (t : Int64) : List Value := [.ref (gAd G (i + 1)), .int (f 1)]
def gF8 (G : gG) (i : Nat) (f : Nat → Int32) (t : Int64) : List Value := [.ref (gAd G (i + 1)), .ref (gAd G (i + 2)), .ref (gAd G (i + 3))]
def gF9 (G : gG) (i : Nat) (f : Nat → Int32) (t : Int64) : List Value := [.ref (gAd G (i + 1)), .ref (gAd G (i + 9)), .ref (gAd G (i + 21)), .ref (gAd G (i + 73)), .ref (gAd G (i + 77)), .ref (gAd G (i + 81)), .ref (gAd G (i + 83)), .ref (gAd G (i + 84)), .ref (gAd G (i + 95))]
def gF10 (G : gG) (i : Nat) (f : Nat → Int32) (t : Int64) : List Value := [.int 0, .long t, .ref (gAd G (i + 1)), .int (f 3), .int (f 4), .int (f 5), .int (f 6), .int (f 7), .int (f 8), .ref (gAd G (i + 2)), .int (f 10), .ref (gAd G (i + 3)), .ref (gAd G (i + 4)), .ref (gAd G (i + 5)), .ref (gAd G (i + 6)), .ref (gAd G (i + 7)), .ref (gAd G (i + 8)), .ref (gAd G (i + 9)), .ref (gAd G (i + 10)), .ref (gAd G (i + 11)), .int (f 20), .ref (gAd G (i + 12)), .ref (gAd G (i + 13)), .ref (gAd G (i + 14)), .int (f 24), .int (f 25), .ref (gAd G (i + 15))]
def gL (G : gG) (i : Nat) (f : Nat → Int32) (t : Int64) : va_E :=
  if gkind i = 0 then .inr (0, gF0 G i f t) else if gkind i = 1 then .inr (1, gF1 G i f t) else if gkind i = 2 then .inr (2, gF2 G i f t) else if gkind i = 3 then .inr (3, gF3 G i f t) else if gkind i = 4 then .inr (4, gF4 G i f t) else if gkind i = 5 then .inr (5, gF5 G i f t) else if gkind i = 6 then .inr (6, gF6 G i f t) else if gkind i = 7 then .inr (7, gF7 G i f t) else if gkind i = 8 then .inr (8, gF8 G i f t) else if gkind i = 9 then .inr (9, gF9 G i f t) else if gkind i = 10 then .inr (10, gF10 G i f t) else if gkind i = 11 then .inl (G.2.1.1, glen i, .inl f) else if gkind i = 12 then .inl (G.2.1.2.1, glen i, .inl f) else .inl (G.2.1.2.2, glen i, .inr (.inr (.inr (.inr (fun j => some (gAd G (i + 1 + 5 * j)))))))
theorem gL_0 {G : gG} {i : Nat} {f : Nat → Int32} {t : Int64} (h : gkind i = 0) : gL G i f t = .inr (0, gF0 G i f t) := by simp [gL, h]
theorem gL_1 {G : gG} {i : Nat} {f : Nat → Int32} {t : Int64} (h : gkind i = 1) : gL G i f t = .inr (1, gF1 G i f t) := by simp [gL, h]
theorem gL_2 {G : gG} {i : Nat} {f : Nat → Int32} {t : Int64} (h : gkind i = 2) : gL G i f t = .inr (2, gF2 G i f t) := by simp [gL, h]
theorem gL_3 {G : gG} {i : Nat} {f : Nat → Int32} {t : Int64} (h : gkind i = 3) : gL G i f t = .inr (3, gF3 G i f t) := by simp [gL, h]
theorem gL_4 {G : gG} {i : Nat} {f : Nat → Int32} {t : Int64} (h : gkind i = 4) : gL G i f t = .inr (4, gF4 G i f t) := by simp [gL, h]
theorem gL_5 {G : gG} {i : Nat} {f : Nat → Int32} {t : Int64} (h : gkind i = 5) : gL G i f t = .inr (5, gF5 G i f t) := by simp [gL, h]
theorem gL_6 {G : gG} {i : Nat} {f : Nat → Int32} {t : Int64} (h : gkind i = 6) : gL G i f t = .inr (6, gF6 G i f t) := by simp [gL, h]
theorem gL_7 {G : gG} {i : Nat} {f : Nat → Int32} {t : Int64} (h : gkind i = 7) : gL G i f t = .inr (7, gF7 G i f t) := by simp [gL, h]
theorem gL_8 {G : gG} {i : Nat} {f : Nat → Int32} {t : Int64} (h : gkind i = 8) : gL G i f t = .inr (8, gF8 G i f t) := by simp [gL, h]
theorem gL_9 {G : gG} {i : Nat} {f : Nat → Int32} {t : Int64} (h : gkind i = 9) : gL G i f t = .inr (9, gF9 G i f t) := by simp [gL, h]
theorem gL_10 {G : gG} {i : Nat} {f : Nat → Int32} {t : Int64} (h : gkind i = 10) : gL G i f t = .inr (10, gF10 G i f t) := by simp [gL, h]
theorem gL_11 {G : gG} {i : Nat} {f : Nat → Int32} {t : Int64} (h : gkind i = 11) : gL G i f t = .inl (G.2.1.1, glen i, .inl f) := by simp [gL, h]
theorem gL_12 {G : gG} {i : Nat} {f : Nat → Int32} {t : Int64} (h : gkind i = 12) : gL G i f t = .inl (G.2.1.2.1, glen i, .inl f) := by simp [gL, h]
theorem gL_13 {G : gG} {i : Nat} {f : Nat → Int32} {t : Int64} (h : gkind i = 13) : gL G i f t = .inl (G.2.1.2.2, glen i, .inr (.inr (.inr (.inr (fun j => some (gAd G (i + 1 + 5 * j))))))) := by simp [gL, h]
def gws (G : gG) (σ : gSt) (τ : Nat → Int64) : va_W := (List.range 112).map (fun i => (gAd G i, gL G i (σ i) (τ i)))
theorem gws_at {G : gG} {σ : gSt} {τ : Nat → Int64} {i : Nat} (hi : i < 112) : (gws G σ τ)[i]? = some (gAd G i, gL G i (σ i) (τ i)) := by
  simp [gws, hi]
theorem gws_set {G : gG} {σ : gSt} {τ : Nat → Int64} {i : Nat} (hi : i < 112) (f : Nat → Int32) (t : Int64) : (gws G σ τ).set i (gAd G i, gL G i f t) = gws G (va_up σ i f) (va_up τ i t) := by
  refine List.ext_getElem? fun k => ?_
  rcases Nat.lt_or_ge k 112 with hk | hk
  · rw [gws_at hk]
    by_cases e : i = k
    · subst e
      rw [List.getElem?_set_self (by simp [gws, hi])]
      simp [va_up]
    · rw [List.getElem?_set_ne e, gws_at hk]
      simp [va_up, Ne.symm e]
  · rw [List.getElem?_eq_none (by simp [gws, hk]), List.getElem?_eq_none (by simp [gws, hk])]
/-- one place of one cell changes -/
def gu (σ : gSt) (i k : Nat) (x : Int32) : gSt := va_up σ i (upd (σ i) k x)
theorem gup_self {α : Type} (f : Nat → α) (k : Nat) : va_up f k (f k) = f := by
  funext j
  unfold va_up
  split
  · next h => rw [h]
  · rfl
def gW (G : gG) (s : State) (σ : gSt) (τ : Nat → Int64) (H : Heap) (locs : List Loc) : Prop := va_P G.1 vwCl (gws G σ τ) H ∧ va_D (gA G) (gws G σ τ) ∧ va_S (gA G) s.heap H locs
def gNest (U : State) : Prop := va_Nw (.methodLinkNest RX0 36 yX9_bit RX9) U ∧ va_Nw (.methodLinkNest RX7 45 yX9_bit RX9) U ∧ va_Nw (.methodLinkNest RX5 61 yX9_bit RX9) U
theorem gNest_warm {s U : State} (hW : s.WarmedH U.vm) (h : gNest s) : gNest U := ⟨va_Nw.warmM hW h.1, va_Nw.warmM hW h.2.1, va_Nw.warmM hW h.2.2⟩
theorem gNest_same {s U : State} (hW : s.vm = U.vm) (h : gNest s) : gNest U := ⟨va_Nw.same rfl hW h.1, va_Nw.same rfl hW h.2.1, va_Nw.same rfl hW h.2.2⟩
def gP (G : gG) (σ : gSt) (τ : Nat → Int64) (U : State) : Prop := va_P G.1 vwCl (gws G σ τ) U.heap ∧ va_K G.1 vwCl (gty G) U ∧ va_D (gA G) (gws G σ τ) ∧ gNest U
def gCx (p : Program) (s : State) (m : MethodId) (args : Array Value) (c : Code) (G : gG) (cc : ByteArray) (nL : Nat) (own : String) : Prop :=
  p.tables.exec = Jvm.exec ∧ c.code = cc ∧ c.maxLocals = nL ∧ s.vm.findClass own = some m.cls ∧ (∀ w ∈ gAll, w.before args s = true) ∧ va_K G.1 vwCl (gty G) s ∧ gNest s
theorem gP_blind (G : gG) (σ : gSt) (τ : Nat → Int64) (As : List Value) : FrameBlind (va_Pc As (gP G σ τ)) := by
  intro a U g mk q
  obtain ⟨q0, qP, qK, qD, qN⟩ := q
  exact ⟨q0, qP, va_K.moved (u := U) (U := U.calling g mk a) (Vm.Alike.refl U.vm) qK, qD, gNest_same (s := U) (U := U.calling g mk a) rfl qN⟩
def gRm (fr lo : Nat) : Room := { frames := fr, cells := 0, slots := 0, locals := lo }
def gQi (G : gG) (r : Int32) (σ' : gSt) (τ' : Nat → Int64) : Array Value → State → Outcome → State → Prop := va_Qi (fun (r' : Int32) (u : gSt × (Nat → Int64)) => r' = r ∧ u = (σ', τ')) (fun u => gP G u.1 u.2) (gA G)
def gQl (G : gG) (r : Int64) (σ' : gSt) (τ' : Nat → Int64) : Array Value → State → Outcome → State → Prop := va_Ql (fun (r' : Int64) (u : gSt × (Nat → Int64)) => r' = r ∧ u = (σ', τ')) (fun u => gP G u.1 u.2) (gA G)
def gQv (G : gG) (σ' : gSt) (τ' : Nat → Int64) : Array Value → State → Outcome → State → Prop := va_Qv (fun (u : gSt × (Nat → Int64)) => u = (σ', τ')) (fun u => gP G u.1 u.2) (gA G)
/-- a contract: on the world σ, τ the method answers r and leaves σ', τ' -/
def gI (l : Launch) (y : MethodName) (cc : ByteArray) (nL : Nat) (ret : Option FieldType) (fr lo : Nat) (G : gG) (As : List Value) (σ : gSt) (τ : Nat → Int64) (r : Int32) (σ' : gSt) (τ' : Nat → Int64) : Prop :=
  Met l y (Cond.code y cc nL ret :: gAll) (gRm fr lo) (va_Pc As (gP G σ τ)) (gQi G r σ' τ') 0 0 (gA G)
def gJ (l : Launch) (y : MethodName) (cc : ByteArray) (nL : Nat) (ret : Option FieldType) (fr lo : Nat) (G : gG) (As : List Value) (σ : gSt) (τ : Nat → Int64) (r : Int64) (σ' : gSt) (τ' : Nat → Int64) : Prop :=
  Met l y (Cond.code y cc nL ret :: gAll) (gRm fr lo) (va_Pc As (gP G σ τ)) (gQl G r σ' τ') 0 0 (gA G)
def gV (l : Launch) (y : MethodName) (cc : ByteArray) (nL : Nat) (ret : Option FieldType) (fr lo : Nat) (G : gG) (As : List Value) (σ : gSt) (τ : Nat → Int64) (σ' : gSt) (τ' : Nat → Int64) : Prop :=
  Met l y (Cond.code y cc nL ret :: gAll) (gRm fr lo) (va_Pc As (gP G σ τ)) (gQv G σ' τ') 0 0 (gA G)
theorem gMet_of {l : Launch} {y : MethodName} {cc : ByteArray} {nL : Nat} {ret : Option FieldType} {fr lo : Nat} {G : gG} {As : List Value} {σ : gSt} {τ : Nat → Int64} {Qc : Array Value → State → Outcome → State → Prop} (hy : plainName y.cls = true) (hn : (lg_sl As).length ≤ nL)
    (body : ∀ (p : Program) (e : Env) (s : State) (m : MethodId) (args : Array Value) (below : List Frame) (meth : Method) (c : Code), gCx p s m args c G cc nL y.cls → meth.sig.returnType = ret → meth.locks = false → ∀ ls : Array Slot, lv_has ls nL (lv_args 0 As) → gW G s σ τ s.heap [] →
      W p l e (gRm fr lo) s m args below meth c s.heap [] 0 0 (MQ below Qc args s 0 0 (gA G)) (F0 m 0 ls [])) : Met l y (Cond.code y cc nL ret :: gAll) (gRm fr lo) (va_Pc As (gP G σ τ)) Qc 0 0 (gA G) := by
  refine Met.ofW (cc := cc) (maxL := nL) (ret := ret) hy rfl ?_
  intro p e s m args below meth c s₁ B hml hv
  obtain ⟨rfl, hP, hK, hD, hN⟩ := hv
  have hts := atoms_spec (ws := Cond.code y cc nL ret :: gAll) B.pre
  rw [lg_entry_eq]
  exact body p e s m _ below meth c ⟨B.exec, B.bytes, hml, findClass_of_methodNamed B.named, fun w hw => hts w (List.mem_cons_of_mem _ hw), hK, hN⟩ B.returns B.notSynchronized _ (lv_entry As hn) ⟨hP, hD, va_S.rf⟩
section GROWS
variable {p : Program} {l : Launch} {e : Env} {R : Room} {s : State} {m : MethodId} {args : Array Value} {below : List Frame} {meth : Method} {c : Code} {H : Heap} {locs : List Loc} {cells slots : Nat} {Q : State → Prop}
variable {cc : ByteArray} {pc nL : Nat} {ls : Array Slot} {rest : List Value} {G : gG} {σ σ1 σ' : gSt} {τ τ1 τ' : Nat → Int64} {own : String}
theorem gP_of (hW : gW G s σ τ H locs) (C : gCx p s m args c G cc nL own) {t : State} (ht : t.heap = H) (hw : s.WarmedH t.vm) : gP G σ τ t :=
  ⟨by rw [ht]; exact hW.1, va_K.moved hw.alike C.2.2.2.2.2.1, hW.2.1, gNest_warm hw C.2.2.2.2.2.2⟩
theorem g_iret {r v : Int32} (C : gCx p s m args c G cc nL own) (hr : meth.sig.returnType = some .int) (hlk : meth.locks = false) (hW : gW G s σ1 τ1 H locs) (hd : decode cc pc = .ok (.ireturn, 1)) (hv : v = r) (hs : σ1 = σ') (ht : τ1 = τ') :
    W p l e R s m args below meth c H locs 0 0 (MQ below (gQi G r σ' τ') args s 0 0 (gA G)) (F0 m pc ls [.int v]) := by
  subst hv; subst hs; subst ht
  exact W.iret C.1 C.2.1 hr (fun t ht hw => ⟨⟨v, (σ1, τ1), rfl, ⟨rfl, rfl⟩, gP_of hW C ht hw⟩, hW.2.2.F ht⟩) hW.2.2.2.2 hd hlk
theorem g_zret {r v : Int32} (C : gCx p s m args c G cc nL own) (hr : meth.sig.returnType = some .boolean) (hlk : meth.locks = false) (hW : gW G s σ1 τ1 H locs) (hd : decode cc pc = .ok (.ireturn, 1)) (hn : narrow .boolean (.int v) = .int v) (hv : v = r) (hs : σ1 = σ') (ht : τ1 = τ') :
    W p l e R s m args below meth c H locs 0 0 (MQ below (gQi G r σ' τ') args s 0 0 (gA G)) (F0 m pc ls [.int v]) := by
  subst hv; subst hs; subst ht
  exact W.zret C.1 C.2.1 hr hn (fun t ht hw => ⟨⟨v, (σ1, τ1), rfl, ⟨rfl, rfl⟩, gP_of hW C ht hw⟩, hW.2.2.F ht⟩) hW.2.2.2.2 hd hlk
theorem g_lret {r v : Int64} (C : gCx p s m args c G cc nL own) (hr : meth.sig.returnType = some .long) (hlk : meth.locks = false) (hW : gW G s σ1 τ1 H locs) (hd : decode cc pc = .ok (.lreturn, 1)) (hv : v = r) (hs : σ1 = σ') (ht : τ1 = τ') :
    W p l e R s m args below meth c H locs 0 0 (MQ below (gQl G r σ' τ') args s 0 0 (gA G)) (F0 m pc ls [.long v]) := by
  subst hv; subst hs; subst ht
  exact W.lret C.1 C.2.1 hr (fun t ht hw => ⟨⟨v, (σ1, τ1), rfl, ⟨rfl, rfl⟩, gP_of hW C ht hw⟩, hW.2.2.F ht⟩) hW.2.2.2.2 hd hlk
theorem g_vret (C : gCx p s m args c G cc nL own) (hr : meth.sig.returnType = none) (hlk : meth.locks = false) (hW : gW G s σ1 τ1 H locs) (hd : decode cc pc = .ok (.return_, 1)) (hs : σ1 = σ') (ht : τ1 = τ') :
    W p l e R s m args below meth c H locs 0 0 (MQ below (gQv G σ' τ') args s 0 0 (gA G)) (F0 m pc ls []) := by
  subst hs; subst ht
  exact W.vret C.1 C.2.1 hr (fun t ht hw => ⟨⟨(σ1, τ1), rfl, rfl, gP_of hW C ht hw⟩, hW.2.2.F ht⟩) hW.2.2.2.2 hd hlk
/-- getfield -/
theorem g_get {Cn : String} {T : u_T} {N ci index i : Nat} {fs : List Value} {v : Value} (C : gCx p s m args c G cc nL own) (hW : gW G s σ τ H locs) (hi : i < 112) (he : gL G i (σ i) (τ i) = .inr (ci, fs)) (hc : vwCl[ci]? = some (Cn, T, N)) (hin : ∀ w ∈ u_ws Cn T N, w ∈ gAll) (k : Nat) (hk : k < N) (h1 : (T k).1 = Cn)
    (hlink : Cond.fieldLink own index Cn (T k).2.1 (T k).2.2.1 ∈ gAll) (hv : fs[k]? = some v) (hdg : decode cc pc = .ok (.getfield index, 3))
    (kk : W p l e R s m args below meth c H locs cells slots Q (F0 m (pc + 3) ls (v :: rest))) : W p l e R s m args below meth c H locs cells slots Q (F0 m pc ls (.ref (gAd G i) :: rest)) :=
  va_get (D := G.1) (ci := ci) (v := v) (C := Cn) (T := T) (N := N) C.1 C.2.1 C.2.2.2.2.1 hin C.2.2.2.1 C.2.2.2.2.2.1 hW.1 i ((gws_at hi).trans (by rw [he])) hc k hk (C.2.2.2.2.1 _ hlink) (fun x hx => by rw [← h1]; exact hx) hv hdg kk
/-- putfield -/
theorem g_put {Cn : String} {T : u_T} {N ci index i : Nat} {fs : List Value} {v : Value} {ty : FieldType} {f' : Nat → Int32} {t' : Int64} (C : gCx p s m args c G cc nL own) (hW : gW G s σ τ H locs) (hi : i < 112) (he : gL G i (σ i) (τ i) = .inr (ci, fs)) (hc : vwCl[ci]? = some (Cn, T, N)) (hin : ∀ w ∈ u_ws Cn T N, w ∈ gAll)
    (ty0 : Nat → FieldType) (hty : ∀ k, k < N → parseFieldDescriptor (T k).2.2.1 = some (ty0 k)) (hnm : ∀ a, a < N → ∀ b, b < N → a ≠ b → (T a).2.1 ≠ (T b).2.1) (k : Nat) (hk : k < N) (h1 : (T k).1 = Cn)
    (hlink : Cond.fieldLink own index Cn (T k).2.1 (T k).2.2.1 ∈ gAll) (hfin : (T k).2.2.2 = false) (hd : parseFieldDescriptor (T k).2.2.1 = some ty) (hn : narrow ty v = v) (hfit : fits ty v = true) (hl : k < fs.length) (he' : gL G i f' t' = .inr (ci, fs.set k v)) (hdg : decode cc pc = .ok (.putfield index, 3))
    (kk : ∀ (H1 : Heap) (locs1 : List Loc), gW G s (va_up σ i f') (va_up τ i t') H1 locs1 → W p l e R s m args below meth c H1 locs1 cells slots Q (F0 m (pc + 3) ls rest)) : W p l e R s m args below meth c H locs cells slots Q (F0 m pc ls (v :: .ref (gAd G i) :: rest)) := by
  refine va_put (D := G.1) (ci := ci) (v := v) (ty := ty) (C := Cn) (T := T) (N := N) C.1 C.2.1 C.2.2.2.2.1 hin ty0 hty hnm C.2.2.2.1 C.2.2.2.2.2.1 hW.1 hW.2.1 hW.2.2 i ((gws_at hi).trans (by rw [he])) hc k hk (C.2.2.2.2.1 _ hlink) (fun x hx => by rw [← h1]; exact hx) hfin hd hn hfit hl hdg (fun H1 locs1 hP hD hS => ?_)
  rw [← he', gws_set hi] at hP hD
  exact kk H1 locs1 ⟨hP, hD, hS⟩
/-- iaload at a known place -/
theorem g_ald {i : Nat} {j v : Int32} (k : Nat) (C : gCx p s m args c G cc nL own) (hW : gW G s σ τ H locs) (hi : i < 112) (hk : gkind i = 11) (hj : j = nI k) (hlt : k < glen i) (hsm : glen i < 2 ^ 31) (hv : σ i k = v) (hdg : decode cc pc = .ok (.iaload, 1))
    (kk : W p l e R s m args below meth c H locs cells slots Q (F0 m (pc + 1) ls (.int v :: rest))) : W p l e R s m args below meth c H locs cells slots Q (F0 m pc ls (.int j :: .ref (gAd G i) :: rest)) := by
  subst hj
  refine va_iald (D := G.1) C.1 C.2.1 C.2.2.2.2.2.1 hW.1 i 0 ((gws_at hi).trans (by rw [gL_11 hk])) rfl (vp_in_nI hlt hsm) hdg ?_
  rw [nI_clamp (Nat.lt_trans hlt hsm), hv]
  exact kk
theorem g_zald {i : Nat} {j v : Int32} (k : Nat) (C : gCx p s m args c G cc nL own) (hW : gW G s σ τ H locs) (hi : i < 112) (hk : gkind i = 12) (hj : j = nI k) (hlt : k < glen i) (hsm : glen i < 2 ^ 31) (hv : σ i k = v) (hdg : decode cc pc = .ok (.baload, 1))
    (kk : W p l e R s m args below meth c H locs cells slots Q (F0 m (pc + 1) ls (.int v :: rest))) : W p l e R s m args below meth c H locs cells slots Q (F0 m pc ls (.int j :: .ref (gAd G i) :: rest)) := by
  subst hj
  refine va_zald (D := G.1) C.1 C.2.1 C.2.2.2.2.2.1 hW.1 i 1 ((gws_at hi).trans (by rw [gL_12 hk])) rfl (vp_in_nI hlt hsm) hdg ?_
  rw [nI_clamp (Nat.lt_trans hlt hsm), hv]
  exact kk
theorem g_aald {i : Nat} {j : Int32} (k : Nat) (C : gCx p s m args c G cc nL own) (hW : gW G s σ τ H locs) (hi : i < 112) (hk : gkind i = 13) (hj : j = nI k) (hlt : k < glen i) (hsm : glen i < 2 ^ 31) (hdg : decode cc pc = .ok (.aaload, 1))
    (kk : W p l e R s m args below meth c H locs cells slots Q (F0 m (pc + 1) ls (.ref (gAd G (i + 1 + 5 * k)) :: rest))) : W p l e R s m args below meth c H locs cells slots Q (F0 m pc ls (.int j :: .ref (gAd G i) :: rest)) := by
  subst hj
  refine va_aldq (D := G.1) C.1 C.2.1 C.2.2.2.2.2.1 hW.1 i 2 ((gws_at hi).trans (by rw [gL_13 hk])) rfl (vp_in_nI hlt hsm) hdg ?_
  rw [nI_clamp (Nat.lt_trans hlt hsm)]
  exact kk
theorem g_ast {i : Nat} {j x : Int32} (k : Nat) (C : gCx p s m args c G cc nL own) (hW : gW G s σ τ H locs) (hi : i < 112) (hk : gkind i = 11) (hj : j = nI k) (hlt : k < glen i) (hsm : glen i < 2 ^ 31) (hdg : decode cc pc = .ok (.iastore, 1))
    (kk : ∀ (H1 : Heap) (locs1 : List Loc), gW G s (gu σ i k x) τ H1 locs1 → W p l e R s m args below meth c H1 locs1 cells slots Q (F0 m (pc + 1) ls rest)) : W p l e R s m args below meth c H locs cells slots Q (F0 m pc ls (.int x :: .int j :: .ref (gAd G i) :: rest)) := by
  subst hj
  refine va_iast (D := G.1) C.1 C.2.1 C.2.2.2.2.2.1 hW.1 hW.2.1 hW.2.2 i 0 ((gws_at hi).trans (by rw [gL_11 hk])) rfl (vp_in_nI hlt hsm) hdg (fun H1 locs1 hP hD hS => ?_)
  rw [nI_clamp (Nat.lt_trans hlt hsm), ← gL_11 (t := τ i) hk, gws_set hi, gup_self] at hP hD
  exact kk H1 locs1 ⟨hP, hD, hS⟩
theorem g_zast {i : Nat} {j x : Int32} (k : Nat) (C : gCx p s m args c G cc nL own) (hW : gW G s σ τ H locs) (hi : i < 112) (hk : gkind i = 12) (hj : j = nI k) (hlt : k < glen i) (hsm : glen i < 2 ^ 31) (hx : vp_nar .boolean x = x) (hdg : decode cc pc = .ok (.bastore, 1))
    (kk : ∀ (H1 : Heap) (locs1 : List Loc), gW G s (gu σ i k x) τ H1 locs1 → W p l e R s m args below meth c H1 locs1 cells slots Q (F0 m (pc + 1) ls rest)) : W p l e R s m args below meth c H locs cells slots Q (F0 m pc ls (.int x :: .int j :: .ref (gAd G i) :: rest)) := by
  subst hj
  refine va_zast (D := G.1) C.1 C.2.1 C.2.2.2.2.2.1 hW.1 hW.2.1 hW.2.2 i 1 ((gws_at hi).trans (by rw [gL_12 hk])) rfl (vp_in_nI hlt hsm) hdg (fun H1 locs1 hP hD hS => ?_)
  rw [nI_clamp (Nat.lt_trans hlt hsm), hx, ← gL_12 (t := τ i) hk, gws_set hi, gup_self] at hP hD
  exact kk H1 locs1 ⟨hP, hD, hS⟩
/-- System.arraycopy of a whole row's first n places onto another's -/
theorem g_copy {i j index n : Nat} {nn : Int32} (C : gCx p s m args c G cc nL own) (hW : gW G s σ τ H locs) (hsz : ls.size = nL) (hlink : Cond.methodLink own index arraycopyName ∈ gAll) (hi : i < 112) (hj : j < 112) (hki : gkind i = 11) (hkj : gkind j = 11) (hnn : nn = nI n) (hni : n ≤ glen i) (hnj : n ≤ glen j) (hsm : n < 2 ^ 31)
    (hframes : 1 ≤ R.frames) (hlocals : (rest.map fun v => v.category).sum + (nativeFrameWords "java/lang/System" "arraycopy" 5 + 11) ≤ R.locals) (hdg : decode cc pc = .ok (.invokestatic index, 3))
    (kk : ∀ (H1 : Heap) (locs1 : List Loc), gW G s (va_up σ j (va_cpy (σ i) (σ j) 0 0 n)) τ H1 locs1 → W p l e R s m args below meth c H1 locs1 cells slots Q (F0 m (pc + 3) ls rest)) : W p l e R s m args below meth c H locs cells slots Q (F0 m pc ls (.int nn :: .int 0 :: .ref (gAd G j) :: .int 0 :: .ref (gAd G i) :: rest)) := by
  subst hnn
  have e0 : (0 : Int32).toNatClampNeg = 0 := rfl
  refine va_copyi (D := G.1) (ty := .int) C.1 C.2.1 (C.2.2.1.trans hsz.symm) C.2.2.2.1 (C.2.2.2.2.1 _ hlink) (C.2.2.2.2.1 _ kna_ac) (C.2.2.2.2.1 _ kst_ac) (C.2.2.2.2.1 _ kini_Sys) C.2.2.2.2.2.1 hW.1 hW.2.1 hW.2.2 i j 0 0 ((gws_at hi).trans (by rw [gL_11 hki])) ((gws_at hj).trans (by rw [gL_11 hkj])) rfl rfl rfl
    (by decide) (by decide) (nI_pos hsm) (by rw [e0, nI_clamp hsm]; omega) (by rw [e0, nI_clamp hsm]; omega) (fun _ _ => rfl) hframes hlocals hdg (fun H1 locs1 hP hD hS => ?_)
  rw [nI_clamp hsm, e0, ← gL_11 (t := τ j) hkj, gws_set hj, gup_self] at hP hD
  exact kk H1 locs1 ⟨hP, hD, hS⟩
theorem g_max {x y : Int32} {index : Nat} (C : gCx p s m args c G cc nL own) (hsz : ls.size = nL) (hlink : Cond.methodLink own index Lib.Math.max.name ∈ gAll) (hframes : 1 ≤ R.frames) (hlocals : (rest.map fun v => v.category).sum + 13 ≤ R.locals) (hc : cells ≤ R.cells) (hs : slots ≤ R.slots) (hdg : decode cc pc = .ok (.invokestatic index, 3))
    (kk : W p l e R s m args below meth c H locs cells slots Q (F0 m (pc + 3) ls (.int (if x < y then y else x) :: rest))) : W p l e R s m args below meth c H locs cells slots Q (F0 m pc ls (.int y :: .int x :: rest)) :=
  va_mmax C.1 C.2.1 (C.2.2.1.trans hsz.symm) C.2.2.2.1 (C.2.2.2.2.1 _ hlink) (C.2.2.2.2.1 _ kst_max) (C.2.2.2.2.1 _ kini_Math) (C.2.2.2.2.1 _ kco_max) hframes hlocals hc hs hdg kk
theorem g_min {x y : Int32} {index : Nat} (C : gCx p s m args c G cc nL own) (hsz : ls.size = nL) (hlink : Cond.methodLink own index Lib.Math.min.name ∈ gAll) (hframes : 1 ≤ R.frames) (hlocals : (rest.map fun v => v.category).sum + 13 ≤ R.locals) (hc : cells ≤ R.cells) (hs : slots ≤ R.slots) (hdg : decode cc pc = .ok (.invokestatic index, 3))
    (kk : W p l e R s m args below meth c H locs cells slots Q (F0 m (pc + 3) ls (.int (if y < x then y else x) :: rest))) : W p l e R s m args below meth c H locs cells slots Q (F0 m pc ls (.int y :: .int x :: rest)) :=
  va_mmin C.1 C.2.1 (C.2.2.1.trans hsz.symm) C.2.2.2.1 (C.2.2.2.2.1 _ hlink) (C.2.2.2.2.1 _ kst_min) (C.2.2.2.2.1 _ kini_Math) (C.2.2.2.2.1 _ kco_min) hframes hlocals hc hs hdg kk
theorem g_abs {x : Int32} {index : Nat} (C : gCx p s m args c G cc nL own) (hsz : ls.size = nL) (hlink : Cond.methodLink own index Lib.Math.abs.name ∈ gAll) (hframes : 1 ≤ R.frames) (hlocals : (rest.map fun v => v.category).sum + 13 ≤ R.locals) (hc : cells ≤ R.cells) (hs : slots ≤ R.slots) (hdg : decode cc pc = .ok (.invokestatic index, 3))
    (kk : W p l e R s m args below meth c H locs cells slots Q (F0 m (pc + 3) ls (.int (if 0 ≤ x then x else 0 - x) :: rest))) : W p l e R s m args below meth c H locs cells slots Q (F0 m pc ls (.int x :: rest)) :=
  va_mabs C.1 C.2.1 (C.2.2.1.trans hsz.symm) C.2.2.2.1 (C.2.2.2.2.1 _ hlink) (C.2.2.2.2.1 _ kst_abs) (C.2.2.2.2.1 _ kini_Math) (C.2.2.2.2.1 _ kco_abs) hframes hlocals hc hs hdg kk
theorem g_callvI {r : Int32} {y : MethodName} {cy : ByteArray} {ny n index fr lo : Nat} {ret : Option FieldType} {As st : List Value} {Cn : String} (C : gCx p s m args c G cc nL own) (hW : gW G s σ τ H locs) (ok : gVok own index Cn y cy ny ret n) (i : Nat) (hi : i < 112) {ci : Nat} {fs : List Value} {T : u_T} {N : Nat} (he : gL G i (σ i) (τ i) = .inr (ci, fs)) (hc : vwCl[ci]? = some (Cn, T, N)) (hM : gI l y cy ny ret fr lo G (.ref (gAd G i) :: As) σ τ r σ' τ') (hR : fr + 1 ≤ R.frames ∧ 8 + (ny + 11) + lo ≤ R.locals) (hf : cells ≤ R.cells ∧ slots ≤ R.slots) (hn : As.length = n) (hsz : ls.size = nL) (hst : st = As.reverse ++ .ref (gAd G i) :: rest) (hrm : (rest.map fun v => v.category).sum ≤ 8) (hdg : decode cc pc = .ok (.invokevirtual index, 3))
    (kk : ∀ (H1 : Heap) (locs1 : List Loc), gW G s σ' τ' H1 locs1 → W p l e R s m args below meth c H1 locs1 cells slots Q (F0 m (pc + 3) ls (.int r :: rest))) : W p l e R s m args below meth c H locs cells slots Q (F0 m pc ls st) := by
  subst hst
  refine va_calli (A0 := gA G) (A1 := gA G) (va_runV (As := As) (rest := rest) (⟨C.1, C.2.1, C.2.2.1, C.2.2.2.1, C.2.2.2.2.1⟩ : CallFix p m c cc nL s args gAll own) hM (cwV n C.2.2.2.2.1 ok.1 rfl rfl rfl ok.2 hR) ⟨gP_blind G σ τ _, va_recv C.2.2.2.2.2.1 hW.1 hc ((gws_at hi).trans (by rw [he])), fun U hU hw => ⟨rfl, gP_of hW C hU hw⟩⟩ rfl hn hsz rfl (lv_room hrm) hdg hf) hW.2.2 (fun _ _ h => h) (fun _ h => h) (fun r0 u t H1 locs1 ht hvm hw hB _ _ hS => ?_)
  obtain ⟨rfl, rfl⟩ := hw
  exact kk H1 locs1 ⟨by rw [← ht]; exact hB.1, hB.2.2.1, hS⟩
theorem g_callvJ {r : Int64} {y : MethodName} {cy : ByteArray} {ny n index fr lo : Nat} {ret : Option FieldType} {As st : List Value} {Cn : String} (C : gCx p s m args c G cc nL own) (hW : gW G s σ τ H locs) (ok : gVok own index Cn y cy ny ret n) (i : Nat) (hi : i < 112) {ci : Nat} {fs : List Value} {T : u_T} {N : Nat} (he : gL G i (σ i) (τ i) = .inr (ci, fs)) (hc : vwCl[ci]? = some (Cn, T, N)) (hM : gJ l y cy ny ret fr lo G (.ref (gAd G i) :: As) σ τ r σ' τ') (hR : fr + 1 ≤ R.frames ∧ 8 + (ny + 11) + lo ≤ R.locals) (hf : cells ≤ R.cells ∧ slots ≤ R.slots) (hn : As.length = n) (hsz : ls.size = nL) (hst : st = As.reverse ++ .ref (gAd G i) :: rest) (hrm : (rest.map fun v => v.category).sum ≤ 8) (hdg : decode cc pc = .ok (.invokevirtual index, 3))
    (kk : ∀ (H1 : Heap) (locs1 : List Loc), gW G s σ' τ' H1 locs1 → W p l e R s m args below meth c H1 locs1 cells slots Q (F0 m (pc + 3) ls (.long r :: rest))) : W p l e R s m args below meth c H locs cells slots Q (F0 m pc ls st) := by
  subst hst
  refine va_calll (A0 := gA G) (A1 := gA G) (va_runV (As := As) (rest := rest) (⟨C.1, C.2.1, C.2.2.1, C.2.2.2.1, C.2.2.2.2.1⟩ : CallFix p m c cc nL s args gAll own) hM (cwV n C.2.2.2.2.1 ok.1 rfl rfl rfl ok.2 hR) ⟨gP_blind G σ τ _, va_recv C.2.2.2.2.2.1 hW.1 hc ((gws_at hi).trans (by rw [he])), fun U hU hw => ⟨rfl, gP_of hW C hU hw⟩⟩ rfl hn hsz rfl (lv_room hrm) hdg hf) hW.2.2 (fun _ _ h => h) (fun _ h => h) (fun r0 u t H1 locs1 ht hvm hw hB _ _ hS => ?_)
  obtain ⟨rfl, rfl⟩ := hw
  exact kk H1 locs1 ⟨by rw [← ht]; exact hB.1, hB.2.2.1, hS⟩
theorem g_callvV {y : MethodName} {cy : ByteArray} {ny n index fr lo : Nat} {ret : Option FieldType} {As st : List Value} {Cn : String} (C : gCx p s m args c G cc nL own) (hW : gW G s σ τ H locs) (ok : gVok own index Cn y cy ny ret n) (i : Nat) (hi : i < 112) {ci : Nat} {fs : List Value} {T : u_T} {N : Nat} (he : gL G i (σ i) (τ i) = .inr (ci, fs)) (hc : vwCl[ci]? = some (Cn, T, N)) (hM : gV l y cy ny ret fr lo G (.ref (gAd G i) :: As) σ τ σ' τ') (hR : fr + 1 ≤ R.frames ∧ 8 + (ny + 11) + lo ≤ R.locals) (hf : cells ≤ R.cells ∧ slots ≤ R.slots) (hn : As.length = n) (hsz : ls.size = nL) (hst : st = As.reverse ++ .ref (gAd G i) :: rest) (hrm : (rest.map fun v => v.category).sum ≤ 8) (hdg : decode cc pc = .ok (.invokevirtual index, 3))
    (kk : ∀ (H1 : Heap) (locs1 : List Loc), gW G s σ' τ' H1 locs1 → W p l e R s m args below meth c H1 locs1 cells slots Q (F0 m (pc + 3) ls (rest))) : W p l e R s m args below meth c H locs cells slots Q (F0 m pc ls st) := by
  subst hst
  refine va_callv (A0 := gA G) (A1 := gA G) (va_runV (As := As) (rest := rest) (⟨C.1, C.2.1, C.2.2.1, C.2.2.2.1, C.2.2.2.2.1⟩ : CallFix p m c cc nL s args gAll own) hM (cwV n C.2.2.2.2.1 ok.1 rfl rfl rfl ok.2 hR) ⟨gP_blind G σ τ _, va_recv C.2.2.2.2.2.1 hW.1 hc ((gws_at hi).trans (by rw [he])), fun U hU hw => ⟨rfl, gP_of hW C hU hw⟩⟩ rfl hn hsz rfl (lv_room hrm) hdg hf) hW.2.2 (fun _ _ h => h) (fun _ h => h) (fun u t H1 locs1 ht hvm hw hB _ _ hS => ?_)
  obtain rfl := hw
  exact kk H1 locs1 ⟨by rw [← ht]; exact hB.1, hB.2.2.1, hS⟩
theorem g_callsI {r : Int32} {y : MethodName} {cy : ByteArray} {ny n index fr lo : Nat} {ret : Option FieldType} {As st : List Value} (C : gCx p s m args c G cc nL own) (hW : gW G s σ τ H locs) (ok : gSok own index y cy ny ret n) (hM : gI l y cy ny ret fr lo G As σ τ r σ' τ') (hR : fr + 1 ≤ R.frames ∧ 8 + (ny + 11) + lo ≤ R.locals) (hf : cells ≤ R.cells ∧ slots ≤ R.slots) (hn : As.length = n) (hsz : ls.size = nL) (hst : st = As.reverse ++ rest) (hrm : (rest.map fun v => v.category).sum ≤ 8) (hdg : decode cc pc = .ok (.invokestatic index, 3))
    (kk : ∀ (H1 : Heap) (locs1 : List Loc), gW G s σ' τ' H1 locs1 → W p l e R s m args below meth c H1 locs1 cells slots Q (F0 m (pc + 3) ls (.int r :: rest))) : W p l e R s m args below meth c H locs cells slots Q (F0 m pc ls st) := by
  subst hst
  refine va_calli (A0 := gA G) (A1 := gA G) (va_runS (As := As) (rest := rest) (⟨C.1, C.2.1, C.2.2.1, C.2.2.2.1, C.2.2.2.2.1⟩ : CallFix p m c cc nL s args gAll own) hM ⟨callB_of n C.2.2.2.2.1 ok.1 rfl rfl rfl (C.2.2.2.2.1 _ ok.2.1.2.2) (C.2.2.2.2.1 _ ok.2.1.1) ok.2.2 hR, C.2.2.2.2.1 _ ok.2.1.2.1⟩ ⟨gP_blind G σ τ _, fun U hU hw => ⟨rfl, gP_of hW C hU hw⟩⟩ rfl hn hsz rfl (lv_room hrm) hdg hf) hW.2.2 (fun _ _ h => h) (fun _ h => h) (fun r0 u t H1 locs1 ht hvm hw hB _ _ hS => ?_)
  obtain ⟨rfl, rfl⟩ := hw
  exact kk H1 locs1 ⟨by rw [← ht]; exact hB.1, hB.2.2.1, hS⟩
theorem g_callsJ {r : Int64} {y : MethodName} {cy : ByteArray} {ny n index fr lo : Nat} {ret : Option FieldType} {As st : List Value} (C : gCx p s m args c G cc nL own) (hW : gW G s σ τ H locs) (ok : gSok own index y cy ny ret n) (hM : gJ l y cy ny ret fr lo G As σ τ r σ' τ') (hR : fr + 1 ≤ R.frames ∧ 8 + (ny + 11) + lo ≤ R.locals) (hf : cells ≤ R.cells ∧ slots ≤ R.slots) (hn : As.length = n) (hsz : ls.size = nL) (hst : st = As.reverse ++ rest) (hrm : (rest.map fun v => v.category).sum ≤ 8) (hdg : decode cc pc = .ok (.invokestatic index, 3))
    (kk : ∀ (H1 : Heap) (locs1 : List Loc), gW G s σ' τ' H1 locs1 → W p l e R s m args below meth c H1 locs1 cells slots Q (F0 m (pc + 3) ls (.long r :: rest))) : W p l e R s m args below meth c H locs cells slots Q (F0 m pc ls st) := by
  subst hst
  refine va_calll (A0 := gA G) (A1 := gA G) (va_runS (As := As) (rest := rest) (⟨C.1, C.2.1, C.2.2.1, C.2.2.2.1, C.2.2.2.2.1⟩ : CallFix p m c cc nL s args gAll own) hM ⟨callB_of n C.2.2.2.2.1 ok.1 rfl rfl rfl (C.2.2.2.2.1 _ ok.2.1.2.2) (C.2.2.2.2.1 _ ok.2.1.1) ok.2.2 hR, C.2.2.2.2.1 _ ok.2.1.2.1⟩ ⟨gP_blind G σ τ _, fun U hU hw => ⟨rfl, gP_of hW C hU hw⟩⟩ rfl hn hsz rfl (lv_room hrm) hdg hf) hW.2.2 (fun _ _ h => h) (fun _ h => h) (fun r0 u t H1 locs1 ht hvm hw hB _ _ hS => ?_)
  obtain ⟨rfl, rfl⟩ := hw
  exact kk H1 locs1 ⟨by rw [← ht]; exact hB.1, hB.2.2.1, hS⟩
theorem g_callsV {y : MethodName} {cy : ByteArray} {ny n index fr lo : Nat} {ret : Option FieldType} {As st : List Value} (C : gCx p s m args c G cc nL own) (hW : gW G s σ τ H locs) (ok : gSok own index y cy ny ret n) (hM : gV l y cy ny ret fr lo G As σ τ σ' τ') (hR : fr + 1 ≤ R.frames ∧ 8 + (ny + 11) + lo ≤ R.locals) (hf : cells ≤ R.cells ∧ slots ≤ R.slots) (hn : As.length = n) (hsz : ls.size = nL) (hst : st = As.reverse ++ rest) (hrm : (rest.map fun v => v.category).sum ≤ 8) (hdg : decode cc pc = .ok (.invokestatic index, 3))
    (kk : ∀ (H1 : Heap) (locs1 : List Loc), gW G s σ' τ' H1 locs1 → W p l e R s m args below meth c H1 locs1 cells slots Q (F0 m (pc + 3) ls (rest))) : W p l e R s m args below meth c H locs cells slots Q (F0 m pc ls st) := by
  subst hst
  refine va_callv (A0 := gA G) (A1 := gA G) (va_runS (As := As) (rest := rest) (⟨C.1, C.2.1, C.2.2.1, C.2.2.2.1, C.2.2.2.2.1⟩ : CallFix p m c cc nL s args gAll own) hM ⟨callB_of n C.2.2.2.2.1 ok.1 rfl rfl rfl (C.2.2.2.2.1 _ ok.2.1.2.2) (C.2.2.2.2.1 _ ok.2.1.1) ok.2.2 hR, C.2.2.2.2.1 _ ok.2.1.2.1⟩ ⟨gP_blind G σ τ _, fun U hU hw => ⟨rfl, gP_of hW C hU hw⟩⟩ rfl hn hsz rfl (lv_room hrm) hdg hf) hW.2.2 (fun _ _ h => h) (fun _ h => h) (fun u t H1 locs1 ht hvm hw hB _ _ hS => ?_)
  obtain rfl := hw
  exact kk H1 locs1 ⟨by rw [← ht]; exact hB.1, hB.2.2.1, hS⟩
theorem g_callnI {r : Int32} {y : MethodName} {cy : ByteArray} {ny n index fr lo : Nat} {ret : Option FieldType} {As st : List Value} {host : String} (hl : va_Nw (.methodLinkNest own index y host) s) (C : gCx p s m args c G cc nL own) (hW : gW G s σ τ H locs) (ok : gNok y cy ny ret n) (hM : gI l y cy ny ret fr lo G As σ τ r σ' τ') (hR : fr + 1 ≤ R.frames ∧ 8 + (ny + 11) + lo ≤ R.locals) (hf : cells ≤ R.cells ∧ slots ≤ R.slots) (hn : As.length = n) (hsz : ls.size = nL) (hst : st = As.reverse ++ rest) (hrm : (rest.map fun v => v.category).sum ≤ 8) (hdg : decode cc pc = .ok (.invokestatic index, 3))
    (kk : ∀ (H1 : Heap) (locs1 : List Loc), gW G s σ' τ' H1 locs1 → W p l e R s m args below meth c H1 locs1 cells slots Q (F0 m (pc + 3) ls (.int r :: rest))) : W p l e R s m args below meth c H locs cells slots Q (F0 m pc ls st) := by
  subst hst
  refine va_calli (A0 := gA G) (A1 := gA G) (va_runSN (As := As) (rest := rest) (⟨C.1, C.2.1, C.2.2.1, C.2.2.2.1, C.2.2.2.2.1⟩ : CallFix p m c cc nL s args gAll own) hM ⟨va_cnB n C.2.2.2.2.1 ok.1 rfl rfl rfl hl (C.2.2.2.2.1 _ ok.2.1.2) ok.2.2 hR, C.2.2.2.2.1 _ ok.2.1.1, trivial⟩ ⟨gP_blind G σ τ _, fun U hU hw => ⟨rfl, gP_of hW C hU hw⟩⟩ rfl hn hsz rfl (lv_room hrm) hdg hf) hW.2.2 (fun _ _ h => h) (fun _ h => h) (fun r0 u t H1 locs1 ht hvm hw hB _ _ hS => ?_)
  obtain ⟨rfl, rfl⟩ := hw
  exact kk H1 locs1 ⟨by rw [← ht]; exact hB.1, hB.2.2.1, hS⟩
theorem g_callnJ {r : Int64} {y : MethodName} {cy : ByteArray} {ny n index fr lo : Nat} {ret : Option FieldType} {As st : List Value} {host : String} (hl : va_Nw (.methodLinkNest own index y host) s) (C : gCx p s m args c G cc nL own) (hW : gW G s σ τ H locs) (ok : gNok y cy ny ret n) (hM : gJ l y cy ny ret fr lo G As σ τ r σ' τ') (hR : fr + 1 ≤ R.frames ∧ 8 + (ny + 11) + lo ≤ R.locals) (hf : cells ≤ R.cells ∧ slots ≤ R.slots) (hn : As.length = n) (hsz : ls.size = nL) (hst : st = As.reverse ++ rest) (hrm : (rest.map fun v => v.category).sum ≤ 8) (hdg : decode cc pc = .ok (.invokestatic index, 3))
    (kk : ∀ (H1 : Heap) (locs1 : List Loc), gW G s σ' τ' H1 locs1 → W p l e R s m args below meth c H1 locs1 cells slots Q (F0 m (pc + 3) ls (.long r :: rest))) : W p l e R s m args below meth c H locs cells slots Q (F0 m pc ls st) := by
  subst hst
  refine va_calll (A0 := gA G) (A1 := gA G) (va_runSN (As := As) (rest := rest) (⟨C.1, C.2.1, C.2.2.1, C.2.2.2.1, C.2.2.2.2.1⟩ : CallFix p m c cc nL s args gAll own) hM ⟨va_cnB n C.2.2.2.2.1 ok.1 rfl rfl rfl hl (C.2.2.2.2.1 _ ok.2.1.2) ok.2.2 hR, C.2.2.2.2.1 _ ok.2.1.1, trivial⟩ ⟨gP_blind G σ τ _, fun U hU hw => ⟨rfl, gP_of hW C hU hw⟩⟩ rfl hn hsz rfl (lv_room hrm) hdg hf) hW.2.2 (fun _ _ h => h) (fun _ h => h) (fun r0 u t H1 locs1 ht hvm hw hB _ _ hS => ?_)
  obtain ⟨rfl, rfl⟩ := hw
  exact kk H1 locs1 ⟨by rw [← ht]; exact hB.1, hB.2.2.1, hS⟩
theorem g_callnV {y : MethodName} {cy : ByteArray} {ny n index fr lo : Nat} {ret : Option FieldType} {As st : List Value} {host : String} (hl : va_Nw (.methodLinkNest own index y host) s) (C : gCx p s m args c G cc nL own) (hW : gW G s σ τ H locs) (ok : gNok y cy ny ret n) (hM : gV l y cy ny ret fr lo G As σ τ σ' τ') (hR : fr + 1 ≤ R.frames ∧ 8 + (ny + 11) + lo ≤ R.locals) (hf : cells ≤ R.cells ∧ slots ≤ R.slots) (hn : As.length = n) (hsz : ls.size = nL) (hst : st = As.reverse ++ rest) (hrm : (rest.map fun v => v.category).sum ≤ 8) (hdg : decode cc pc = .ok (.invokestatic index, 3))
    (kk : ∀ (H1 : Heap) (locs1 : List Loc), gW G s σ' τ' H1 locs1 → W p l e R s m args below meth c H1 locs1 cells slots Q (F0 m (pc + 3) ls (rest))) : W p l e R s m args below meth c H locs cells slots Q (F0 m pc ls st) := by
  subst hst
  refine va_callv (A0 := gA G) (A1 := gA G) (va_runSN (As := As) (rest := rest) (⟨C.1, C.2.1, C.2.2.1, C.2.2.2.1, C.2.2.2.2.1⟩ : CallFix p m c cc nL s args gAll own) hM ⟨va_cnB n C.2.2.2.2.1 ok.1 rfl rfl rfl hl (C.2.2.2.2.1 _ ok.2.1.2) ok.2.2 hR, C.2.2.2.2.1 _ ok.2.1.1, trivial⟩ ⟨gP_blind G σ τ _, fun U hU hw => ⟨rfl, gP_of hW C hU hw⟩⟩ rfl hn hsz rfl (lv_room hrm) hdg hf) hW.2.2 (fun _ _ h => h) (fun _ h => h) (fun u t H1 locs1 ht hvm hw hB _ _ hS => ?_)
  obtain rfl := hw
  exact kk H1 locs1 ⟨by rw [← ht]; exact hB.1, hB.2.2.1, hS⟩
end GROWS
/-- a boolean as the machine has it -/
def bI (b : Bool) : Int32 := if b = true then 1 else 0
theorem bI_t : bI true = 1 := rfl
theorem bI_f : bI false = 0 := rfl
theorem bI_eq0 {b : Bool} : bI b = 0 ↔ b = false := by cases b <;> decide
theorem bI_ne0 {b : Bool} : ¬ bI b = 0 ↔ b = true := by cases b <;> decide
theorem bI_eq1 {b : Bool} : bI b = 1 ↔ b = true := by cases b <;> decide
theorem bI_nar (b : Bool) : narrow .boolean (.int (bI b)) = .int (bI b) := by cases b <;> rfl
theorem bI_vp (b : Bool) : vp_nar .boolean (bI b) = bI b := by cases b <;> rfl
theorem gadd {a b : Int32} {m n : Nat} (ha : a = nI m) (hb : b = nI n) : a + b = nI (m + n) := by rw [ha, hb, nI_add]
theorem gmul {a b : Int32} {m n : Nat} (ha : a = nI m) (hb : b = nI n) : a * b = nI (m * n) := by rw [ha, hb, pk_mul]
theorem gsub {a b : Int32} {m n : Nat} (ha : a = nI m) (hb : b = nI n) (h : n ≤ m) : a - b = nI (m - n) := by rw [ha, hb, pk_sub h]
theorem bI_inj {a b : Bool} : bI a = bI b ↔ a = b := by cases a <;> cases b <;> decide
end
section
section GFLD
variable {p : Program} {l : Launch} {e : Env} {R : Room} {s : State} {m : MethodId} {args : Array Value} {below : List Frame} {meth : Method} {c : Code} {H : Heap} {locs : List Loc} {cells slots : Nat} {Q : State → Prop}
variable {cc : ByteArray} {pc nL : Nat} {ls : Array Slot} {rest : List Value} {G : gG} {σ : gSt} {τ : Nat → Int64}
theorem gf_X4_9 {i : Nat} {v : Int32} (C : gCx p s m args c G cc nL RX4) (hW : gW G s σ τ H locs) (hi : i < 112) (hk : gkind i = 4) (hv : σ i 0 = v) (hdg : decode cc pc = .ok (.getfield 9, 3)) (kk : W p l e R s m args below meth c H locs cells slots Q (F0 m (pc + 3) ls (.int v :: rest))) : W p l e R s m args below meth c H locs cells slots Q (F0 m pc ls (.ref (gAd G i) :: rest)) :=
  g_get C hW hi (gL_4 hk) rfl kin_X4 0 (by decide) rfl kf_X4_9 (by rw [← hv]; rfl) hdg kk
theorem gp_X4_9 {i : Nat} {x : Int32} (C : gCx p s m args c G cc nL RX4) (hW : gW G s σ τ H locs) (hi : i < 112) (hk : gkind i = 4) (hdg : decode cc pc = .ok (.putfield 9, 3)) (kk : ∀ (H1 : Heap) (locs1 : List Loc), gW G s (gu σ i 0 x) τ H1 locs1 → W p l e R s m args below meth c H1 locs1 cells slots Q (F0 m (pc + 3) ls rest)) : W p l e R s m args below meth c H locs cells slots Q (F0 m pc ls (.int x :: .ref (gAd G i) :: rest)) :=
  g_put (f' := (upd (σ i) 0 x)) (t' := (τ i)) (ty := .int) C hW hi (gL_4 hk) rfl kin_X4 tyX4 tyX4_ok nmX4 0 (by decide) rfl kf_X4_9 rfl (by decide +kernel) rfl rfl (Nat.le_of_ble_eq_true rfl) (gL_4 hk) hdg (fun H1 l1 h => kk H1 l1 (by rw [gup_self] at h; exact h))
theorem gf_X8_41 {i : Nat} {v : Int32} (C : gCx p s m args c G cc nL RX8) (hW : gW G s σ τ H locs) (hi : i < 112) (hk : gkind i = 4) (hv : σ i 0 = v) (hdg : decode cc pc = .ok (.getfield 41, 3)) (kk : W p l e R s m args below meth c H locs cells slots Q (F0 m (pc + 3) ls (.int v :: rest))) : W p l e R s m args below meth c H locs cells slots Q (F0 m pc ls (.ref (gAd G i) :: rest)) :=
  g_get C hW hi (gL_4 hk) rfl kin_X4 0 (by decide) rfl kf_X8_41 (by rw [← hv]; rfl) hdg kk
theorem gp_X8_41 {i : Nat} {x : Int32} (C : gCx p s m args c G cc nL RX8) (hW : gW G s σ τ H locs) (hi : i < 112) (hk : gkind i = 4) (hdg : decode cc pc = .ok (.putfield 41, 3)) (kk : ∀ (H1 : Heap) (locs1 : List Loc), gW G s (gu σ i 0 x) τ H1 locs1 → W p l e R s m args below meth c H1 locs1 cells slots Q (F0 m (pc + 3) ls rest)) : W p l e R s m args below meth c H locs cells slots Q (F0 m pc ls (.int x :: .ref (gAd G i) :: rest)) :=
  g_put (f' := (upd (σ i) 0 x)) (t' := (τ i)) (ty := .int) C hW hi (gL_4 hk) rfl kin_X4 tyX4 tyX4_ok nmX4 0 (by decide) rfl kf_X8_41 rfl (by decide +kernel) rfl rfl (Nat.le_of_ble_eq_true rfl) (gL_4 hk) hdg (fun H1 l1 h => kk H1 l1 (by rw [gup_self] at h; exact h))
theorem gf_X1_31 {i : Nat} {v : Int32} (C : gCx p s m args c G cc nL RX1) (hW : gW G s σ τ H locs) (hi : i < 112) (hk : gkind i = 4) (hv : σ i 0 = v) (hdg : decode cc pc = .ok (.getfield 31, 3)) (kk : W p l e R s m args below meth c H locs cells slots Q (F0 m (pc + 3) ls (.int v :: rest))) : W p l e R s m args below meth c H locs cells slots Q (F0 m pc ls (.ref (gAd G i) :: rest)) :=
  g_get C hW hi (gL_4 hk) rfl kin_X4 0 (by decide) rfl kf_X1_31 (by rw [← hv]; rfl) hdg kk
theorem gp_X1_31 {i : Nat} {x : Int32} (C : gCx p s m args c G cc nL RX1) (hW : gW G s σ τ H locs) (hi : i < 112) (hk : gkind i = 4) (hdg : decode cc pc = .ok (.putfield 31, 3)) (kk : ∀ (H1 : Heap) (locs1 : List Loc), gW G s (gu σ i 0 x) τ H1 locs1 → W p l e R s m args below meth c H1 locs1 cells slots Q (F0 m (pc + 3) ls rest)) : W p l e R s m args below meth c H locs cells slots Q (F0 m pc ls (.int x :: .ref (gAd G i) :: rest)) :=
  g_put (f' := (upd (σ i) 0 x)) (t' := (τ i)) (ty := .int) C hW hi (gL_4 hk) rfl kin_X4 tyX4 tyX4_ok nmX4 0 (by decide) rfl kf_X1_31 rfl (by decide +kernel) rfl rfl (Nat.le_of_ble_eq_true rfl) (gL_4 hk) hdg (fun H1 l1 h => kk H1 l1 (by rw [gup_self] at h; exact h))
theorem gf_X6_81 {i : Nat} {v : Int32} (C : gCx p s m args c G cc nL RX6) (hW : gW G s σ τ H locs) (hi : i < 112) (hk : gkind i = 4) (hv : σ i 0 = v) (hdg : decode cc pc = .ok (.getfield 81, 3)) (kk : W p l e R s m args below meth c H locs cells slots Q (F0 m (pc + 3) ls (.int v :: rest))) : W p l e R s m args below meth c H locs cells slots Q (F0 m pc ls (.ref (gAd G i) :: rest)) :=
  g_get C hW hi (gL_4 hk) rfl kin_X4 0 (by decide) rfl kf_X6_81 (by rw [← hv]; rfl) hdg kk
theorem gp_X6_81 {i : Nat} {x : Int32} (C : gCx p s m args c G cc nL RX6) (hW : gW G s σ τ H locs) (hi : i < 112) (hk : gkind i = 4) (hdg : decode cc pc = .ok (.putfield 81, 3)) (kk : ∀ (H1 : Heap) (locs1 : List Loc), gW G s (gu σ i 0 x) τ H1 locs1 → W p l e R s m args below meth c H1 locs1 cells slots Q (F0 m (pc + 3) ls rest)) : W p l e R s m args below meth c H locs cells slots Q (F0 m pc ls (.int x :: .ref (gAd G i) :: rest)) :=
  g_put (f' := (upd (σ i) 0 x)) (t' := (τ i)) (ty := .int) C hW hi (gL_4 hk) rfl kin_X4 tyX4 tyX4_ok nmX4 0 (by decide) rfl kf_X6_81 rfl (by decide +kernel) rfl rfl (Nat.le_of_ble_eq_true rfl) (gL_4 hk) hdg (fun H1 l1 h => kk H1 l1 (by rw [gup_self] at h; exact h))
theorem gf_X9_254 {i : Nat} {v : Int32} (C : gCx p s m args c G cc nL RX9) (hW : gW G s σ τ H locs) (hi : i < 112) (hk : gkind i = 4) (hv : σ i 0 = v) (hdg : decode cc pc = .ok (.getfield 254, 3)) (kk : W p l e R s m args below meth c H locs cells slots Q (F0 m (pc + 3) ls (.int v :: rest))) : W p l e R s m args below meth c H locs cells slots Q (F0 m pc ls (.ref (gAd G i) :: rest)) :=
  g_get C hW hi (gL_4 hk) rfl kin_X4 0 (by decide) rfl kf_X9_254 (by rw [← hv]; rfl) hdg kk
theorem gp_X9_254 {i : Nat} {x : Int32} (C : gCx p s m args c G cc nL RX9) (hW : gW G s σ τ H locs) (hi : i < 112) (hk : gkind i = 4) (hdg : decode cc pc = .ok (.putfield 254, 3)) (kk : ∀ (H1 : Heap) (locs1 : List Loc), gW G s (gu σ i 0 x) τ H1 locs1 → W p l e R s m args below meth c H1 locs1 cells slots Q (F0 m (pc + 3) ls rest)) : W p l e R s m args below meth c H locs cells slots Q (F0 m pc ls (.int x :: .ref (gAd G i) :: rest)) :=
  g_put (f' := (upd (σ i) 0 x)) (t' := (τ i)) (ty := .int) C hW hi (gL_4 hk) rfl kin_X4 tyX4 tyX4_ok nmX4 0 (by decide) rfl kf_X9_254 rfl (by decide +kernel) rfl rfl (Nat.le_of_ble_eq_true rfl) (gL_4 hk) hdg (fun H1 l1 h => kk H1 l1 (by rw [gup_self] at h; exact h))
theorem gf_X4_37 {i : Nat} {v : Int32} (C : gCx p s m args c G cc nL RX4) (hW : gW G s σ τ H locs) (hi : i < 112) (hk : gkind i = 4) (hv : σ i 1 = v) (hdg : decode cc pc = .ok (.getfield 37, 3)) (kk : W p l e R s m args below meth c H locs cells slots Q (F0 m (pc + 3) ls (.int v :: rest))) : W p l e R s m args below meth c H locs cells slots Q (F0 m pc ls (.ref (gAd G i) :: rest)) :=
  g_get C hW hi (gL_4 hk) rfl kin_X4 1 (by decide) rfl kf_X4_37 (by rw [← hv]; rfl) hdg kk
theorem gp_X4_37 {i : Nat} {x : Int32} (C : gCx p s m args c G cc nL RX4) (hW : gW G s σ τ H locs) (hi : i < 112) (hk : gkind i = 4) (hdg : decode cc pc = .ok (.putfield 37, 3)) (kk : ∀ (H1 : Heap) (locs1 : List Loc), gW G s (gu σ i 1 x) τ H1 locs1 → W p l e R s m args below meth c H1 locs1 cells slots Q (F0 m (pc + 3) ls rest)) : W p l e R s m args below meth c H locs cells slots Q (F0 m pc ls (.int x :: .ref (gAd G i) :: rest)) :=
  g_put (f' := (upd (σ i) 1 x)) (t' := (τ i)) (ty := .int) C hW hi (gL_4 hk) rfl kin_X4 tyX4 tyX4_ok nmX4 1 (by decide) rfl kf_X4_37 rfl (by decide +kernel) rfl rfl (Nat.le_of_ble_eq_true rfl) (gL_4 hk) hdg (fun H1 l1 h => kk H1 l1 (by rw [gup_self] at h; exact h))
theorem gf_X7_39 {i : Nat} {v : Int32} (C : gCx p s m args c G cc nL RX7) (hW : gW G s σ τ H locs) (hi : i < 112) (hk : gkind i = 4) (hv : σ i 1 = v) (hdg : decode cc pc = .ok (.getfield 39, 3)) (kk : W p l e R s m args below meth c H locs cells slots Q (F0 m (pc + 3) ls (.int v :: rest))) : W p l e R s m args below meth c H locs cells slots Q (F0 m pc ls (.ref (gAd G i) :: rest)) :=
  g_get C hW hi (gL_4 hk) rfl kin_X4 1 (by decide) rfl kf_X7_39 (by rw [← hv]; rfl) hdg kk
theorem gp_X7_39 {i : Nat} {x : Int32} (C : gCx p s m args c G cc nL RX7) (hW : gW G s σ τ H locs) (hi : i < 112) (hk : gkind i = 4) (hdg : decode cc pc = .ok (.putfield 39, 3)) (kk : ∀ (H1 : Heap) (locs1 : List Loc), gW G s (gu σ i 1 x) τ H1 locs1 → W p l e R s m args below meth c H1 locs1 cells slots Q (F0 m (pc + 3) ls rest)) : W p l e R s m args below meth c H locs cells slots Q (F0 m pc ls (.int x :: .ref (gAd G i) :: rest)) :=
  g_put (f' := (upd (σ i) 1 x)) (t' := (τ i)) (ty := .int) C hW hi (gL_4 hk) rfl kin_X4 tyX4 tyX4_ok nmX4 1 (by decide) rfl kf_X7_39 rfl (by decide +kernel) rfl rfl (Nat.le_of_ble_eq_true rfl) (gL_4 hk) hdg (fun H1 l1 h => kk H1 l1 (by rw [gup_self] at h; exact h))
theorem gf_X6_84 {i : Nat} {v : Int32} (C : gCx p s m args c G cc nL RX6) (hW : gW G s σ τ H locs) (hi : i < 112) (hk : gkind i = 4) (hv : σ i 1 = v) (hdg : decode cc pc = .ok (.getfield 84, 3)) (kk : W p l e R s m args below meth c H locs cells slots Q (F0 m (pc + 3) ls (.int v :: rest))) : W p l e R s m args below meth c H locs cells slots Q (F0 m pc ls (.ref (gAd G i) :: rest)) :=
  g_get C hW hi (gL_4 hk) rfl kin_X4 1 (by decide) rfl kf_X6_84 (by rw [← hv]; rfl) hdg kk
theorem gp_X6_84 {i : Nat} {x : Int32} (C : gCx p s m args c G cc nL RX6) (hW : gW G s σ τ H locs) (hi : i < 112) (hk : gkind i = 4) (hdg : decode cc pc = .ok (.putfield 84, 3)) (kk : ∀ (H1 : Heap) (locs1 : List Loc), gW G s (gu σ i 1 x) τ H1 locs1 → W p l e R s m args below meth c H1 locs1 cells slots Q (F0 m (pc + 3) ls rest)) : W p l e R s m args below meth c H locs cells slots Q (F0 m pc ls (.int x :: .ref (gAd G i) :: rest)) :=
  g_put (f' := (upd (σ i) 1 x)) (t' := (τ i)) (ty := .int) C hW hi (gL_4 hk) rfl kin_X4 tyX4 tyX4_ok nmX4 1 (by decide) rfl kf_X6_84 rfl (by decide +kernel) rfl rfl (Nat.le_of_ble_eq_true rfl) (gL_4 hk) hdg (fun H1 l1 h => kk H1 l1 (by rw [gup_self] at h; exact h))
theorem gf_X0_92 {i : Nat} {v : Int32} (C : gCx p s m args c G cc nL RX0) (hW : gW G s σ τ H locs) (hi : i < 112) (hk : gkind i = 4) (hv : σ i 1 = v) (hdg : decode cc pc = .ok (.getfield 92, 3)) (kk : W p l e R s m args below meth c H locs cells slots Q (F0 m (pc + 3) ls (.int v :: rest))) : W p l e R s m args below meth c H locs cells slots Q (F0 m pc ls (.ref (gAd G i) :: rest)) :=
  g_get C hW hi (gL_4 hk) rfl kin_X4 1 (by decide) rfl kf_X0_92 (by rw [← hv]; rfl) hdg kk
theorem gp_X0_92 {i : Nat} {x : Int32} (C : gCx p s m args c G cc nL RX0) (hW : gW G s σ τ H locs) (hi : i < 112) (hk : gkind i = 4) (hdg : decode cc pc = .ok (.putfield 92, 3)) (kk : ∀ (H1 : Heap) (locs1 : List Loc), gW G s (gu σ i 1 x) τ H1 locs1 → W p l e R s m args below meth c H1 locs1 cells slots Q (F0 m (pc + 3) ls rest)) : W p l e R s m args below meth c H locs cells slots Q (F0 m pc ls (.int x :: .ref (gAd G i) :: rest)) :=
  g_put (f' := (upd (σ i) 1 x)) (t' := (τ i)) (ty := .int) C hW hi (gL_4 hk) rfl kin_X4 tyX4 tyX4_ok nmX4 1 (by decide) rfl kf_X0_92 rfl (by decide +kernel) rfl rfl (Nat.le_of_ble_eq_true rfl) (gL_4 hk) hdg (fun H1 l1 h => kk H1 l1 (by rw [gup_self] at h; exact h))
theorem gf_X9_257 {i : Nat} {v : Int32} (C : gCx p s m args c G cc nL RX9) (hW : gW G s σ τ H locs) (hi : i < 112) (hk : gkind i = 4) (hv : σ i 1 = v) (hdg : decode cc pc = .ok (.getfield 257, 3)) (kk : W p l e R s m args below meth c H locs cells slots Q (F0 m (pc + 3) ls (.int v :: rest))) : W p l e R s m args below meth c H locs cells slots Q (F0 m pc ls (.ref (gAd G i) :: rest)) :=
  g_get C hW hi (gL_4 hk) rfl kin_X4 1 (by decide) rfl kf_X9_257 (by rw [← hv]; rfl) hdg kk
theorem gp_X9_257 {i : Nat} {x : Int32} (C : gCx p s m args c G cc nL RX9) (hW : gW G s σ τ H locs) (hi : i < 112) (hk : gkind i = 4) (hdg : decode cc pc = .ok (.putfield 257, 3)) (kk : ∀ (H1 : Heap) (locs1 : List Loc), gW G s (gu σ i 1 x) τ H1 locs1 → W p l e R s m args below meth c H1 locs1 cells slots Q (F0 m (pc + 3) ls rest)) : W p l e R s m args below meth c H locs cells slots Q (F0 m pc ls (.int x :: .ref (gAd G i) :: rest)) :=
  g_put (f' := (upd (σ i) 1 x)) (t' := (τ i)) (ty := .int) C hW hi (gL_4 hk) rfl kin_X4 tyX4 tyX4_ok nmX4 1 (by decide) rfl kf_X9_257 rfl (by decide +kernel) rfl rfl (Nat.le_of_ble_eq_true rfl) (gL_4 hk) hdg (fun H1 l1 h => kk H1 l1 (by rw [gup_self] at h; exact h))
theorem gf_X4_40 {i : Nat} {v : Int32} (C : gCx p s m args c G cc nL RX4) (hW : gW G s σ τ H locs) (hi : i < 112) (hk : gkind i = 4) (hv : σ i 2 = v) (hdg : decode cc pc = .ok (.getfield 40, 3)) (kk : W p l e R s m args below meth c H locs cells slots Q (F0 m (pc + 3) ls (.int v :: rest))) : W p l e R s m args below meth c H locs cells slots Q (F0 m pc ls (.ref (gAd G i) :: rest)) :=
  g_get C hW hi (gL_4 hk) rfl kin_X4 2 (by decide) rfl kf_X4_40 (by rw [← hv]; rfl) hdg kk
theorem gp_X4_40 {i : Nat} {x : Int32} (C : gCx p s m args c G cc nL RX4) (hW : gW G s σ τ H locs) (hi : i < 112) (hk : gkind i = 4) (hdg : decode cc pc = .ok (.putfield 40, 3)) (kk : ∀ (H1 : Heap) (locs1 : List Loc), gW G s (gu σ i 2 x) τ H1 locs1 → W p l e R s m args below meth c H1 locs1 cells slots Q (F0 m (pc + 3) ls rest)) : W p l e R s m args below meth c H locs cells slots Q (F0 m pc ls (.int x :: .ref (gAd G i) :: rest)) :=
  g_put (f' := (upd (σ i) 2 x)) (t' := (τ i)) (ty := .int) C hW hi (gL_4 hk) rfl kin_X4 tyX4 tyX4_ok nmX4 2 (by decide) rfl kf_X4_40 rfl (by decide +kernel) rfl rfl (Nat.le_of_ble_eq_true rfl) (gL_4 hk) hdg (fun H1 l1 h => kk H1 l1 (by rw [gup_self] at h; exact h))
theorem gf_X0_55 {i : Nat} {v : Int32} (C : gCx p s m args c G cc nL RX0) (hW : gW G s σ τ H locs) (hi : i < 112) (hk : gkind i = 4) (hv : σ i 2 = v) (hdg : decode cc pc = .ok (.getfield 55, 3)) (kk : W p l e R s m args below meth c H locs cells slots Q (F0 m (pc + 3) ls (.int v :: rest))) : W p l e R s m args below meth c H locs cells slots Q (F0 m pc ls (.ref (gAd G i) :: rest)) :=
  g_get C hW hi (gL_4 hk) rfl kin_X4 2 (by decide) rfl kf_X0_55 (by rw [← hv]; rfl) hdg kk
theorem gp_X0_55 {i : Nat} {x : Int32} (C : gCx p s m args c G cc nL RX0) (hW : gW G s σ τ H locs) (hi : i < 112) (hk : gkind i = 4) (hdg : decode cc pc = .ok (.putfield 55, 3)) (kk : ∀ (H1 : Heap) (locs1 : List Loc), gW G s (gu σ i 2 x) τ H1 locs1 → W p l e R s m args below meth c H1 locs1 cells slots Q (F0 m (pc + 3) ls rest)) : W p l e R s m args below meth c H locs cells slots Q (F0 m pc ls (.int x :: .ref (gAd G i) :: rest)) :=
  g_put (f' := (upd (σ i) 2 x)) (t' := (τ i)) (ty := .int) C hW hi (gL_4 hk) rfl kin_X4 tyX4 tyX4_ok nmX4 2 (by decide) rfl kf_X0_55 rfl (by decide +kernel) rfl rfl (Nat.le_of_ble_eq_true rfl) (gL_4 hk) hdg (fun H1 l1 h => kk H1 l1 (by rw [gup_self] at h; exact h))
theorem gf_X6_90 {i : Nat} {v : Int32} (C : gCx p s m args c G cc nL RX6) (hW : gW G s σ τ H locs) (hi : i < 112) (hk : gkind i = 4) (hv : σ i 2 = v) (hdg : decode cc pc = .ok (.getfield 90, 3)) (kk : W p l e R s m args below meth c H locs cells slots Q (F0 m (pc + 3) ls (.int v :: rest))) : W p l e R s m args below meth c H locs cells slots Q (F0 m pc ls (.ref (gAd G i) :: rest)) :=
  g_get C hW hi (gL_4 hk) rfl kin_X4 2 (by decide) rfl kf_X6_90 (by rw [← hv]; rfl) hdg kk
theorem gp_X6_90 {i : Nat} {x : Int32} (C : gCx p s m args c G cc nL RX6) (hW : gW G s σ τ H locs) (hi : i < 112) (hk : gkind i = 4) (hdg : decode cc pc = .ok (.putfield 90, 3)) (kk : ∀ (H1 : Heap) (locs1 : List Loc), gW G s (gu σ i 2 x) τ H1 locs1 → W p l e R s m args below meth c H1 locs1 cells slots Q (F0 m (pc + 3) ls rest)) : W p l e R s m args below meth c H locs cells slots Q (F0 m pc ls (.int x :: .ref (gAd G i) :: rest)) :=
  g_put (f' := (upd (σ i) 2 x)) (t' := (τ i)) (ty := .int) C hW hi (gL_4 hk) rfl kin_X4 tyX4 tyX4_ok nmX4 2 (by decide) rfl kf_X6_90 rfl (by decide +kernel) rfl rfl (Nat.le_of_ble_eq_true rfl) (gL_4 hk) hdg (fun H1 l1 h => kk H1 l1 (by rw [gup_self] at h; exact h))
theorem gf_X9_260 {i : Nat} {v : Int32} (C : gCx p s m args c G cc nL RX9) (hW : gW G s σ τ H locs) (hi : i < 112) (hk : gkind i = 4) (hv : σ i 2 = v) (hdg : decode cc pc = .ok (.getfield 260, 3)) (kk : W p l e R s m args below meth c H locs cells slots Q (F0 m (pc + 3) ls (.int v :: rest))) : W p l e R s m args below meth c H locs cells slots Q (F0 m pc ls (.ref (gAd G i) :: rest)) :=
  g_get C hW hi (gL_4 hk) rfl kin_X4 2 (by decide) rfl kf_X9_260 (by rw [← hv]; rfl) hdg kk
theorem gp_X9_260 {i : Nat} {x : Int32} (C : gCx p s m args c G cc nL RX9) (hW : gW G s σ τ H locs) (hi : i < 112) (hk : gkind i = 4) (hdg : decode cc pc = .ok (.putfield 260, 3)) (kk : ∀ (H1 : Heap) (locs1 : List Loc), gW G s (gu σ i 2 x) τ H1 locs1 → W p l e R s m args below meth c H1 locs1 cells slots Q (F0 m (pc + 3) ls rest)) : W p l e R s m args below meth c H locs cells slots Q (F0 m pc ls (.int x :: .ref (gAd G i) :: rest)) :=
  g_put (f' := (upd (σ i) 2 x)) (t' := (τ i)) (ty := .int) C hW hi (gL_4 hk) rfl kin_X4 tyX4 tyX4_ok nmX4 2 (by decide) rfl kf_X9_260 rfl (by decide +kernel) rfl rfl (Nat.le_of_ble_eq_true rfl) (gL_4 hk) hdg (fun H1 l1 h => kk H1 l1 (by rw [gup_self] at h; exact h))
theorem gf_X4_15 {i : Nat} {v : Int32} (C : gCx p s m args c G cc nL RX4) (hW : gW G s σ τ H locs) (hi : i < 112) (hk : gkind i = 4) (hv : σ i 3 = v) (hdg : decode cc pc = .ok (.getfield 15, 3)) (kk : W p l e R s m args below meth c H locs cells slots Q (F0 m (pc + 3) ls (.int v :: rest))) : W p l e R s m args below meth c H locs cells slots Q (F0 m pc ls (.ref (gAd G i) :: rest)) :=
  g_get C hW hi (gL_4 hk) rfl kin_X4 3 (by decide) rfl kf_X4_15 (by rw [← hv]; rfl) hdg kk
theorem gp_X4_15 {i : Nat} {x : Int32} (C : gCx p s m args c G cc nL RX4) (hW : gW G s σ τ H locs) (hi : i < 112) (hk : gkind i = 4) (hdg : decode cc pc = .ok (.putfield 15, 3)) (kk : ∀ (H1 : Heap) (locs1 : List Loc), gW G s (gu σ i 3 x) τ H1 locs1 → W p l e R s m args below meth c H1 locs1 cells slots Q (F0 m (pc + 3) ls rest)) : W p l e R s m args below meth c H locs cells slots Q (F0 m pc ls (.int x :: .ref (gAd G i) :: rest)) :=
  g_put (f' := (upd (σ i) 3 x)) (t' := (τ i)) (ty := .int) C hW hi (gL_4 hk) rfl kin_X4 tyX4 tyX4_ok nmX4 3 (by decide) rfl kf_X4_15 rfl (by decide +kernel) rfl rfl (Nat.le_of_ble_eq_true rfl) (gL_4 hk) hdg (fun H1 l1 h => kk H1 l1 (by rw [gup_self] at h; exact h))
theorem gf_X6_105 {i : Nat} {v : Int32} (C : gCx p s m args c G cc nL RX6) (hW : gW G s σ τ H locs) (hi : i < 112) (hk : gkind i = 4) (hv : σ i 3 = v) (hdg : decode cc pc = .ok (.getfield 105, 3)) (kk : W p l e R s m args below meth c H locs cells slots Q (F0 m (pc + 3) ls (.int v :: rest))) : W p l e R s m args below meth c H locs cells slots Q (F0 m pc ls (.ref (gAd G i) :: rest)) :=
  g_get C hW hi (gL_4 hk) rfl kin_X4 3 (by decide) rfl kf_X6_105 (by rw [← hv]; rfl) hdg kk
theorem gp_X6_105 {i : Nat} {x : Int32} (C : gCx p s m args c G cc nL RX6) (hW : gW G s σ τ H locs) (hi : i < 112) (hk : gkind i = 4) (hdg : decode cc pc = .ok (.putfield 105, 3)) (kk : ∀ (H1 : Heap) (locs1 : List Loc), gW G s (gu σ i 3 x) τ H1 locs1 → W p l e R s m args below meth c H1 locs1 cells slots Q (F0 m (pc + 3) ls rest)) : W p l e R s m args below meth c H locs cells slots Q (F0 m pc ls (.int x :: .ref (gAd G i) :: rest)) :=
  g_put (f' := (upd (σ i) 3 x)) (t' := (τ i)) (ty := .int) C hW hi (gL_4 hk) rfl kin_X4 tyX4 tyX4_ok nmX4 3 (by decide) rfl kf_X6_105 rfl (by decide +kernel) rfl rfl (Nat.le_of_ble_eq_true rfl) (gL_4 hk) hdg (fun H1 l1 h => kk H1 l1 (by rw [gup_self] at h; exact h))
theorem gf_X9_263 {i : Nat} {v : Int32} (C : gCx p s m args c G cc nL RX9) (hW : gW G s σ τ H locs) (hi : i < 112) (hk : gkind i = 4) (hv : σ i 3 = v) (hdg : decode cc pc = .ok (.getfield 263, 3)) (kk : W p l e R s m args below meth c H locs cells slots Q (F0 m (pc + 3) ls (.int v :: rest))) : W p l e R s m args below meth c H locs cells slots Q (F0 m pc ls (.ref (gAd G i) :: rest)) :=
  g_get C hW hi (gL_4 hk) rfl kin_X4 3 (by decide) rfl kf_X9_263 (by rw [← hv]; rfl) hdg kk
theorem gp_X9_263 {i : Nat} {x : Int32} (C : gCx p s m args c G cc nL RX9) (hW : gW G s σ τ H locs) (hi : i < 112) (hk : gkind i = 4) (hdg : decode cc pc = .ok (.putfield 263, 3)) (kk : ∀ (H1 : Heap) (locs1 : List Loc), gW G s (gu σ i 3 x) τ H1 locs1 → W p l e R s m args below meth c H1 locs1 cells slots Q (F0 m (pc + 3) ls rest)) : W p l e R s m args below meth c H locs cells slots Q (F0 m pc ls (.int x :: .ref (gAd G i) :: rest)) :=
  g_put (f' := (upd (σ i) 3 x)) (t' := (τ i)) (ty := .int) C hW hi (gL_4 hk) rfl kin_X4 tyX4 tyX4_ok nmX4 3 (by decide) rfl kf_X9_263 rfl (by decide +kernel) rfl rfl (Nat.le_of_ble_eq_true rfl) (gL_4 hk) hdg (fun H1 l1 h => kk H1 l1 (by rw [gup_self] at h; exact h))
theorem gf_X4_18 {i : Nat} {v : Int32} (C : gCx p s m args c G cc nL RX4) (hW : gW G s σ τ H locs) (hi : i < 112) (hk : gkind i = 4) (hv : σ i 4 = v) (hdg : decode cc pc = .ok (.getfield 18, 3)) (kk : W p l e R s m args below meth c H locs cells slots Q (F0 m (pc + 3) ls (.int v :: rest))) : W p l e R s m args below meth c H locs cells slots Q (F0 m pc ls (.ref (gAd G i) :: rest)) :=
  g_get C hW hi (gL_4 hk) rfl kin_X4 4 (by decide) rfl kf_X4_18 (by rw [← hv]; rfl) hdg kk
theorem gp_X4_18 {i : Nat} {x : Int32} (C : gCx p s m args c G cc nL RX4) (hW : gW G s σ τ H locs) (hi : i < 112) (hk : gkind i = 4) (hdg : decode cc pc = .ok (.putfield 18, 3)) (kk : ∀ (H1 : Heap) (locs1 : List Loc), gW G s (gu σ i 4 x) τ H1 locs1 → W p l e R s m args below meth c H1 locs1 cells slots Q (F0 m (pc + 3) ls rest)) : W p l e R s m args below meth c H locs cells slots Q (F0 m pc ls (.int x :: .ref (gAd G i) :: rest)) :=
  g_put (f' := (upd (σ i) 4 x)) (t' := (τ i)) (ty := .int) C hW hi (gL_4 hk) rfl kin_X4 tyX4 tyX4_ok nmX4 4 (by decide) rfl kf_X4_18 rfl (by decide +kernel) rfl rfl (Nat.le_of_ble_eq_true rfl) (gL_4 hk) hdg (fun H1 l1 h => kk H1 l1 (by rw [gup_self] at h; exact h))
theorem gf_X0_44 {i : Nat} {v : Int32} (C : gCx p s m args c G cc nL RX0) (hW : gW G s σ τ H locs) (hi : i < 112) (hk : gkind i = 4) (hv : σ i 4 = v) (hdg : decode cc pc = .ok (.getfield 44, 3)) (kk : W p l e R s m args below meth c H locs cells slots Q (F0 m (pc + 3) ls (.int v :: rest))) : W p l e R s m args below meth c H locs cells slots Q (F0 m pc ls (.ref (gAd G i) :: rest)) :=
  g_get C hW hi (gL_4 hk) rfl kin_X4 4 (by decide) rfl kf_X0_44 (by rw [← hv]; rfl) hdg kk
theorem gp_X0_44 {i : Nat} {x : Int32} (C : gCx p s m args c G cc nL RX0) (hW : gW G s σ τ H locs) (hi : i < 112) (hk : gkind i = 4) (hdg : decode cc pc = .ok (.putfield 44, 3)) (kk : ∀ (H1 : Heap) (locs1 : List Loc), gW G s (gu σ i 4 x) τ H1 locs1 → W p l e R s m args below meth c H1 locs1 cells slots Q (F0 m (pc + 3) ls rest)) : W p l e R s m args below meth c H locs cells slots Q (F0 m pc ls (.int x :: .ref (gAd G i) :: rest)) :=
  g_put (f' := (upd (σ i) 4 x)) (t' := (τ i)) (ty := .int) C hW hi (gL_4 hk) rfl kin_X4 tyX4 tyX4_ok nmX4 4 (by decide) rfl kf_X0_44 rfl (by decide +kernel) rfl rfl (Nat.le_of_ble_eq_true rfl) (gL_4 hk) hdg (fun H1 l1 h => kk H1 l1 (by rw [gup_self] at h; exact h))
theorem gf_X6_108 {i : Nat} {v : Int32} (C : gCx p s m args c G cc nL RX6) (hW : gW G s σ τ H locs) (hi : i < 112) (hk : gkind i = 4) (hv : σ i 4 = v) (hdg : decode cc pc = .ok (.getfield 108, 3)) (kk : W p l e R s m args below meth c H locs cells slots Q (F0 m (pc + 3) ls (.int v :: rest))) : W p l e R s m args below meth c H locs cells slots Q (F0 m pc ls (.ref (gAd G i) :: rest)) :=
  g_get C hW hi (gL_4 hk) rfl kin_X4 4 (by decide) rfl kf_X6_108 (by rw [← hv]; rfl) hdg kk
theorem gp_X6_108 {i : Nat} {x : Int32} (C : gCx p s m args c G cc nL RX6) (hW : gW G s σ τ H locs) (hi : i < 112) (hk : gkind i = 4) (hdg : decode cc pc = .ok (.putfield 108, 3)) (kk : ∀ (H1 : Heap) (locs1 : List Loc), gW G s (gu σ i 4 x) τ H1 locs1 → W p l e R s m args below meth c H1 locs1 cells slots Q (F0 m (pc + 3) ls rest)) : W p l e R s m args below meth c H locs cells slots Q (F0 m pc ls (.int x :: .ref (gAd G i) :: rest)) :=
  g_put (f' := (upd (σ i) 4 x)) (t' := (τ i)) (ty := .int) C hW hi (gL_4 hk) rfl kin_X4 tyX4 tyX4_ok nmX4 4 (by decide) rfl kf_X6_108 rfl (by decide +kernel) rfl rfl (Nat.le_of_ble_eq_true rfl) (gL_4 hk) hdg (fun H1 l1 h => kk H1 l1 (by rw [gup_self] at h; exact h))
theorem gf_X9_266 {i : Nat} {v : Int32} (C : gCx p s m args c G cc nL RX9) (hW : gW G s σ τ H locs) (hi : i < 112) (hk : gkind i = 4) (hv : σ i 4 = v) (hdg : decode cc pc = .ok (.getfield 266, 3)) (kk : W p l e R s m args below meth c H locs cells slots Q (F0 m (pc + 3) ls (.int v :: rest))) : W p l e R s m args below meth c H locs cells slots Q (F0 m pc ls (.ref (gAd G i) :: rest)) :=
  g_get C hW hi (gL_4 hk) rfl kin_X4 4 (by decide) rfl kf_X9_266 (by rw [← hv]; rfl) hdg kk
theorem gp_X9_266 {i : Nat} {x : Int32} (C : gCx p s m args c G cc nL RX9) (hW : gW G s σ τ H locs) (hi : i < 112) (hk : gkind i = 4) (hdg : decode cc pc = .ok (.putfield 266, 3)) (kk : ∀ (H1 : Heap) (locs1 : List Loc), gW G s (gu σ i 4 x) τ H1 locs1 → W p l e R s m args below meth c H1 locs1 cells slots Q (F0 m (pc + 3) ls rest)) : W p l e R s m args below meth c H locs cells slots Q (F0 m pc ls (.int x :: .ref (gAd G i) :: rest)) :=
  g_put (f' := (upd (σ i) 4 x)) (t' := (τ i)) (ty := .int) C hW hi (gL_4 hk) rfl kin_X4 tyX4 tyX4_ok nmX4 4 (by decide) rfl kf_X9_266 rfl (by decide +kernel) rfl rfl (Nat.le_of_ble_eq_true rfl) (gL_4 hk) hdg (fun H1 l1 h => kk H1 l1 (by rw [gup_self] at h; exact h))
theorem gf_X4_21 {i : Nat} (C : gCx p s m args c G cc nL RX4) (hW : gW G s σ τ H locs) (hi : i < 112) (hk : gkind i = 4) (hdg : decode cc pc = .ok (.getfield 21, 3)) (kk : W p l e R s m args below meth c H locs cells slots Q (F0 m (pc + 3) ls (.ref (gAd G (i + 1)) :: rest))) : W p l e R s m args below meth c H locs cells slots Q (F0 m pc ls (.ref (gAd G i) :: rest)) :=
  g_get C hW hi (gL_4 hk) rfl kin_X4 5 (by decide) rfl kf_X4_21 rfl hdg kk
theorem gf_X3_31 {i : Nat} (C : gCx p s m args c G cc nL RX3) (hW : gW G s σ τ H locs) (hi : i < 112) (hk : gkind i = 4) (hdg : decode cc pc = .ok (.getfield 31, 3)) (kk : W p l e R s m args below meth c H locs cells slots Q (F0 m (pc + 3) ls (.ref (gAd G (i + 1)) :: rest))) : W p l e R s m args below meth c H locs cells slots Q (F0 m pc ls (.ref (gAd G i) :: rest)) :=
  g_get C hW hi (gL_4 hk) rfl kin_X4 5 (by decide) rfl kf_X3_31 rfl hdg kk
theorem gf_X9_138 {i : Nat} (C : gCx p s m args c G cc nL RX9) (hW : gW G s σ τ H locs) (hi : i < 112) (hk : gkind i = 4) (hdg : decode cc pc = .ok (.getfield 138, 3)) (kk : W p l e R s m args below meth c H locs cells slots Q (F0 m (pc + 3) ls (.ref (gAd G (i + 1)) :: rest))) : W p l e R s m args below meth c H locs cells slots Q (F0 m pc ls (.ref (gAd G i) :: rest)) :=
  g_get C hW hi (gL_4 hk) rfl kin_X4 5 (by decide) rfl kf_X9_138 rfl hdg kk
theorem gf_X6_87 {i : Nat} (C : gCx p s m args c G cc nL RX6) (hW : gW G s σ τ H locs) (hi : i < 112) (hk : gkind i = 4) (hdg : decode cc pc = .ok (.getfield 87, 3)) (kk : W p l e R s m args below meth c H locs cells slots Q (F0 m (pc + 3) ls (.ref (gAd G (i + 1)) :: rest))) : W p l e R s m args below meth c H locs cells slots Q (F0 m pc ls (.ref (gAd G i) :: rest)) :=
  g_get C hW hi (gL_4 hk) rfl kin_X4 5 (by decide) rfl kf_X6_87 rfl hdg kk
theorem gf_X0_109 {i : Nat} (C : gCx p s m args c G cc nL RX0) (hW : gW G s σ τ H locs) (hi : i < 112) (hk : gkind i = 4) (hdg : decode cc pc = .ok (.getfield 109, 3)) (kk : W p l e R s m args below meth c H locs cells slots Q (F0 m (pc + 3) ls (.ref (gAd G (i + 1)) :: rest))) : W p l e R s m args below meth c H locs cells slots Q (F0 m pc ls (.ref (gAd G i) :: rest)) :=
  g_get C hW hi (gL_4 hk) rfl kin_X4 5 (by decide) rfl kf_X0_109 rfl hdg kk
theorem gf_X4_25 {i : Nat} (C : gCx p s m args c G cc nL RX4) (hW : gW G s σ τ H locs) (hi : i < 112) (hk : gkind i = 4) (hdg : decode cc pc = .ok (.getfield 25, 3)) (kk : W p l e R s m args below meth c H locs cells slots Q (F0 m (pc + 3) ls (.ref (gAd G (i + 2)) :: rest))) : W p l e R s m args below meth c H locs cells slots Q (F0 m pc ls (.ref (gAd G i) :: rest)) :=
  g_get C hW hi (gL_4 hk) rfl kin_X4 6 (by decide) rfl kf_X4_25 rfl hdg kk
theorem gf_X3_36 {i : Nat} (C : gCx p s m args c G cc nL RX3) (hW : gW G s σ τ H locs) (hi : i < 112) (hk : gkind i = 4) (hdg : decode cc pc = .ok (.getfield 36, 3)) (kk : W p l e R s m args below meth c H locs cells slots Q (F0 m (pc + 3) ls (.ref (gAd G (i + 2)) :: rest))) : W p l e R s m args below meth c H locs cells slots Q (F0 m pc ls (.ref (gAd G i) :: rest)) :=
  g_get C hW hi (gL_4 hk) rfl kin_X4 6 (by decide) rfl kf_X3_36 rfl hdg kk
theorem gf_X6_93 {i : Nat} (C : gCx p s m args c G cc nL RX6) (hW : gW G s σ τ H locs) (hi : i < 112) (hk : gkind i = 4) (hdg : decode cc pc = .ok (.getfield 93, 3)) (kk : W p l e R s m args below meth c H locs cells slots Q (F0 m (pc + 3) ls (.ref (gAd G (i + 2)) :: rest))) : W p l e R s m args below meth c H locs cells slots Q (F0 m pc ls (.ref (gAd G i) :: rest)) :=
  g_get C hW hi (gL_4 hk) rfl kin_X4 6 (by decide) rfl kf_X6_93 rfl hdg kk
theorem gf_X4_28 {i : Nat} (C : gCx p s m args c G cc nL RX4) (hW : gW G s σ τ H locs) (hi : i < 112) (hk : gkind i = 4) (hdg : decode cc pc = .ok (.getfield 28, 3)) (kk : W p l e R s m args below meth c H locs cells slots Q (F0 m (pc + 3) ls (.ref (gAd G (i + 3)) :: rest))) : W p l e R s m args below meth c H locs cells slots Q (F0 m pc ls (.ref (gAd G i) :: rest)) :=
  g_get C hW hi (gL_4 hk) rfl kin_X4 7 (by decide) rfl kf_X4_28 rfl hdg kk
theorem gf_X5_46 {i : Nat} (C : gCx p s m args c G cc nL RX5) (hW : gW G s σ τ H locs) (hi : i < 112) (hk : gkind i = 4) (hdg : decode cc pc = .ok (.getfield 46, 3)) (kk : W p l e R s m args below meth c H locs cells slots Q (F0 m (pc + 3) ls (.ref (gAd G (i + 3)) :: rest))) : W p l e R s m args below meth c H locs cells slots Q (F0 m pc ls (.ref (gAd G i) :: rest)) :=
  g_get C hW hi (gL_4 hk) rfl kin_X4 7 (by decide) rfl kf_X5_46 rfl hdg kk
theorem gf_X0_65 {i : Nat} (C : gCx p s m args c G cc nL RX0) (hW : gW G s σ τ H locs) (hi : i < 112) (hk : gkind i = 4) (hdg : decode cc pc = .ok (.getfield 65, 3)) (kk : W p l e R s m args below meth c H locs cells slots Q (F0 m (pc + 3) ls (.ref (gAd G (i + 3)) :: rest))) : W p l e R s m args below meth c H locs cells slots Q (F0 m pc ls (.ref (gAd G i) :: rest)) :=
  g_get C hW hi (gL_4 hk) rfl kin_X4 7 (by decide) rfl kf_X0_65 rfl hdg kk
theorem gf_X9_147 {i : Nat} (C : gCx p s m args c G cc nL RX9) (hW : gW G s σ τ H locs) (hi : i < 112) (hk : gkind i = 4) (hdg : decode cc pc = .ok (.getfield 147, 3)) (kk : W p l e R s m args below meth c H locs cells slots Q (F0 m (pc + 3) ls (.ref (gAd G (i + 3)) :: rest))) : W p l e R s m args below meth c H locs cells slots Q (F0 m pc ls (.ref (gAd G i) :: rest)) :=
  g_get C hW hi (gL_4 hk) rfl kin_X4 7 (by decide) rfl kf_X9_147 rfl hdg kk
theorem gf_X6_96 {i : Nat} (C : gCx p s m args c G cc nL RX6) (hW : gW G s σ τ H locs) (hi : i < 112) (hk : gkind i = 4) (hdg : decode cc pc = .ok (.getfield 96, 3)) (kk : W p l e R s m args below meth c H locs cells slots Q (F0 m (pc + 3) ls (.ref (gAd G (i + 3)) :: rest))) : W p l e R s m args below meth c H locs cells slots Q (F0 m pc ls (.ref (gAd G i) :: rest)) :=
  g_get C hW hi (gL_4 hk) rfl kin_X4 7 (by decide) rfl kf_X6_96 rfl hdg kk
theorem gf_X4_31 {i : Nat} (C : gCx p s m args c G cc nL RX4) (hW : gW G s σ τ H locs) (hi : i < 112) (hk : gkind i = 4) (hdg : decode cc pc = .ok (.getfield 31, 3)) (kk : W p l e R s m args below meth c H locs cells slots Q (F0 m (pc + 3) ls (.ref (gAd G (i + 4)) :: rest))) : W p l e R s m args below meth c H locs cells slots Q (F0 m pc ls (.ref (gAd G i) :: rest)) :=
  g_get C hW hi (gL_4 hk) rfl kin_X4 8 (by decide) rfl kf_X4_31 rfl hdg kk
theorem gf_X0_40 {i : Nat} (C : gCx p s m args c G cc nL RX0) (hW : gW G s σ τ H locs) (hi : i < 112) (hk : gkind i = 4) (hdg : decode cc pc = .ok (.getfield 40, 3)) (kk : W p l e R s m args below meth c H locs cells slots Q (F0 m (pc + 3) ls (.ref (gAd G (i + 4)) :: rest))) : W p l e R s m args below meth c H locs cells slots Q (F0 m pc ls (.ref (gAd G i) :: rest)) :=
  g_get C hW hi (gL_4 hk) rfl kin_X4 8 (by decide) rfl kf_X0_40 rfl hdg kk
theorem gf_X9_148 {i : Nat} (C : gCx p s m args c G cc nL RX9) (hW : gW G s σ τ H locs) (hi : i < 112) (hk : gkind i = 4) (hdg : decode cc pc = .ok (.getfield 148, 3)) (kk : W p l e R s m args below meth c H locs cells slots Q (F0 m (pc + 3) ls (.ref (gAd G (i + 4)) :: rest))) : W p l e R s m args below meth c H locs cells slots Q (F0 m pc ls (.ref (gAd G i) :: rest)) :=
  g_get C hW hi (gL_4 hk) rfl kin_X4 8 (by decide) rfl kf_X9_148 rfl hdg kk
theorem gf_X6_99 {i : Nat} (C : gCx p s m args c G cc nL RX6) (hW : gW G s σ τ H locs) (hi : i < 112) (hk : gkind i = 4) (hdg : decode cc pc = .ok (.getfield 99, 3)) (kk : W p l e R s m args below meth c H locs cells slots Q (F0 m (pc + 3) ls (.ref (gAd G (i + 4)) :: rest))) : W p l e R s m args below meth c H locs cells slots Q (F0 m pc ls (.ref (gAd G i) :: rest)) :=
  g_get C hW hi (gL_4 hk) rfl kin_X4 8 (by decide) rfl kf_X6_99 rfl hdg kk
theorem gf_X4_34 {i : Nat} (C : gCx p s m args c G cc nL RX4) (hW : gW G s σ τ H locs) (hi : i < 112) (hk : gkind i = 4) (hdg : decode cc pc = .ok (.getfield 34, 3)) (kk : W p l e R s m args below meth c H locs cells slots Q (F0 m (pc + 3) ls (.ref (gAd G (i + 5)) :: rest))) : W p l e R s m args below meth c H locs cells slots Q (F0 m pc ls (.ref (gAd G i) :: rest)) :=
  g_get C hW hi (gL_4 hk) rfl kin_X4 9 (by decide) rfl kf_X4_34 rfl hdg kk
theorem gf_X5_38 {i : Nat} (C : gCx p s m args c G cc nL RX5) (hW : gW G s σ τ H locs) (hi : i < 112) (hk : gkind i = 4) (hdg : decode cc pc = .ok (.getfield 38, 3)) (kk : W p l e R s m args below meth c H locs cells slots Q (F0 m (pc + 3) ls (.ref (gAd G (i + 5)) :: rest))) : W p l e R s m args below meth c H locs cells slots Q (F0 m pc ls (.ref (gAd G i) :: rest)) :=
  g_get C hW hi (gL_4 hk) rfl kin_X4 9 (by decide) rfl kf_X5_38 rfl hdg kk
theorem gf_X0_47 {i : Nat} (C : gCx p s m args c G cc nL RX0) (hW : gW G s σ τ H locs) (hi : i < 112) (hk : gkind i = 4) (hdg : decode cc pc = .ok (.getfield 47, 3)) (kk : W p l e R s m args below meth c H locs cells slots Q (F0 m (pc + 3) ls (.ref (gAd G (i + 5)) :: rest))) : W p l e R s m args below meth c H locs cells slots Q (F0 m pc ls (.ref (gAd G i) :: rest)) :=
  g_get C hW hi (gL_4 hk) rfl kin_X4 9 (by decide) rfl kf_X0_47 rfl hdg kk
theorem gf_X9_151 {i : Nat} (C : gCx p s m args c G cc nL RX9) (hW : gW G s σ τ H locs) (hi : i < 112) (hk : gkind i = 4) (hdg : decode cc pc = .ok (.getfield 151, 3)) (kk : W p l e R s m args below meth c H locs cells slots Q (F0 m (pc + 3) ls (.ref (gAd G (i + 5)) :: rest))) : W p l e R s m args below meth c H locs cells slots Q (F0 m pc ls (.ref (gAd G i) :: rest)) :=
  g_get C hW hi (gL_4 hk) rfl kin_X4 9 (by decide) rfl kf_X9_151 rfl hdg kk
theorem gf_X6_102 {i : Nat} (C : gCx p s m args c G cc nL RX6) (hW : gW G s σ τ H locs) (hi : i < 112) (hk : gkind i = 4) (hdg : decode cc pc = .ok (.getfield 102, 3)) (kk : W p l e R s m args below meth c H locs cells slots Q (F0 m (pc + 3) ls (.ref (gAd G (i + 5)) :: rest))) : W p l e R s m args below meth c H locs cells slots Q (F0 m pc ls (.ref (gAd G i) :: rest)) :=
  g_get C hW hi (gL_4 hk) rfl kin_X4 9 (by decide) rfl kf_X6_102 rfl hdg kk
theorem gf_X6_9 {i : Nat} (C : gCx p s m args c G cc nL RX6) (hW : gW G s σ τ H locs) (hi : i < 112) (hk : gkind i = 6) (hdg : decode cc pc = .ok (.getfield 9, 3)) (kk : W p l e R s m args below meth c H locs cells slots Q (F0 m (pc + 3) ls (.ref (gAd G (i + 1)) :: rest))) : W p l e R s m args below meth c H locs cells slots Q (F0 m pc ls (.ref (gAd G i) :: rest)) :=
  g_get C hW hi (gL_6 hk) rfl kin_X6 0 (by decide) rfl kf_X6_9 rfl hdg kk
theorem gf_X6_26 {i : Nat} {v : Int32} (C : gCx p s m args c G cc nL RX6) (hW : gW G s σ τ H locs) (hi : i < 112) (hk : gkind i = 6) (hv : σ i 1 = v) (hdg : decode cc pc = .ok (.getfield 26, 3)) (kk : W p l e R s m args below meth c H locs cells slots Q (F0 m (pc + 3) ls (.int v :: rest))) : W p l e R s m args below meth c H locs cells slots Q (F0 m pc ls (.ref (gAd G i) :: rest)) :=
  g_get C hW hi (gL_6 hk) rfl kin_X6 1 (by decide) rfl kf_X6_26 (by rw [← hv]; rfl) hdg kk
theorem gp_X6_26 {i : Nat} {x : Int32} (C : gCx p s m args c G cc nL RX6) (hW : gW G s σ τ H locs) (hi : i < 112) (hk : gkind i = 6) (hdg : decode cc pc = .ok (.putfield 26, 3)) (kk : ∀ (H1 : Heap) (locs1 : List Loc), gW G s (gu σ i 1 x) τ H1 locs1 → W p l e R s m args below meth c H1 locs1 cells slots Q (F0 m (pc + 3) ls rest)) : W p l e R s m args below meth c H locs cells slots Q (F0 m pc ls (.int x :: .ref (gAd G i) :: rest)) :=
  g_put (f' := (upd (σ i) 1 x)) (t' := (τ i)) (ty := .int) C hW hi (gL_6 hk) rfl kin_X6 tyX6 tyX6_ok nmX6 1 (by decide) rfl kf_X6_26 rfl (by decide +kernel) rfl rfl (Nat.le_of_ble_eq_true rfl) (gL_6 hk) hdg (fun H1 l1 h => kk H1 l1 (by rw [gup_self] at h; exact h))
theorem gf_X9_73 {i : Nat} {v : Int32} (C : gCx p s m args c G cc nL RX9) (hW : gW G s σ τ H locs) (hi : i < 112) (hk : gkind i = 6) (hv : σ i 1 = v) (hdg : decode cc pc = .ok (.getfield 73, 3)) (kk : W p l e R s m args below meth c H locs cells slots Q (F0 m (pc + 3) ls (.int v :: rest))) : W p l e R s m args below meth c H locs cells slots Q (F0 m pc ls (.ref (gAd G i) :: rest)) :=
  g_get C hW hi (gL_6 hk) rfl kin_X6 1 (by decide) rfl kf_X9_73 (by rw [← hv]; rfl) hdg kk
theorem gp_X9_73 {i : Nat} {x : Int32} (C : gCx p s m args c G cc nL RX9) (hW : gW G s σ τ H locs) (hi : i < 112) (hk : gkind i = 6) (hdg : decode cc pc = .ok (.putfield 73, 3)) (kk : ∀ (H1 : Heap) (locs1 : List Loc), gW G s (gu σ i 1 x) τ H1 locs1 → W p l e R s m args below meth c H1 locs1 cells slots Q (F0 m (pc + 3) ls rest)) : W p l e R s m args below meth c H locs cells slots Q (F0 m pc ls (.int x :: .ref (gAd G i) :: rest)) :=
  g_put (f' := (upd (σ i) 1 x)) (t' := (τ i)) (ty := .int) C hW hi (gL_6 hk) rfl kin_X6 tyX6 tyX6_ok nmX6 1 (by decide) rfl kf_X9_73 rfl (by decide +kernel) rfl rfl (Nat.le_of_ble_eq_true rfl) (gL_6 hk) hdg (fun H1 l1 h => kk H1 l1 (by rw [gup_self] at h; exact h))
theorem gf_X6_18 {i : Nat} (C : gCx p s m args c G cc nL RX6) (hW : gW G s σ τ H locs) (hi : i < 112) (hk : gkind i = 6) (hdg : decode cc pc = .ok (.getfield 18, 3)) (kk : W p l e R s m args below meth c H locs cells slots Q (F0 m (pc + 3) ls (.ref (gAd G (i + 2)) :: rest))) : W p l e R s m args below meth c H locs cells slots Q (F0 m pc ls (.ref (gAd G i) :: rest)) :=
  g_get C hW hi (gL_6 hk) rfl kin_X6 2 (by decide) rfl kf_X6_18 rfl hdg kk
theorem gf_X9_91 {i : Nat} (C : gCx p s m args c G cc nL RX9) (hW : gW G s σ τ H locs) (hi : i < 112) (hk : gkind i = 6) (hdg : decode cc pc = .ok (.getfield 91, 3)) (kk : W p l e R s m args below meth c H locs cells slots Q (F0 m (pc + 3) ls (.ref (gAd G (i + 2)) :: rest))) : W p l e R s m args below meth c H locs cells slots Q (F0 m pc ls (.ref (gAd G i) :: rest)) :=
  g_get C hW hi (gL_6 hk) rfl kin_X6 2 (by decide) rfl kf_X9_91 rfl hdg kk
theorem gf_X6_22 {i : Nat} {v : Int32} (C : gCx p s m args c G cc nL RX6) (hW : gW G s σ τ H locs) (hi : i < 112) (hk : gkind i = 6) (hv : σ i 3 = v) (hdg : decode cc pc = .ok (.getfield 22, 3)) (kk : W p l e R s m args below meth c H locs cells slots Q (F0 m (pc + 3) ls (.int v :: rest))) : W p l e R s m args below meth c H locs cells slots Q (F0 m pc ls (.ref (gAd G i) :: rest)) :=
  g_get C hW hi (gL_6 hk) rfl kin_X6 3 (by decide) rfl kf_X6_22 (by rw [← hv]; rfl) hdg kk
theorem gp_X6_22 {i : Nat} {x : Int32} (C : gCx p s m args c G cc nL RX6) (hW : gW G s σ τ H locs) (hi : i < 112) (hk : gkind i = 6) (hdg : decode cc pc = .ok (.putfield 22, 3)) (kk : ∀ (H1 : Heap) (locs1 : List Loc), gW G s (gu σ i 3 x) τ H1 locs1 → W p l e R s m args below meth c H1 locs1 cells slots Q (F0 m (pc + 3) ls rest)) : W p l e R s m args below meth c H locs cells slots Q (F0 m pc ls (.int x :: .ref (gAd G i) :: rest)) :=
  g_put (f' := (upd (σ i) 3 x)) (t' := (τ i)) (ty := .int) C hW hi (gL_6 hk) rfl kin_X6 tyX6 tyX6_ok nmX6 3 (by decide) rfl kf_X6_22 rfl (by decide +kernel) rfl rfl (Nat.le_of_ble_eq_true rfl) (gL_6 hk) hdg (fun H1 l1 h => kk H1 l1 (by rw [gup_self] at h; exact h))
theorem gf_X9_88 {i : Nat} {v : Int32} (C : gCx p s m args c G cc nL RX9) (hW : gW G s σ τ H locs) (hi : i < 112) (hk : gkind i = 6) (hv : σ i 3 = v) (hdg : decode cc pc = .ok (.getfield 88, 3)) (kk : W p l e R s m args below meth c H locs cells slots Q (F0 m (pc + 3) ls (.int v :: rest))) : W p l e R s m args below meth c H locs cells slots Q (F0 m pc ls (.ref (gAd G i) :: rest)) :=
  g_get C hW hi (gL_6 hk) rfl kin_X6 3 (by decide) rfl kf_X9_88 (by rw [← hv]; rfl) hdg kk
theorem gp_X9_88 {i : Nat} {x : Int32} (C : gCx p s m args c G cc nL RX9) (hW : gW G s σ τ H locs) (hi : i < 112) (hk : gkind i = 6) (hdg : decode cc pc = .ok (.putfield 88, 3)) (kk : ∀ (H1 : Heap) (locs1 : List Loc), gW G s (gu σ i 3 x) τ H1 locs1 → W p l e R s m args below meth c H1 locs1 cells slots Q (F0 m (pc + 3) ls rest)) : W p l e R s m args below meth c H locs cells slots Q (F0 m pc ls (.int x :: .ref (gAd G i) :: rest)) :=
  g_put (f' := (upd (σ i) 3 x)) (t' := (τ i)) (ty := .int) C hW hi (gL_6 hk) rfl kin_X6 tyX6 tyX6_ok nmX6 3 (by decide) rfl kf_X9_88 rfl (by decide +kernel) rfl rfl (Nat.le_of_ble_eq_true rfl) (gL_6 hk) hdg (fun H1 l1 h => kk H1 l1 (by rw [gup_self] at h; exact h))
theorem gf_X6_45 {i : Nat} {v : Int32} (C : gCx p s m args c G cc nL RX6) (hW : gW G s σ τ H locs) (hi : i < 112) (hk : gkind i = 6) (hv : σ i 4 = v) (hdg : decode cc pc = .ok (.getfield 45, 3)) (kk : W p l e R s m args below meth c H locs cells slots Q (F0 m (pc + 3) ls (.int v :: rest))) : W p l e R s m args below meth c H locs cells slots Q (F0 m pc ls (.ref (gAd G i) :: rest)) :=
  g_get C hW hi (gL_6 hk) rfl kin_X6 4 (by decide) rfl kf_X6_45 (by rw [← hv]; rfl) hdg kk
theorem gp_X6_45 {i : Nat} {x : Int32} (C : gCx p s m args c G cc nL RX6) (hW : gW G s σ τ H locs) (hi : i < 112) (hk : gkind i = 6) (hdg : decode cc pc = .ok (.putfield 45, 3)) (kk : ∀ (H1 : Heap) (locs1 : List Loc), gW G s (gu σ i 4 x) τ H1 locs1 → W p l e R s m args below meth c H1 locs1 cells slots Q (F0 m (pc + 3) ls rest)) : W p l e R s m args below meth c H locs cells slots Q (F0 m pc ls (.int x :: .ref (gAd G i) :: rest)) :=
  g_put (f' := (upd (σ i) 4 x)) (t' := (τ i)) (ty := .int) C hW hi (gL_6 hk) rfl kin_X6 tyX6 tyX6_ok nmX6 4 (by decide) rfl kf_X6_45 rfl (by decide +kernel) rfl rfl (Nat.le_of_ble_eq_true rfl) (gL_6 hk) hdg (fun H1 l1 h => kk H1 l1 (by rw [gup_self] at h; exact h))
theorem gf_X6_114 {i : Nat} {v : Int32} (C : gCx p s m args c G cc nL RX6) (hW : gW G s σ τ H locs) (hi : i < 112) (hk : gkind i = 6) (hv : σ i 5 = v) (hdg : decode cc pc = .ok (.getfield 114, 3)) (kk : W p l e R s m args below meth c H locs cells slots Q (F0 m (pc + 3) ls (.int v :: rest))) : W p l e R s m args below meth c H locs cells slots Q (F0 m pc ls (.ref (gAd G i) :: rest)) :=
  g_get C hW hi (gL_6 hk) rfl kin_X6 5 (by decide) rfl kf_X6_114 (by rw [← hv]; rfl) hdg kk
theorem gp_X6_114 {i : Nat} {x : Int32} (C : gCx p s m args c G cc nL RX6) (hW : gW G s σ τ H locs) (hi : i < 112) (hk : gkind i = 6) (hdg : decode cc pc = .ok (.putfield 114, 3)) (kk : ∀ (H1 : Heap) (locs1 : List Loc), gW G s (gu σ i 5 x) τ H1 locs1 → W p l e R s m args below meth c H1 locs1 cells slots Q (F0 m (pc + 3) ls rest)) : W p l e R s m args below meth c H locs cells slots Q (F0 m pc ls (.int x :: .ref (gAd G i) :: rest)) :=
  g_put (f' := (upd (σ i) 5 x)) (t' := (τ i)) (ty := .int) C hW hi (gL_6 hk) rfl kin_X6 tyX6 tyX6_ok nmX6 5 (by decide) rfl kf_X6_114 rfl (by decide +kernel) rfl rfl (Nat.le_of_ble_eq_true rfl) (gL_6 hk) hdg (fun H1 l1 h => kk H1 l1 (by rw [gup_self] at h; exact h))
theorem gf_X6_111 {i : Nat} {v : Int32} (C : gCx p s m args c G cc nL RX6) (hW : gW G s σ τ H locs) (hi : i < 112) (hk : gkind i = 6) (hv : σ i 6 = v) (hdg : decode cc pc = .ok (.getfield 111, 3)) (kk : W p l e R s m args below meth c H locs cells slots Q (F0 m (pc + 3) ls (.int v :: rest))) : W p l e R s m args below meth c H locs cells slots Q (F0 m pc ls (.ref (gAd G i) :: rest)) :=
  g_get C hW hi (gL_6 hk) rfl kin_X6 6 (by decide) rfl kf_X6_111 (by rw [← hv]; rfl) hdg kk
theorem gp_X6_111 {i : Nat} {x : Int32} (C : gCx p s m args c G cc nL RX6) (hW : gW G s σ τ H locs) (hi : i < 112) (hk : gkind i = 6) (hdg : decode cc pc = .ok (.putfield 111, 3)) (kk : ∀ (H1 : Heap) (locs1 : List Loc), gW G s (gu σ i 6 x) τ H1 locs1 → W p l e R s m args below meth c H1 locs1 cells slots Q (F0 m (pc + 3) ls rest)) : W p l e R s m args below meth c H locs cells slots Q (F0 m pc ls (.int x :: .ref (gAd G i) :: rest)) :=
  g_put (f' := (upd (σ i) 6 x)) (t' := (τ i)) (ty := .int) C hW hi (gL_6 hk) rfl kin_X6 tyX6 tyX6_ok nmX6 6 (by decide) rfl kf_X6_111 rfl (by decide +kernel) rfl rfl (Nat.le_of_ble_eq_true rfl) (gL_6 hk) hdg (fun H1 l1 h => kk H1 l1 (by rw [gup_self] at h; exact h))
theorem gf_X6_39 {i : Nat} {v : Int32} (C : gCx p s m args c G cc nL RX6) (hW : gW G s σ τ H locs) (hi : i < 112) (hk : gkind i = 6) (hv : σ i 7 = v) (hdg : decode cc pc = .ok (.getfield 39, 3)) (kk : W p l e R s m args below meth c H locs cells slots Q (F0 m (pc + 3) ls (.int v :: rest))) : W p l e R s m args below meth c H locs cells slots Q (F0 m pc ls (.ref (gAd G i) :: rest)) :=
  g_get C hW hi (gL_6 hk) rfl kin_X6 7 (by decide) rfl kf_X6_39 (by rw [← hv]; rfl) hdg kk
theorem gp_X6_39 {i : Nat} {x : Int32} (C : gCx p s m args c G cc nL RX6) (hW : gW G s σ τ H locs) (hi : i < 112) (hk : gkind i = 6) (hdg : decode cc pc = .ok (.putfield 39, 3)) (kk : ∀ (H1 : Heap) (locs1 : List Loc), gW G s (gu σ i 7 x) τ H1 locs1 → W p l e R s m args below meth c H1 locs1 cells slots Q (F0 m (pc + 3) ls rest)) : W p l e R s m args below meth c H locs cells slots Q (F0 m pc ls (.int x :: .ref (gAd G i) :: rest)) :=
  g_put (f' := (upd (σ i) 7 x)) (t' := (τ i)) (ty := .int) C hW hi (gL_6 hk) rfl kin_X6 tyX6 tyX6_ok nmX6 7 (by decide) rfl kf_X6_39 rfl (by decide +kernel) rfl rfl (Nat.le_of_ble_eq_true rfl) (gL_6 hk) hdg (fun H1 l1 h => kk H1 l1 (by rw [gup_self] at h; exact h))
theorem gf_X6_32 {i : Nat} {v : Int32} (C : gCx p s m args c G cc nL RX6) (hW : gW G s σ τ H locs) (hi : i < 112) (hk : gkind i = 6) (hv : σ i 8 = v) (hdg : decode cc pc = .ok (.getfield 32, 3)) (kk : W p l e R s m args below meth c H locs cells slots Q (F0 m (pc + 3) ls (.int v :: rest))) : W p l e R s m args below meth c H locs cells slots Q (F0 m pc ls (.ref (gAd G i) :: rest)) :=
  g_get C hW hi (gL_6 hk) rfl kin_X6 8 (by decide) rfl kf_X6_32 (by rw [← hv]; rfl) hdg kk
theorem gp_X6_32 {i : Nat} {b : Bool} (C : gCx p s m args c G cc nL RX6) (hW : gW G s σ τ H locs) (hi : i < 112) (hk : gkind i = 6) (hdg : decode cc pc = .ok (.putfield 32, 3)) (kk : ∀ (H1 : Heap) (locs1 : List Loc), gW G s (gu σ i 8 (bI b)) τ H1 locs1 → W p l e R s m args below meth c H1 locs1 cells slots Q (F0 m (pc + 3) ls rest)) : W p l e R s m args below meth c H locs cells slots Q (F0 m pc ls (.int (bI b) :: .ref (gAd G i) :: rest)) :=
  g_put (f' := (upd (σ i) 8 (bI b))) (t' := (τ i)) (ty := .boolean) C hW hi (gL_6 hk) rfl kin_X6 tyX6 tyX6_ok nmX6 8 (by decide) rfl kf_X6_32 rfl (by decide +kernel) (bI_nar b) (by cases b <;> rfl) (Nat.le_of_ble_eq_true rfl) (gL_6 hk) hdg (fun H1 l1 h => kk H1 l1 (by rw [gup_self] at h; exact h))
theorem gf_X6_36 {i : Nat} {v : Int32} (C : gCx p s m args c G cc nL RX6) (hW : gW G s σ τ H locs) (hi : i < 112) (hk : gkind i = 6) (hv : σ i 9 = v) (hdg : decode cc pc = .ok (.getfield 36, 3)) (kk : W p l e R s m args below meth c H locs cells slots Q (F0 m (pc + 3) ls (.int v :: rest))) : W p l e R s m args below meth c H locs cells slots Q (F0 m pc ls (.ref (gAd G i) :: rest)) :=
  g_get C hW hi (gL_6 hk) rfl kin_X6 9 (by decide) rfl kf_X6_36 (by rw [← hv]; rfl) hdg kk
theorem gp_X6_36 {i : Nat} {b : Bool} (C : gCx p s m args c G cc nL RX6) (hW : gW G s σ τ H locs) (hi : i < 112) (hk : gkind i = 6) (hdg : decode cc pc = .ok (.putfield 36, 3)) (kk : ∀ (H1 : Heap) (locs1 : List Loc), gW G s (gu σ i 9 (bI b)) τ H1 locs1 → W p l e R s m args below meth c H1 locs1 cells slots Q (F0 m (pc + 3) ls rest)) : W p l e R s m args below meth c H locs cells slots Q (F0 m pc ls (.int (bI b) :: .ref (gAd G i) :: rest)) :=
  g_put (f' := (upd (σ i) 9 (bI b))) (t' := (τ i)) (ty := .boolean) C hW hi (gL_6 hk) rfl kin_X6 tyX6 tyX6_ok nmX6 9 (by decide) rfl kf_X6_36 rfl (by decide +kernel) (bI_nar b) (by cases b <;> rfl) (Nat.le_of_ble_eq_true rfl) (gL_6 hk) hdg (fun H1 l1 h => kk H1 l1 (by rw [gup_self] at h; exact h))
theorem gf_X3_24 {i : Nat} {v : Int32} (C : gCx p s m args c G cc nL RX3) (hW : gW G s σ τ H locs) (hi : i < 112) (hk : gkind i = 3) (hv : σ i 0 = v) (hdg : decode cc pc = .ok (.getfield 24, 3)) (kk : W p l e R s m args below meth c H locs cells slots Q (F0 m (pc + 3) ls (.int v :: rest))) : W p l e R s m args below meth c H locs cells slots Q (F0 m pc ls (.ref (gAd G i) :: rest)) :=
  g_get C hW hi (gL_3 hk) rfl kin_X3 0 (by decide) rfl kf_X3_24 (by rw [← hv]; rfl) hdg kk
theorem gp_X3_24 {i : Nat} {x : Int32} (C : gCx p s m args c G cc nL RX3) (hW : gW G s σ τ H locs) (hi : i < 112) (hk : gkind i = 3) (hdg : decode cc pc = .ok (.putfield 24, 3)) (kk : ∀ (H1 : Heap) (locs1 : List Loc), gW G s (gu σ i 0 x) τ H1 locs1 → W p l e R s m args below meth c H1 locs1 cells slots Q (F0 m (pc + 3) ls rest)) : W p l e R s m args below meth c H locs cells slots Q (F0 m pc ls (.int x :: .ref (gAd G i) :: rest)) :=
  g_put (f' := (upd (σ i) 0 x)) (t' := (τ i)) (ty := .int) C hW hi (gL_3 hk) rfl kin_X3 tyX3 tyX3_ok nmX3 0 (by decide) rfl kf_X3_24 rfl (by decide +kernel) rfl rfl (Nat.le_of_ble_eq_true rfl) (gL_3 hk) hdg (fun H1 l1 h => kk H1 l1 (by rw [gup_self] at h; exact h))
theorem gf_X8_27 {i : Nat} {v : Int32} (C : gCx p s m args c G cc nL RX8) (hW : gW G s σ τ H locs) (hi : i < 112) (hk : gkind i = 3) (hv : σ i 0 = v) (hdg : decode cc pc = .ok (.getfield 27, 3)) (kk : W p l e R s m args below meth c H locs cells slots Q (F0 m (pc + 3) ls (.int v :: rest))) : W p l e R s m args below meth c H locs cells slots Q (F0 m pc ls (.ref (gAd G i) :: rest)) :=
  g_get C hW hi (gL_3 hk) rfl kin_X3 0 (by decide) rfl kf_X8_27 (by rw [← hv]; rfl) hdg kk
theorem gp_X8_27 {i : Nat} {x : Int32} (C : gCx p s m args c G cc nL RX8) (hW : gW G s σ τ H locs) (hi : i < 112) (hk : gkind i = 3) (hdg : decode cc pc = .ok (.putfield 27, 3)) (kk : ∀ (H1 : Heap) (locs1 : List Loc), gW G s (gu σ i 0 x) τ H1 locs1 → W p l e R s m args below meth c H1 locs1 cells slots Q (F0 m (pc + 3) ls rest)) : W p l e R s m args below meth c H locs cells slots Q (F0 m pc ls (.int x :: .ref (gAd G i) :: rest)) :=
  g_put (f' := (upd (σ i) 0 x)) (t' := (τ i)) (ty := .int) C hW hi (gL_3 hk) rfl kin_X3 tyX3 tyX3_ok nmX3 0 (by decide) rfl kf_X8_27 rfl (by decide +kernel) rfl rfl (Nat.le_of_ble_eq_true rfl) (gL_3 hk) hdg (fun H1 l1 h => kk H1 l1 (by rw [gup_self] at h; exact h))
theorem gf_X7_59 {i : Nat} {v : Int32} (C : gCx p s m args c G cc nL RX7) (hW : gW G s σ τ H locs) (hi : i < 112) (hk : gkind i = 3) (hv : σ i 0 = v) (hdg : decode cc pc = .ok (.getfield 59, 3)) (kk : W p l e R s m args below meth c H locs cells slots Q (F0 m (pc + 3) ls (.int v :: rest))) : W p l e R s m args below meth c H locs cells slots Q (F0 m pc ls (.ref (gAd G i) :: rest)) :=
  g_get C hW hi (gL_3 hk) rfl kin_X3 0 (by decide) rfl kf_X7_59 (by rw [← hv]; rfl) hdg kk
theorem gp_X7_59 {i : Nat} {x : Int32} (C : gCx p s m args c G cc nL RX7) (hW : gW G s σ τ H locs) (hi : i < 112) (hk : gkind i = 3) (hdg : decode cc pc = .ok (.putfield 59, 3)) (kk : ∀ (H1 : Heap) (locs1 : List Loc), gW G s (gu σ i 0 x) τ H1 locs1 → W p l e R s m args below meth c H1 locs1 cells slots Q (F0 m (pc + 3) ls rest)) : W p l e R s m args below meth c H locs cells slots Q (F0 m pc ls (.int x :: .ref (gAd G i) :: rest)) :=
  g_put (f' := (upd (σ i) 0 x)) (t' := (τ i)) (ty := .int) C hW hi (gL_3 hk) rfl kin_X3 tyX3 tyX3_ok nmX3 0 (by decide) rfl kf_X7_59 rfl (by decide +kernel) rfl rfl (Nat.le_of_ble_eq_true rfl) (gL_3 hk) hdg (fun H1 l1 h => kk H1 l1 (by rw [gup_self] at h; exact h))
theorem gf_X9_127 {i : Nat} {v : Int32} (C : gCx p s m args c G cc nL RX9) (hW : gW G s σ τ H locs) (hi : i < 112) (hk : gkind i = 3) (hv : σ i 0 = v) (hdg : decode cc pc = .ok (.getfield 127, 3)) (kk : W p l e R s m args below meth c H locs cells slots Q (F0 m (pc + 3) ls (.int v :: rest))) : W p l e R s m args below meth c H locs cells slots Q (F0 m pc ls (.ref (gAd G i) :: rest)) :=
  g_get C hW hi (gL_3 hk) rfl kin_X3 0 (by decide) rfl kf_X9_127 (by rw [← hv]; rfl) hdg kk
theorem gp_X9_127 {i : Nat} {x : Int32} (C : gCx p s m args c G cc nL RX9) (hW : gW G s σ τ H locs) (hi : i < 112) (hk : gkind i = 3) (hdg : decode cc pc = .ok (.putfield 127, 3)) (kk : ∀ (H1 : Heap) (locs1 : List Loc), gW G s (gu σ i 0 x) τ H1 locs1 → W p l e R s m args below meth c H1 locs1 cells slots Q (F0 m (pc + 3) ls rest)) : W p l e R s m args below meth c H locs cells slots Q (F0 m pc ls (.int x :: .ref (gAd G i) :: rest)) :=
  g_put (f' := (upd (σ i) 0 x)) (t' := (τ i)) (ty := .int) C hW hi (gL_3 hk) rfl kin_X3 tyX3 tyX3_ok nmX3 0 (by decide) rfl kf_X9_127 rfl (by decide +kernel) rfl rfl (Nat.le_of_ble_eq_true rfl) (gL_3 hk) hdg (fun H1 l1 h => kk H1 l1 (by rw [gup_self] at h; exact h))
theorem gf_X0_76 {i : Nat} {v : Int32} (C : gCx p s m args c G cc nL RX0) (hW : gW G s σ τ H locs) (hi : i < 112) (hk : gkind i = 3) (hv : σ i 0 = v) (hdg : decode cc pc = .ok (.getfield 76, 3)) (kk : W p l e R s m args below meth c H locs cells slots Q (F0 m (pc + 3) ls (.int v :: rest))) : W p l e R s m args below meth c H locs cells slots Q (F0 m pc ls (.ref (gAd G i) :: rest)) :=
  g_get C hW hi (gL_3 hk) rfl kin_X3 0 (by decide) rfl kf_X0_76 (by rw [← hv]; rfl) hdg kk
theorem gp_X0_76 {i : Nat} {x : Int32} (C : gCx p s m args c G cc nL RX0) (hW : gW G s σ τ H locs) (hi : i < 112) (hk : gkind i = 3) (hdg : decode cc pc = .ok (.putfield 76, 3)) (kk : ∀ (H1 : Heap) (locs1 : List Loc), gW G s (gu σ i 0 x) τ H1 locs1 → W p l e R s m args below meth c H1 locs1 cells slots Q (F0 m (pc + 3) ls rest)) : W p l e R s m args below meth c H locs cells slots Q (F0 m pc ls (.int x :: .ref (gAd G i) :: rest)) :=
  g_put (f' := (upd (σ i) 0 x)) (t' := (τ i)) (ty := .int) C hW hi (gL_3 hk) rfl kin_X3 tyX3 tyX3_ok nmX3 0 (by decide) rfl kf_X0_76 rfl (by decide +kernel) rfl rfl (Nat.le_of_ble_eq_true rfl) (gL_3 hk) hdg (fun H1 l1 h => kk H1 l1 (by rw [gup_self] at h; exact h))
theorem gf_X3_28 {i : Nat} {v : Int32} (C : gCx p s m args c G cc nL RX3) (hW : gW G s σ τ H locs) (hi : i < 112) (hk : gkind i = 3) (hv : σ i 1 = v) (hdg : decode cc pc = .ok (.getfield 28, 3)) (kk : W p l e R s m args below meth c H locs cells slots Q (F0 m (pc + 3) ls (.int v :: rest))) : W p l e R s m args below meth c H locs cells slots Q (F0 m pc ls (.ref (gAd G i) :: rest)) :=
  g_get C hW hi (gL_3 hk) rfl kin_X3 1 (by decide) rfl kf_X3_28 (by rw [← hv]; rfl) hdg kk
theorem gp_X3_28 {i : Nat} {x : Int32} (C : gCx p s m args c G cc nL RX3) (hW : gW G s σ τ H locs) (hi : i < 112) (hk : gkind i = 3) (hdg : decode cc pc = .ok (.putfield 28, 3)) (kk : ∀ (H1 : Heap) (locs1 : List Loc), gW G s (gu σ i 1 x) τ H1 locs1 → W p l e R s m args below meth c H1 locs1 cells slots Q (F0 m (pc + 3) ls rest)) : W p l e R s m args below meth c H locs cells slots Q (F0 m pc ls (.int x :: .ref (gAd G i) :: rest)) :=
  g_put (f' := (upd (σ i) 1 x)) (t' := (τ i)) (ty := .int) C hW hi (gL_3 hk) rfl kin_X3 tyX3 tyX3_ok nmX3 1 (by decide) rfl kf_X3_28 rfl (by decide +kernel) rfl rfl (Nat.le_of_ble_eq_true rfl) (gL_3 hk) hdg (fun H1 l1 h => kk H1 l1 (by rw [gup_self] at h; exact h))
theorem gf_X0_32 {i : Nat} {v : Int32} (C : gCx p s m args c G cc nL RX0) (hW : gW G s σ τ H locs) (hi : i < 112) (hk : gkind i = 3) (hv : σ i 1 = v) (hdg : decode cc pc = .ok (.getfield 32, 3)) (kk : W p l e R s m args below meth c H locs cells slots Q (F0 m (pc + 3) ls (.int v :: rest))) : W p l e R s m args below meth c H locs cells slots Q (F0 m pc ls (.ref (gAd G i) :: rest)) :=
  g_get C hW hi (gL_3 hk) rfl kin_X3 1 (by decide) rfl kf_X0_32 (by rw [← hv]; rfl) hdg kk
theorem gp_X0_32 {i : Nat} {x : Int32} (C : gCx p s m args c G cc nL RX0) (hW : gW G s σ τ H locs) (hi : i < 112) (hk : gkind i = 3) (hdg : decode cc pc = .ok (.putfield 32, 3)) (kk : ∀ (H1 : Heap) (locs1 : List Loc), gW G s (gu σ i 1 x) τ H1 locs1 → W p l e R s m args below meth c H1 locs1 cells slots Q (F0 m (pc + 3) ls rest)) : W p l e R s m args below meth c H locs cells slots Q (F0 m pc ls (.int x :: .ref (gAd G i) :: rest)) :=
  g_put (f' := (upd (σ i) 1 x)) (t' := (τ i)) (ty := .int) C hW hi (gL_3 hk) rfl kin_X3 tyX3 tyX3_ok nmX3 1 (by decide) rfl kf_X0_32 rfl (by decide +kernel) rfl rfl (Nat.le_of_ble_eq_true rfl) (gL_3 hk) hdg (fun H1 l1 h => kk H1 l1 (by rw [gup_self] at h; exact h))
theorem gf_X5_55 {i : Nat} {v : Int32} (C : gCx p s m args c G cc nL RX5) (hW : gW G s σ τ H locs) (hi : i < 112) (hk : gkind i = 3) (hv : σ i 1 = v) (hdg : decode cc pc = .ok (.getfield 55, 3)) (kk : W p l e R s m args below meth c H locs cells slots Q (F0 m (pc + 3) ls (.int v :: rest))) : W p l e R s m args below meth c H locs cells slots Q (F0 m pc ls (.ref (gAd G i) :: rest)) :=
  g_get C hW hi (gL_3 hk) rfl kin_X3 1 (by decide) rfl kf_X5_55 (by rw [← hv]; rfl) hdg kk
theorem gp_X5_55 {i : Nat} {x : Int32} (C : gCx p s m args c G cc nL RX5) (hW : gW G s σ τ H locs) (hi : i < 112) (hk : gkind i = 3) (hdg : decode cc pc = .ok (.putfield 55, 3)) (kk : ∀ (H1 : Heap) (locs1 : List Loc), gW G s (gu σ i 1 x) τ H1 locs1 → W p l e R s m args below meth c H1 locs1 cells slots Q (F0 m (pc + 3) ls rest)) : W p l e R s m args below meth c H locs cells slots Q (F0 m pc ls (.int x :: .ref (gAd G i) :: rest)) :=
  g_put (f' := (upd (σ i) 1 x)) (t' := (τ i)) (ty := .int) C hW hi (gL_3 hk) rfl kin_X3 tyX3 tyX3_ok nmX3 1 (by decide) rfl kf_X5_55 rfl (by decide +kernel) rfl rfl (Nat.le_of_ble_eq_true rfl) (gL_3 hk) hdg (fun H1 l1 h => kk H1 l1 (by rw [gup_self] at h; exact h))
theorem gf_X9_154 {i : Nat} {v : Int32} (C : gCx p s m args c G cc nL RX9) (hW : gW G s σ τ H locs) (hi : i < 112) (hk : gkind i = 3) (hv : σ i 1 = v) (hdg : decode cc pc = .ok (.getfield 154, 3)) (kk : W p l e R s m args below meth c H locs cells slots Q (F0 m (pc + 3) ls (.int v :: rest))) : W p l e R s m args below meth c H locs cells slots Q (F0 m pc ls (.ref (gAd G i) :: rest)) :=
  g_get C hW hi (gL_3 hk) rfl kin_X3 1 (by decide) rfl kf_X9_154 (by rw [← hv]; rfl) hdg kk
theorem gp_X9_154 {i : Nat} {x : Int32} (C : gCx p s m args c G cc nL RX9) (hW : gW G s σ τ H locs) (hi : i < 112) (hk : gkind i = 3) (hdg : decode cc pc = .ok (.putfield 154, 3)) (kk : ∀ (H1 : Heap) (locs1 : List Loc), gW G s (gu σ i 1 x) τ H1 locs1 → W p l e R s m args below meth c H1 locs1 cells slots Q (F0 m (pc + 3) ls rest)) : W p l e R s m args below meth c H locs cells slots Q (F0 m pc ls (.int x :: .ref (gAd G i) :: rest)) :=
  g_put (f' := (upd (σ i) 1 x)) (t' := (τ i)) (ty := .int) C hW hi (gL_3 hk) rfl kin_X3 tyX3 tyX3_ok nmX3 1 (by decide) rfl kf_X9_154 rfl (by decide +kernel) rfl rfl (Nat.le_of_ble_eq_true rfl) (gL_3 hk) hdg (fun H1 l1 h => kk H1 l1 (by rw [gup_self] at h; exact h))
theorem gf_X3_9 {i : Nat} (C : gCx p s m args c G cc nL RX3) (hW : gW G s σ τ H locs) (hi : i < 112) (hk : gkind i = 3) (hdg : decode cc pc = .ok (.getfield 9, 3)) (kk : W p l e R s m args below meth c H locs cells slots Q (F0 m (pc + 3) ls (.ref (gAd G (i + 1)) :: rest))) : W p l e R s m args below meth c H locs cells slots Q (F0 m pc ls (.ref (gAd G i) :: rest)) :=
  g_get C hW hi (gL_3 hk) rfl kin_X3 2 (by decide) rfl kf_X3_9 rfl hdg kk
theorem gf_X9_121 {i : Nat} (C : gCx p s m args c G cc nL RX9) (hW : gW G s σ τ H locs) (hi : i < 112) (hk : gkind i = 3) (hdg : decode cc pc = .ok (.getfield 121, 3)) (kk : W p l e R s m args below meth c H locs cells slots Q (F0 m (pc + 3) ls (.ref (gAd G (i + 1)) :: rest))) : W p l e R s m args below meth c H locs cells slots Q (F0 m pc ls (.ref (gAd G i) :: rest)) :=
  g_get C hW hi (gL_3 hk) rfl kin_X3 2 (by decide) rfl kf_X9_121 rfl hdg kk
theorem gf_X8_69 {i : Nat} (C : gCx p s m args c G cc nL RX8) (hW : gW G s σ τ H locs) (hi : i < 112) (hk : gkind i = 3) (hdg : decode cc pc = .ok (.getfield 69, 3)) (kk : W p l e R s m args below meth c H locs cells slots Q (F0 m (pc + 3) ls (.ref (gAd G (i + 1)) :: rest))) : W p l e R s m args below meth c H locs cells slots Q (F0 m pc ls (.ref (gAd G i) :: rest)) :=
  g_get C hW hi (gL_3 hk) rfl kin_X3 2 (by decide) rfl kf_X8_69 rfl hdg kk
theorem gf_X0_75 {i : Nat} (C : gCx p s m args c G cc nL RX0) (hW : gW G s σ τ H locs) (hi : i < 112) (hk : gkind i = 3) (hdg : decode cc pc = .ok (.getfield 75, 3)) (kk : W p l e R s m args below meth c H locs cells slots Q (F0 m (pc + 3) ls (.ref (gAd G (i + 1)) :: rest))) : W p l e R s m args below meth c H locs cells slots Q (F0 m pc ls (.ref (gAd G i) :: rest)) :=
  g_get C hW hi (gL_3 hk) rfl kin_X3 2 (by decide) rfl kf_X0_75 rfl hdg kk
theorem gf_X3_15 {i : Nat} (C : gCx p s m args c G cc nL RX3) (hW : gW G s σ τ H locs) (hi : i < 112) (hk : gkind i = 3) (hdg : decode cc pc = .ok (.getfield 15, 3)) (kk : W p l e R s m args below meth c H locs cells slots Q (F0 m (pc + 3) ls (.ref (gAd G (i + 2)) :: rest))) : W p l e R s m args below meth c H locs cells slots Q (F0 m pc ls (.ref (gAd G i) :: rest)) :=
  g_get C hW hi (gL_3 hk) rfl kin_X3 3 (by decide) rfl kf_X3_15 rfl hdg kk
theorem gf_X9_117 {i : Nat} (C : gCx p s m args c G cc nL RX9) (hW : gW G s σ τ H locs) (hi : i < 112) (hk : gkind i = 3) (hdg : decode cc pc = .ok (.getfield 117, 3)) (kk : W p l e R s m args below meth c H locs cells slots Q (F0 m (pc + 3) ls (.ref (gAd G (i + 2)) :: rest))) : W p l e R s m args below meth c H locs cells slots Q (F0 m pc ls (.ref (gAd G i) :: rest)) :=
  g_get C hW hi (gL_3 hk) rfl kin_X3 3 (by decide) rfl kf_X9_117 rfl hdg kk
theorem gf_X8_66 {i : Nat} (C : gCx p s m args c G cc nL RX8) (hW : gW G s σ τ H locs) (hi : i < 112) (hk : gkind i = 3) (hdg : decode cc pc = .ok (.getfield 66, 3)) (kk : W p l e R s m args below meth c H locs cells slots Q (F0 m (pc + 3) ls (.ref (gAd G (i + 2)) :: rest))) : W p l e R s m args below meth c H locs cells slots Q (F0 m pc ls (.ref (gAd G i) :: rest)) :=
  g_get C hW hi (gL_3 hk) rfl kin_X3 3 (by decide) rfl kf_X8_66 rfl hdg kk
theorem gf_X0_79 {i : Nat} (C : gCx p s m args c G cc nL RX0) (hW : gW G s σ τ H locs) (hi : i < 112) (hk : gkind i = 3) (hdg : decode cc pc = .ok (.getfield 79, 3)) (kk : W p l e R s m args below meth c H locs cells slots Q (F0 m (pc + 3) ls (.ref (gAd G (i + 2)) :: rest))) : W p l e R s m args below meth c H locs cells slots Q (F0 m pc ls (.ref (gAd G i) :: rest)) :=
  g_get C hW hi (gL_3 hk) rfl kin_X3 3 (by decide) rfl kf_X0_79 rfl hdg kk
theorem gf_X3_18 {i : Nat} (C : gCx p s m args c G cc nL RX3) (hW : gW G s σ τ H locs) (hi : i < 112) (hk : gkind i = 3) (hdg : decode cc pc = .ok (.getfield 18, 3)) (kk : W p l e R s m args below meth c H locs cells slots Q (F0 m (pc + 3) ls (.ref (gAd G (i + 3)) :: rest))) : W p l e R s m args below meth c H locs cells slots Q (F0 m pc ls (.ref (gAd G i) :: rest)) :=
  g_get C hW hi (gL_3 hk) rfl kin_X3 4 (by decide) rfl kf_X3_18 rfl hdg kk
theorem gf_X9_124 {i : Nat} (C : gCx p s m args c G cc nL RX9) (hW : gW G s σ τ H locs) (hi : i < 112) (hk : gkind i = 3) (hdg : decode cc pc = .ok (.getfield 124, 3)) (kk : W p l e R s m args below meth c H locs cells slots Q (F0 m (pc + 3) ls (.ref (gAd G (i + 3)) :: rest))) : W p l e R s m args below meth c H locs cells slots Q (F0 m pc ls (.ref (gAd G i) :: rest)) :=
  g_get C hW hi (gL_3 hk) rfl kin_X3 4 (by decide) rfl kf_X9_124 rfl hdg kk
theorem gf_X5_73 {i : Nat} (C : gCx p s m args c G cc nL RX5) (hW : gW G s σ τ H locs) (hi : i < 112) (hk : gkind i = 3) (hdg : decode cc pc = .ok (.getfield 73, 3)) (kk : W p l e R s m args below meth c H locs cells slots Q (F0 m (pc + 3) ls (.ref (gAd G (i + 3)) :: rest))) : W p l e R s m args below meth c H locs cells slots Q (F0 m pc ls (.ref (gAd G i) :: rest)) :=
  g_get C hW hi (gL_3 hk) rfl kin_X3 4 (by decide) rfl kf_X5_73 rfl hdg kk
theorem gf_X0_95 {i : Nat} (C : gCx p s m args c G cc nL RX0) (hW : gW G s σ τ H locs) (hi : i < 112) (hk : gkind i = 3) (hdg : decode cc pc = .ok (.getfield 95, 3)) (kk : W p l e R s m args below meth c H locs cells slots Q (F0 m (pc + 3) ls (.ref (gAd G (i + 3)) :: rest))) : W p l e R s m args below meth c H locs cells slots Q (F0 m pc ls (.ref (gAd G i) :: rest)) :=
  g_get C hW hi (gL_3 hk) rfl kin_X3 4 (by decide) rfl kf_X0_95 rfl hdg kk
theorem gf_X3_21 {i : Nat} (C : gCx p s m args c G cc nL RX3) (hW : gW G s σ τ H locs) (hi : i < 112) (hk : gkind i = 3) (hdg : decode cc pc = .ok (.getfield 21, 3)) (kk : W p l e R s m args below meth c H locs cells slots Q (F0 m (pc + 3) ls (.ref (gAd G (i + 4)) :: rest))) : W p l e R s m args below meth c H locs cells slots Q (F0 m pc ls (.ref (gAd G i) :: rest)) :=
  g_get C hW hi (gL_3 hk) rfl kin_X3 5 (by decide) rfl kf_X3_21 rfl hdg kk
theorem gf_X0_58 {i : Nat} (C : gCx p s m args c G cc nL RX0) (hW : gW G s σ τ H locs) (hi : i < 112) (hk : gkind i = 3) (hdg : decode cc pc = .ok (.getfield 58, 3)) (kk : W p l e R s m args below meth c H locs cells slots Q (F0 m (pc + 3) ls (.ref (gAd G (i + 4)) :: rest))) : W p l e R s m args below meth c H locs cells slots Q (F0 m pc ls (.ref (gAd G i) :: rest)) :=
  g_get C hW hi (gL_3 hk) rfl kin_X3 5 (by decide) rfl kf_X0_58 rfl hdg kk
theorem gf_X9_144 {i : Nat} (C : gCx p s m args c G cc nL RX9) (hW : gW G s σ τ H locs) (hi : i < 112) (hk : gkind i = 3) (hdg : decode cc pc = .ok (.getfield 144, 3)) (kk : W p l e R s m args below meth c H locs cells slots Q (F0 m (pc + 3) ls (.ref (gAd G (i + 4)) :: rest))) : W p l e R s m args below meth c H locs cells slots Q (F0 m pc ls (.ref (gAd G i) :: rest)) :=
  g_get C hW hi (gL_3 hk) rfl kin_X3 5 (by decide) rfl kf_X9_144 rfl hdg kk
theorem gf_X5_76 {i : Nat} (C : gCx p s m args c G cc nL RX5) (hW : gW G s σ τ H locs) (hi : i < 112) (hk : gkind i = 3) (hdg : decode cc pc = .ok (.getfield 76, 3)) (kk : W p l e R s m args below meth c H locs cells slots Q (F0 m (pc + 3) ls (.ref (gAd G (i + 4)) :: rest))) : W p l e R s m args below meth c H locs cells slots Q (F0 m pc ls (.ref (gAd G i) :: rest)) :=
  g_get C hW hi (gL_3 hk) rfl kin_X3 5 (by decide) rfl kf_X5_76 rfl hdg kk
theorem gf_X0_12 {i : Nat} (C : gCx p s m args c G cc nL RX0) (hW : gW G s σ τ H locs) (hi : i < 112) (hk : gkind i = 0) (hdg : decode cc pc = .ok (.getfield 12, 3)) (kk : W p l e R s m args below meth c H locs cells slots Q (F0 m (pc + 3) ls (.ref (gAd G (i + 1)) :: rest))) : W p l e R s m args below meth c H locs cells slots Q (F0 m pc ls (.ref (gAd G i) :: rest)) :=
  g_get C hW hi (gL_0 hk) rfl kin_X0 0 (by decide) rfl kf_X0_12 rfl hdg kk
theorem gf_X8_37 {i : Nat} (C : gCx p s m args c G cc nL RX8) (hW : gW G s σ τ H locs) (hi : i < 112) (hk : gkind i = 0) (hdg : decode cc pc = .ok (.getfield 37, 3)) (kk : W p l e R s m args below meth c H locs cells slots Q (F0 m (pc + 3) ls (.ref (gAd G (i + 1)) :: rest))) : W p l e R s m args below meth c H locs cells slots Q (F0 m pc ls (.ref (gAd G i) :: rest)) :=
  g_get C hW hi (gL_0 hk) rfl kin_X0 0 (by decide) rfl kf_X8_37 rfl hdg kk
theorem gf_X7_33 {i : Nat} (C : gCx p s m args c G cc nL RX7) (hW : gW G s σ τ H locs) (hi : i < 112) (hk : gkind i = 0) (hdg : decode cc pc = .ok (.getfield 33, 3)) (kk : W p l e R s m args below meth c H locs cells slots Q (F0 m (pc + 3) ls (.ref (gAd G (i + 1)) :: rest))) : W p l e R s m args below meth c H locs cells slots Q (F0 m pc ls (.ref (gAd G i) :: rest)) :=
  g_get C hW hi (gL_0 hk) rfl kin_X0 0 (by decide) rfl kf_X7_33 rfl hdg kk
theorem gf_X5_32 {i : Nat} (C : gCx p s m args c G cc nL RX5) (hW : gW G s σ τ H locs) (hi : i < 112) (hk : gkind i = 0) (hdg : decode cc pc = .ok (.getfield 32, 3)) (kk : W p l e R s m args below meth c H locs cells slots Q (F0 m (pc + 3) ls (.ref (gAd G (i + 1)) :: rest))) : W p l e R s m args below meth c H locs cells slots Q (F0 m pc ls (.ref (gAd G i) :: rest)) :=
  g_get C hW hi (gL_0 hk) rfl kin_X0 0 (by decide) rfl kf_X5_32 rfl hdg kk
theorem gf_X1_25 {i : Nat} (C : gCx p s m args c G cc nL RX1) (hW : gW G s σ τ H locs) (hi : i < 112) (hk : gkind i = 0) (hdg : decode cc pc = .ok (.getfield 25, 3)) (kk : W p l e R s m args below meth c H locs cells slots Q (F0 m (pc + 3) ls (.ref (gAd G (i + 1)) :: rest))) : W p l e R s m args below meth c H locs cells slots Q (F0 m pc ls (.ref (gAd G i) :: rest)) :=
  g_get C hW hi (gL_0 hk) rfl kin_X0 0 (by decide) rfl kf_X1_25 rfl hdg kk
theorem gf_X9_105 {i : Nat} (C : gCx p s m args c G cc nL RX9) (hW : gW G s σ τ H locs) (hi : i < 112) (hk : gkind i = 0) (hdg : decode cc pc = .ok (.getfield 105, 3)) (kk : W p l e R s m args below meth c H locs cells slots Q (F0 m (pc + 3) ls (.ref (gAd G (i + 1)) :: rest))) : W p l e R s m args below meth c H locs cells slots Q (F0 m pc ls (.ref (gAd G i) :: rest)) :=
  g_get C hW hi (gL_0 hk) rfl kin_X0 0 (by decide) rfl kf_X9_105 rfl hdg kk
theorem gf_X0_21 {i : Nat} (C : gCx p s m args c G cc nL RX0) (hW : gW G s σ τ H locs) (hi : i < 112) (hk : gkind i = 0) (hdg : decode cc pc = .ok (.getfield 21, 3)) (kk : W p l e R s m args below meth c H locs cells slots Q (F0 m (pc + 3) ls (.ref (gAd G (i + 7)) :: rest))) : W p l e R s m args below meth c H locs cells slots Q (F0 m pc ls (.ref (gAd G i) :: rest)) :=
  g_get C hW hi (gL_0 hk) rfl kin_X0 1 (by decide) rfl kf_X0_21 rfl hdg kk
theorem gf_X8_21 {i : Nat} (C : gCx p s m args c G cc nL RX8) (hW : gW G s σ τ H locs) (hi : i < 112) (hk : gkind i = 0) (hdg : decode cc pc = .ok (.getfield 21, 3)) (kk : W p l e R s m args below meth c H locs cells slots Q (F0 m (pc + 3) ls (.ref (gAd G (i + 7)) :: rest))) : W p l e R s m args below meth c H locs cells slots Q (F0 m pc ls (.ref (gAd G i) :: rest)) :=
  g_get C hW hi (gL_0 hk) rfl kin_X0 1 (by decide) rfl kf_X8_21 rfl hdg kk
theorem gf_X7_55 {i : Nat} (C : gCx p s m args c G cc nL RX7) (hW : gW G s σ τ H locs) (hi : i < 112) (hk : gkind i = 0) (hdg : decode cc pc = .ok (.getfield 55, 3)) (kk : W p l e R s m args below meth c H locs cells slots Q (F0 m (pc + 3) ls (.ref (gAd G (i + 7)) :: rest))) : W p l e R s m args below meth c H locs cells slots Q (F0 m pc ls (.ref (gAd G i) :: rest)) :=
  g_get C hW hi (gL_0 hk) rfl kin_X0 1 (by decide) rfl kf_X7_55 rfl hdg kk
theorem gf_X9_113 {i : Nat} (C : gCx p s m args c G cc nL RX9) (hW : gW G s σ τ H locs) (hi : i < 112) (hk : gkind i = 0) (hdg : decode cc pc = .ok (.getfield 113, 3)) (kk : W p l e R s m args below meth c H locs cells slots Q (F0 m (pc + 3) ls (.ref (gAd G (i + 7)) :: rest))) : W p l e R s m args below meth c H locs cells slots Q (F0 m pc ls (.ref (gAd G i) :: rest)) :=
  g_get C hW hi (gL_0 hk) rfl kin_X0 1 (by decide) rfl kf_X9_113 rfl hdg kk
theorem gf_X5_51 {i : Nat} (C : gCx p s m args c G cc nL RX5) (hW : gW G s σ τ H locs) (hi : i < 112) (hk : gkind i = 0) (hdg : decode cc pc = .ok (.getfield 51, 3)) (kk : W p l e R s m args below meth c H locs cells slots Q (F0 m (pc + 3) ls (.ref (gAd G (i + 7)) :: rest))) : W p l e R s m args below meth c H locs cells slots Q (F0 m pc ls (.ref (gAd G i) :: rest)) :=
  g_get C hW hi (gL_0 hk) rfl kin_X0 1 (by decide) rfl kf_X5_51 rfl hdg kk
theorem gf_X2_11 {i : Nat} (C : gCx p s m args c G cc nL RX2) (hW : gW G s σ τ H locs) (hi : i < 112) (hk : gkind i = 2) (hdg : decode cc pc = .ok (.getfield 11, 3)) (kk : W p l e R s m args below meth c H locs cells slots Q (F0 m (pc + 3) ls (.ref (gAd G (i + 1)) :: rest))) : W p l e R s m args below meth c H locs cells slots Q (F0 m pc ls (.ref (gAd G i) :: rest)) :=
  g_get C hW hi (gL_2 hk) rfl kin_X2 0 (by decide) rfl kf_X2_11 rfl hdg kk
theorem gf_X2_26 {i : Nat} {v : Int32} (C : gCx p s m args c G cc nL RX2) (hW : gW G s σ τ H locs) (hi : i < 112) (hk : gkind i = 2) (hv : σ i 1 = v) (hdg : decode cc pc = .ok (.getfield 26, 3)) (kk : W p l e R s m args below meth c H locs cells slots Q (F0 m (pc + 3) ls (.int v :: rest))) : W p l e R s m args below meth c H locs cells slots Q (F0 m pc ls (.ref (gAd G i) :: rest)) :=
  g_get C hW hi (gL_2 hk) rfl kin_X2 1 (by decide) rfl kf_X2_26 (by rw [← hv]; rfl) hdg kk
theorem gp_X2_26 {i : Nat} {x : Int32} (C : gCx p s m args c G cc nL RX2) (hW : gW G s σ τ H locs) (hi : i < 112) (hk : gkind i = 2) (hdg : decode cc pc = .ok (.putfield 26, 3)) (kk : ∀ (H1 : Heap) (locs1 : List Loc), gW G s (gu σ i 1 x) τ H1 locs1 → W p l e R s m args below meth c H1 locs1 cells slots Q (F0 m (pc + 3) ls rest)) : W p l e R s m args below meth c H locs cells slots Q (F0 m pc ls (.int x :: .ref (gAd G i) :: rest)) :=
  g_put (f' := (upd (σ i) 1 x)) (t' := (τ i)) (ty := .int) C hW hi (gL_2 hk) rfl kin_X2 tyX2 tyX2_ok nmX2 1 (by decide) rfl kf_X2_26 rfl (by decide +kernel) rfl rfl (Nat.le_of_ble_eq_true rfl) (gL_2 hk) hdg (fun H1 l1 h => kk H1 l1 (by rw [gup_self] at h; exact h))
theorem gf_X9_166 {i : Nat} {v : Int32} (C : gCx p s m args c G cc nL RX9) (hW : gW G s σ τ H locs) (hi : i < 112) (hk : gkind i = 2) (hv : σ i 1 = v) (hdg : decode cc pc = .ok (.getfield 166, 3)) (kk : W p l e R s m args below meth c H locs cells slots Q (F0 m (pc + 3) ls (.int v :: rest))) : W p l e R s m args below meth c H locs cells slots Q (F0 m pc ls (.ref (gAd G i) :: rest)) :=
  g_get C hW hi (gL_2 hk) rfl kin_X2 1 (by decide) rfl kf_X9_166 (by rw [← hv]; rfl) hdg kk
theorem gp_X9_166 {i : Nat} {x : Int32} (C : gCx p s m args c G cc nL RX9) (hW : gW G s σ τ H locs) (hi : i < 112) (hk : gkind i = 2) (hdg : decode cc pc = .ok (.putfield 166, 3)) (kk : ∀ (H1 : Heap) (locs1 : List Loc), gW G s (gu σ i 1 x) τ H1 locs1 → W p l e R s m args below meth c H1 locs1 cells slots Q (F0 m (pc + 3) ls rest)) : W p l e R s m args below meth c H locs cells slots Q (F0 m pc ls (.int x :: .ref (gAd G i) :: rest)) :=
  g_put (f' := (upd (σ i) 1 x)) (t' := (τ i)) (ty := .int) C hW hi (gL_2 hk) rfl kin_X2 tyX2 tyX2_ok nmX2 1 (by decide) rfl kf_X9_166 rfl (by decide +kernel) rfl rfl (Nat.le_of_ble_eq_true rfl) (gL_2 hk) hdg (fun H1 l1 h => kk H1 l1 (by rw [gup_self] at h; exact h))
theorem gf_X2_18 {i : Nat} {v : Int32} (C : gCx p s m args c G cc nL RX2) (hW : gW G s σ τ H locs) (hi : i < 112) (hk : gkind i = 2) (hv : σ i 2 = v) (hdg : decode cc pc = .ok (.getfield 18, 3)) (kk : W p l e R s m args below meth c H locs cells slots Q (F0 m (pc + 3) ls (.int v :: rest))) : W p l e R s m args below meth c H locs cells slots Q (F0 m pc ls (.ref (gAd G i) :: rest)) :=
  g_get C hW hi (gL_2 hk) rfl kin_X2 2 (by decide) rfl kf_X2_18 (by rw [← hv]; rfl) hdg kk
theorem gp_X2_18 {i : Nat} {x : Int32} (C : gCx p s m args c G cc nL RX2) (hW : gW G s σ τ H locs) (hi : i < 112) (hk : gkind i = 2) (hdg : decode cc pc = .ok (.putfield 18, 3)) (kk : ∀ (H1 : Heap) (locs1 : List Loc), gW G s (gu σ i 2 x) τ H1 locs1 → W p l e R s m args below meth c H1 locs1 cells slots Q (F0 m (pc + 3) ls rest)) : W p l e R s m args below meth c H locs cells slots Q (F0 m pc ls (.int x :: .ref (gAd G i) :: rest)) :=
  g_put (f' := (upd (σ i) 2 x)) (t' := (τ i)) (ty := .int) C hW hi (gL_2 hk) rfl kin_X2 tyX2 tyX2_ok nmX2 2 (by decide) rfl kf_X2_18 rfl (by decide +kernel) rfl rfl (Nat.le_of_ble_eq_true rfl) (gL_2 hk) hdg (fun H1 l1 h => kk H1 l1 (by rw [gup_self] at h; exact h))
theorem gf_X1_21 {i : Nat} {v : Int32} (C : gCx p s m args c G cc nL RX1) (hW : gW G s σ τ H locs) (hi : i < 112) (hk : gkind i = 1) (hv : σ i 0 = v) (hdg : decode cc pc = .ok (.getfield 21, 3)) (kk : W p l e R s m args below meth c H locs cells slots Q (F0 m (pc + 3) ls (.int v :: rest))) : W p l e R s m args below meth c H locs cells slots Q (F0 m pc ls (.ref (gAd G i) :: rest)) :=
  g_get C hW hi (gL_1 hk) rfl kin_X1 0 (by decide) rfl kf_X1_21 (by rw [← hv]; rfl) hdg kk
theorem gp_X1_21 {i : Nat} {x : Int32} (C : gCx p s m args c G cc nL RX1) (hW : gW G s σ τ H locs) (hi : i < 112) (hk : gkind i = 1) (hdg : decode cc pc = .ok (.putfield 21, 3)) (kk : ∀ (H1 : Heap) (locs1 : List Loc), gW G s (gu σ i 0 x) τ H1 locs1 → W p l e R s m args below meth c H1 locs1 cells slots Q (F0 m (pc + 3) ls rest)) : W p l e R s m args below meth c H locs cells slots Q (F0 m pc ls (.int x :: .ref (gAd G i) :: rest)) :=
  g_put (f' := (upd (σ i) 0 x)) (t' := (τ i)) (ty := .int) C hW hi (gL_1 hk) rfl kin_X1 tyX1 tyX1_ok nmX1 0 (by decide) rfl kf_X1_21 rfl (by decide +kernel) rfl rfl (Nat.le_of_ble_eq_true rfl) (gL_1 hk) hdg (fun H1 l1 h => kk H1 l1 (by rw [gup_self] at h; exact h))
theorem gf_X9_224 {i : Nat} {v : Int32} (C : gCx p s m args c G cc nL RX9) (hW : gW G s σ τ H locs) (hi : i < 112) (hk : gkind i = 1) (hv : σ i 0 = v) (hdg : decode cc pc = .ok (.getfield 224, 3)) (kk : W p l e R s m args below meth c H locs cells slots Q (F0 m (pc + 3) ls (.int v :: rest))) : W p l e R s m args below meth c H locs cells slots Q (F0 m pc ls (.ref (gAd G i) :: rest)) :=
  g_get C hW hi (gL_1 hk) rfl kin_X1 0 (by decide) rfl kf_X9_224 (by rw [← hv]; rfl) hdg kk
theorem gp_X9_224 {i : Nat} {x : Int32} (C : gCx p s m args c G cc nL RX9) (hW : gW G s σ τ H locs) (hi : i < 112) (hk : gkind i = 1) (hdg : decode cc pc = .ok (.putfield 224, 3)) (kk : ∀ (H1 : Heap) (locs1 : List Loc), gW G s (gu σ i 0 x) τ H1 locs1 → W p l e R s m args below meth c H1 locs1 cells slots Q (F0 m (pc + 3) ls rest)) : W p l e R s m args below meth c H locs cells slots Q (F0 m pc ls (.int x :: .ref (gAd G i) :: rest)) :=
  g_put (f' := (upd (σ i) 0 x)) (t' := (τ i)) (ty := .int) C hW hi (gL_1 hk) rfl kin_X1 tyX1 tyX1_ok nmX1 0 (by decide) rfl kf_X9_224 rfl (by decide +kernel) rfl rfl (Nat.le_of_ble_eq_true rfl) (gL_1 hk) hdg (fun H1 l1 h => kk H1 l1 (by rw [gup_self] at h; exact h))
theorem gf_X1_9 {i : Nat} (C : gCx p s m args c G cc nL RX1) (hW : gW G s σ τ H locs) (hi : i < 112) (hk : gkind i = 1) (hdg : decode cc pc = .ok (.getfield 9, 3)) (kk : W p l e R s m args below meth c H locs cells slots Q (F0 m (pc + 3) ls (.ref (gAd G (i + 1)) :: rest))) : W p l e R s m args below meth c H locs cells slots Q (F0 m pc ls (.ref (gAd G i) :: rest)) :=
  g_get C hW hi (gL_1 hk) rfl kin_X1 1 (by decide) rfl kf_X1_9 rfl hdg kk
theorem gf_X1_15 {i : Nat} (C : gCx p s m args c G cc nL RX1) (hW : gW G s σ τ H locs) (hi : i < 112) (hk : gkind i = 1) (hdg : decode cc pc = .ok (.getfield 15, 3)) (kk : W p l e R s m args below meth c H locs cells slots Q (F0 m (pc + 3) ls (.ref (gAd G (i + 2)) :: rest))) : W p l e R s m args below meth c H locs cells slots Q (F0 m pc ls (.ref (gAd G i) :: rest)) :=
  g_get C hW hi (gL_1 hk) rfl kin_X1 2 (by decide) rfl kf_X1_15 rfl hdg kk
theorem gf_X1_18 {i : Nat} (C : gCx p s m args c G cc nL RX1) (hW : gW G s σ τ H locs) (hi : i < 112) (hk : gkind i = 1) (hdg : decode cc pc = .ok (.getfield 18, 3)) (kk : W p l e R s m args below meth c H locs cells slots Q (F0 m (pc + 3) ls (.ref (gAd G (i + 3)) :: rest))) : W p l e R s m args below meth c H locs cells slots Q (F0 m pc ls (.ref (gAd G i) :: rest)) :=
  g_get C hW hi (gL_1 hk) rfl kin_X1 3 (by decide) rfl kf_X1_18 rfl hdg kk
theorem gf_X8_9 {i : Nat} (C : gCx p s m args c G cc nL RX8) (hW : gW G s σ τ H locs) (hi : i < 112) (hk : gkind i = 8) (hdg : decode cc pc = .ok (.getfield 9, 3)) (kk : W p l e R s m args below meth c H locs cells slots Q (F0 m (pc + 3) ls (.ref (gAd G (i + 1)) :: rest))) : W p l e R s m args below meth c H locs cells slots Q (F0 m pc ls (.ref (gAd G i) :: rest)) :=
  g_get C hW hi (gL_8 hk) rfl kin_X8 0 (by decide) rfl kf_X8_9 rfl hdg kk
theorem gf_X8_15 {i : Nat} (C : gCx p s m args c G cc nL RX8) (hW : gW G s σ τ H locs) (hi : i < 112) (hk : gkind i = 8) (hdg : decode cc pc = .ok (.getfield 15, 3)) (kk : W p l e R s m args below meth c H locs cells slots Q (F0 m (pc + 3) ls (.ref (gAd G (i + 2)) :: rest))) : W p l e R s m args below meth c H locs cells slots Q (F0 m pc ls (.ref (gAd G i) :: rest)) :=
  g_get C hW hi (gL_8 hk) rfl kin_X8 1 (by decide) rfl kf_X8_15 rfl hdg kk
theorem gf_X8_18 {i : Nat} (C : gCx p s m args c G cc nL RX8) (hW : gW G s σ τ H locs) (hi : i < 112) (hk : gkind i = 8) (hdg : decode cc pc = .ok (.getfield 18, 3)) (kk : W p l e R s m args below meth c H locs cells slots Q (F0 m (pc + 3) ls (.ref (gAd G (i + 3)) :: rest))) : W p l e R s m args below meth c H locs cells slots Q (F0 m pc ls (.ref (gAd G i) :: rest)) :=
  g_get C hW hi (gL_8 hk) rfl kin_X8 2 (by decide) rfl kf_X8_18 rfl hdg kk
theorem gf_X7_9 {i : Nat} (C : gCx p s m args c G cc nL RX7) (hW : gW G s σ τ H locs) (hi : i < 112) (hk : gkind i = 7) (hdg : decode cc pc = .ok (.getfield 9, 3)) (kk : W p l e R s m args below meth c H locs cells slots Q (F0 m (pc + 3) ls (.ref (gAd G (i + 1)) :: rest))) : W p l e R s m args below meth c H locs cells slots Q (F0 m pc ls (.ref (gAd G i) :: rest)) :=
  g_get C hW hi (gL_7 hk) rfl kin_X7 0 (by decide) rfl kf_X7_9 rfl hdg kk
theorem gf_X7_52 {i : Nat} {v : Int32} (C : gCx p s m args c G cc nL RX7) (hW : gW G s σ τ H locs) (hi : i < 112) (hk : gkind i = 7) (hv : σ i 1 = v) (hdg : decode cc pc = .ok (.getfield 52, 3)) (kk : W p l e R s m args below meth c H locs cells slots Q (F0 m (pc + 3) ls (.int v :: rest))) : W p l e R s m args below meth c H locs cells slots Q (F0 m pc ls (.ref (gAd G i) :: rest)) :=
  g_get C hW hi (gL_7 hk) rfl kin_X7 1 (by decide) rfl kf_X7_52 (by rw [← hv]; rfl) hdg kk
theorem gp_X7_52 {i : Nat} {x : Int32} (C : gCx p s m args c G cc nL RX7) (hW : gW G s σ τ H locs) (hi : i < 112) (hk : gkind i = 7) (hdg : decode cc pc = .ok (.putfield 52, 3)) (kk : ∀ (H1 : Heap) (locs1 : List Loc), gW G s (gu σ i 1 x) τ H1 locs1 → W p l e R s m args below meth c H1 locs1 cells slots Q (F0 m (pc + 3) ls rest)) : W p l e R s m args below meth c H locs cells slots Q (F0 m pc ls (.int x :: .ref (gAd G i) :: rest)) :=
  g_put (f' := (upd (σ i) 1 x)) (t' := (τ i)) (ty := .int) C hW hi (gL_7 hk) rfl kin_X7 tyX7 tyX7_ok nmX7 1 (by decide) rfl kf_X7_52 rfl (by decide +kernel) rfl rfl (Nat.le_of_ble_eq_true rfl) (gL_7 hk) hdg (fun H1 l1 h => kk H1 l1 (by rw [gup_self] at h; exact h))
theorem gf_X5_28 {i : Nat} (C : gCx p s m args c G cc nL RX5) (hW : gW G s σ τ H locs) (hi : i < 112) (hk : gkind i = 5) (hdg : decode cc pc = .ok (.getfield 28, 3)) (kk : W p l e R s m args below meth c H locs cells slots Q (F0 m (pc + 3) ls (.long (τ i) :: rest))) : W p l e R s m args below meth c H locs cells slots Q (F0 m pc ls (.ref (gAd G i) :: rest)) :=
  g_get C hW hi (gL_5 hk) rfl kin_X5 0 (by decide) rfl kf_X5_28 rfl hdg kk
theorem gp_X5_28 {i : Nat} {x : Int64} (C : gCx p s m args c G cc nL RX5) (hW : gW G s σ τ H locs) (hi : i < 112) (hk : gkind i = 5) (hdg : decode cc pc = .ok (.putfield 28, 3)) (kk : ∀ (H1 : Heap) (locs1 : List Loc), gW G s σ (va_up τ i x) H1 locs1 → W p l e R s m args below meth c H1 locs1 cells slots Q (F0 m (pc + 3) ls rest)) : W p l e R s m args below meth c H locs cells slots Q (F0 m pc ls (.long x :: .ref (gAd G i) :: rest)) :=
  g_put (f' := (σ i)) (t' := x) (ty := .long) C hW hi (gL_5 hk) rfl kin_X5 tyX5 tyX5_ok nmX5 0 (by decide) rfl kf_X5_28 rfl (by decide +kernel) rfl rfl (Nat.le_of_ble_eq_true rfl) (gL_5 hk) hdg (fun H1 l1 h => kk H1 l1 (by rw [gup_self] at h; exact h))
theorem gf_X9_269 {i : Nat} (C : gCx p s m args c G cc nL RX9) (hW : gW G s σ τ H locs) (hi : i < 112) (hk : gkind i = 5) (hdg : decode cc pc = .ok (.getfield 269, 3)) (kk : W p l e R s m args below meth c H locs cells slots Q (F0 m (pc + 3) ls (.long (τ i) :: rest))) : W p l e R s m args below meth c H locs cells slots Q (F0 m pc ls (.ref (gAd G i) :: rest)) :=
  g_get C hW hi (gL_5 hk) rfl kin_X5 0 (by decide) rfl kf_X9_269 rfl hdg kk
theorem gp_X9_269 {i : Nat} {x : Int64} (C : gCx p s m args c G cc nL RX9) (hW : gW G s σ τ H locs) (hi : i < 112) (hk : gkind i = 5) (hdg : decode cc pc = .ok (.putfield 269, 3)) (kk : ∀ (H1 : Heap) (locs1 : List Loc), gW G s σ (va_up τ i x) H1 locs1 → W p l e R s m args below meth c H1 locs1 cells slots Q (F0 m (pc + 3) ls rest)) : W p l e R s m args below meth c H locs cells slots Q (F0 m pc ls (.long x :: .ref (gAd G i) :: rest)) :=
  g_put (f' := (σ i)) (t' := x) (ty := .long) C hW hi (gL_5 hk) rfl kin_X5 tyX5 tyX5_ok nmX5 0 (by decide) rfl kf_X9_269 rfl (by decide +kernel) rfl rfl (Nat.le_of_ble_eq_true rfl) (gL_5 hk) hdg (fun H1 l1 h => kk H1 l1 (by rw [gup_self] at h; exact h))
theorem gf_X9_10 {i : Nat} (C : gCx p s m args c G cc nL RX9) (hW : gW G s σ τ H locs) (hi : i < 112) (hk : gkind i = 9) (hdg : decode cc pc = .ok (.getfield 10, 3)) (kk : W p l e R s m args below meth c H locs cells slots Q (F0 m (pc + 3) ls (.ref (gAd G (i + 1)) :: rest))) : W p l e R s m args below meth c H locs cells slots Q (F0 m pc ls (.ref (gAd G i) :: rest)) :=
  g_get C hW hi (gL_9 hk) rfl kin_X9 0 (by decide) rfl kf_X9_10 rfl hdg kk
theorem gf_X9_19 {i : Nat} (C : gCx p s m args c G cc nL RX9) (hW : gW G s σ τ H locs) (hi : i < 112) (hk : gkind i = 9) (hdg : decode cc pc = .ok (.getfield 19, 3)) (kk : W p l e R s m args below meth c H locs cells slots Q (F0 m (pc + 3) ls (.ref (gAd G (i + 9)) :: rest))) : W p l e R s m args below meth c H locs cells slots Q (F0 m pc ls (.ref (gAd G i) :: rest)) :=
  g_get C hW hi (gL_9 hk) rfl kin_X9 1 (by decide) rfl kf_X9_19 rfl hdg kk
theorem gf_X9_26 {i : Nat} (C : gCx p s m args c G cc nL RX9) (hW : gW G s σ τ H locs) (hi : i < 112) (hk : gkind i = 9) (hdg : decode cc pc = .ok (.getfield 26, 3)) (kk : W p l e R s m args below meth c H locs cells slots Q (F0 m (pc + 3) ls (.ref (gAd G (i + 21)) :: rest))) : W p l e R s m args below meth c H locs cells slots Q (F0 m pc ls (.ref (gAd G i) :: rest)) :=
  g_get C hW hi (gL_9 hk) rfl kin_X9 2 (by decide) rfl kf_X9_26 rfl hdg kk
theorem gf_X9_33 {i : Nat} (C : gCx p s m args c G cc nL RX9) (hW : gW G s σ τ H locs) (hi : i < 112) (hk : gkind i = 9) (hdg : decode cc pc = .ok (.getfield 33, 3)) (kk : W p l e R s m args below meth c H locs cells slots Q (F0 m (pc + 3) ls (.ref (gAd G (i + 73)) :: rest))) : W p l e R s m args below meth c H locs cells slots Q (F0 m pc ls (.ref (gAd G i) :: rest)) :=
  g_get C hW hi (gL_9 hk) rfl kin_X9 3 (by decide) rfl kf_X9_33 rfl hdg kk
theorem gf_X9_40 {i : Nat} (C : gCx p s m args c G cc nL RX9) (hW : gW G s σ τ H locs) (hi : i < 112) (hk : gkind i = 9) (hdg : decode cc pc = .ok (.getfield 40, 3)) (kk : W p l e R s m args below meth c H locs cells slots Q (F0 m (pc + 3) ls (.ref (gAd G (i + 77)) :: rest))) : W p l e R s m args below meth c H locs cells slots Q (F0 m pc ls (.ref (gAd G i) :: rest)) :=
  g_get C hW hi (gL_9 hk) rfl kin_X9 4 (by decide) rfl kf_X9_40 rfl hdg kk
theorem gf_X9_47 {i : Nat} (C : gCx p s m args c G cc nL RX9) (hW : gW G s σ τ H locs) (hi : i < 112) (hk : gkind i = 9) (hdg : decode cc pc = .ok (.getfield 47, 3)) (kk : W p l e R s m args below meth c H locs cells slots Q (F0 m (pc + 3) ls (.ref (gAd G (i + 81)) :: rest))) : W p l e R s m args below meth c H locs cells slots Q (F0 m pc ls (.ref (gAd G i) :: rest)) :=
  g_get C hW hi (gL_9 hk) rfl kin_X9 5 (by decide) rfl kf_X9_47 rfl hdg kk
theorem gf_X9_54 {i : Nat} (C : gCx p s m args c G cc nL RX9) (hW : gW G s σ τ H locs) (hi : i < 112) (hk : gkind i = 9) (hdg : decode cc pc = .ok (.getfield 54, 3)) (kk : W p l e R s m args below meth c H locs cells slots Q (F0 m (pc + 3) ls (.ref (gAd G (i + 83)) :: rest))) : W p l e R s m args below meth c H locs cells slots Q (F0 m pc ls (.ref (gAd G i) :: rest)) :=
  g_get C hW hi (gL_9 hk) rfl kin_X9 6 (by decide) rfl kf_X9_54 rfl hdg kk
theorem gf_X9_60 {i : Nat} (C : gCx p s m args c G cc nL RX9) (hW : gW G s σ τ H locs) (hi : i < 112) (hk : gkind i = 9) (hdg : decode cc pc = .ok (.getfield 60, 3)) (kk : W p l e R s m args below meth c H locs cells slots Q (F0 m (pc + 3) ls (.ref (gAd G (i + 84)) :: rest))) : W p l e R s m args below meth c H locs cells slots Q (F0 m pc ls (.ref (gAd G i) :: rest)) :=
  g_get C hW hi (gL_9 hk) rfl kin_X9 7 (by decide) rfl kf_X9_60 rfl hdg kk
theorem gf_X9_65 {i : Nat} (C : gCx p s m args c G cc nL RX9) (hW : gW G s σ τ H locs) (hi : i < 112) (hk : gkind i = 9) (hdg : decode cc pc = .ok (.getfield 65, 3)) (kk : W p l e R s m args below meth c H locs cells slots Q (F0 m (pc + 3) ls (.ref (gAd G (i + 95)) :: rest))) : W p l e R s m args below meth c H locs cells slots Q (F0 m pc ls (.ref (gAd G i) :: rest)) :=
  g_get C hW hi (gL_9 hk) rfl kin_X9 8 (by decide) rfl kf_X9_65 rfl hdg kk
theorem gf_X10_62 {i : Nat} (C : gCx p s m args c G cc nL RX10) (hW : gW G s σ τ H locs) (hi : i < 112) (hk : gkind i = 10) (hdg : decode cc pc = .ok (.getfield 62, 3)) (kk : W p l e R s m args below meth c H locs cells slots Q (F0 m (pc + 3) ls (.int 0 :: rest))) : W p l e R s m args below meth c H locs cells slots Q (F0 m pc ls (.ref (gAd G i) :: rest)) :=
  g_get C hW hi (gL_10 hk) rfl kin_X10 0 (by decide) rfl kf_X10_62 rfl hdg kk
theorem gp_X10_62 {i : Nat} (C : gCx p s m args c G cc nL RX10) (hW : gW G s σ τ H locs) (hi : i < 112) (hk : gkind i = 10) (hdg : decode cc pc = .ok (.putfield 62, 3)) (kk : ∀ (H1 : Heap) (locs1 : List Loc), gW G s σ τ H1 locs1 → W p l e R s m args below meth c H1 locs1 cells slots Q (F0 m (pc + 3) ls rest)) : W p l e R s m args below meth c H locs cells slots Q (F0 m pc ls (.int 0 :: .ref (gAd G i) :: rest)) :=
  g_put (f' := σ i) (t' := τ i) (ty := .int) C hW hi (gL_10 hk) rfl kin_X10 tyX10 tyX10_ok nmX10 0 (by decide) rfl kf_X10_62 rfl (by decide +kernel) rfl rfl (Nat.le_of_ble_eq_true rfl) (gL_10 hk) hdg (fun H1 l1 h => kk H1 l1 (by rw [gup_self, gup_self] at h; exact h))
theorem gf_X10_188 {i : Nat} (C : gCx p s m args c G cc nL RX10) (hW : gW G s σ τ H locs) (hi : i < 112) (hk : gkind i = 10) (hdg : decode cc pc = .ok (.getfield 188, 3)) (kk : W p l e R s m args below meth c H locs cells slots Q (F0 m (pc + 3) ls (.long (τ i) :: rest))) : W p l e R s m args below meth c H locs cells slots Q (F0 m pc ls (.ref (gAd G i) :: rest)) :=
  g_get C hW hi (gL_10 hk) rfl kin_X10 1 (by decide) rfl kf_X10_188 rfl hdg kk
theorem gp_X10_188 {i : Nat} {x : Int64} (C : gCx p s m args c G cc nL RX10) (hW : gW G s σ τ H locs) (hi : i < 112) (hk : gkind i = 10) (hdg : decode cc pc = .ok (.putfield 188, 3)) (kk : ∀ (H1 : Heap) (locs1 : List Loc), gW G s σ (va_up τ i x) H1 locs1 → W p l e R s m args below meth c H1 locs1 cells slots Q (F0 m (pc + 3) ls rest)) : W p l e R s m args below meth c H locs cells slots Q (F0 m pc ls (.long x :: .ref (gAd G i) :: rest)) :=
  g_put (f' := (σ i)) (t' := x) (ty := .long) C hW hi (gL_10 hk) rfl kin_X10 tyX10 tyX10_ok nmX10 1 (by decide) rfl kf_X10_188 rfl (by decide +kernel) rfl rfl (Nat.le_of_ble_eq_true rfl) (gL_10 hk) hdg (fun H1 l1 h => kk H1 l1 (by rw [gup_self] at h; exact h))
theorem gf_X10_7 {i : Nat} (C : gCx p s m args c G cc nL RX10) (hW : gW G s σ τ H locs) (hi : i < 112) (hk : gkind i = 10) (hdg : decode cc pc = .ok (.getfield 7, 3)) (kk : W p l e R s m args below meth c H locs cells slots Q (F0 m (pc + 3) ls (.ref (gAd G (i + 1)) :: rest))) : W p l e R s m args below meth c H locs cells slots Q (F0 m pc ls (.ref (gAd G i) :: rest)) :=
  g_get C hW hi (gL_10 hk) rfl kin_X10 2 (by decide) rfl kf_X10_7 rfl hdg kk
theorem gf_X10_70 {i : Nat} {v : Int32} (C : gCx p s m args c G cc nL RX10) (hW : gW G s σ τ H locs) (hi : i < 112) (hk : gkind i = 10) (hv : σ i 3 = v) (hdg : decode cc pc = .ok (.getfield 70, 3)) (kk : W p l e R s m args below meth c H locs cells slots Q (F0 m (pc + 3) ls (.int v :: rest))) : W p l e R s m args below meth c H locs cells slots Q (F0 m pc ls (.ref (gAd G i) :: rest)) :=
  g_get C hW hi (gL_10 hk) rfl kin_X10 3 (by decide) rfl kf_X10_70 (by rw [← hv]; rfl) hdg kk
theorem gp_X10_70 {i : Nat} {x : Int32} (C : gCx p s m args c G cc nL RX10) (hW : gW G s σ τ H locs) (hi : i < 112) (hk : gkind i = 10) (hdg : decode cc pc = .ok (.putfield 70, 3)) (kk : ∀ (H1 : Heap) (locs1 : List Loc), gW G s (gu σ i 3 x) τ H1 locs1 → W p l e R s m args below meth c H1 locs1 cells slots Q (F0 m (pc + 3) ls rest)) : W p l e R s m args below meth c H locs cells slots Q (F0 m pc ls (.int x :: .ref (gAd G i) :: rest)) :=
  g_put (f' := (upd (σ i) 3 x)) (t' := (τ i)) (ty := .int) C hW hi (gL_10 hk) rfl kin_X10 tyX10 tyX10_ok nmX10 3 (by decide) rfl kf_X10_70 rfl (by decide +kernel) rfl rfl (Nat.le_of_ble_eq_true rfl) (gL_10 hk) hdg (fun H1 l1 h => kk H1 l1 (by rw [gup_self] at h; exact h))
theorem gf_X10_73 {i : Nat} {v : Int32} (C : gCx p s m args c G cc nL RX10) (hW : gW G s σ τ H locs) (hi : i < 112) (hk : gkind i = 10) (hv : σ i 4 = v) (hdg : decode cc pc = .ok (.getfield 73, 3)) (kk : W p l e R s m args below meth c H locs cells slots Q (F0 m (pc + 3) ls (.int v :: rest))) : W p l e R s m args below meth c H locs cells slots Q (F0 m pc ls (.ref (gAd G i) :: rest)) :=
  g_get C hW hi (gL_10 hk) rfl kin_X10 4 (by decide) rfl kf_X10_73 (by rw [← hv]; rfl) hdg kk
theorem gp_X10_73 {i : Nat} {x : Int32} (C : gCx p s m args c G cc nL RX10) (hW : gW G s σ τ H locs) (hi : i < 112) (hk : gkind i = 10) (hdg : decode cc pc = .ok (.putfield 73, 3)) (kk : ∀ (H1 : Heap) (locs1 : List Loc), gW G s (gu σ i 4 x) τ H1 locs1 → W p l e R s m args below meth c H1 locs1 cells slots Q (F0 m (pc + 3) ls rest)) : W p l e R s m args below meth c H locs cells slots Q (F0 m pc ls (.int x :: .ref (gAd G i) :: rest)) :=
  g_put (f' := (upd (σ i) 4 x)) (t' := (τ i)) (ty := .int) C hW hi (gL_10 hk) rfl kin_X10 tyX10 tyX10_ok nmX10 4 (by decide) rfl kf_X10_73 rfl (by decide +kernel) rfl rfl (Nat.le_of_ble_eq_true rfl) (gL_10 hk) hdg (fun H1 l1 h => kk H1 l1 (by rw [gup_self] at h; exact h))
theorem gf_X10_83 {i : Nat} {v : Int32} (C : gCx p s m args c G cc nL RX10) (hW : gW G s σ τ H locs) (hi : i < 112) (hk : gkind i = 10) (hv : σ i 5 = v) (hdg : decode cc pc = .ok (.getfield 83, 3)) (kk : W p l e R s m args below meth c H locs cells slots Q (F0 m (pc + 3) ls (.int v :: rest))) : W p l e R s m args below meth c H locs cells slots Q (F0 m pc ls (.ref (gAd G i) :: rest)) :=
  g_get C hW hi (gL_10 hk) rfl kin_X10 5 (by decide) rfl kf_X10_83 (by rw [← hv]; rfl) hdg kk
theorem gp_X10_83 {i : Nat} {x : Int32} (C : gCx p s m args c G cc nL RX10) (hW : gW G s σ τ H locs) (hi : i < 112) (hk : gkind i = 10) (hdg : decode cc pc = .ok (.putfield 83, 3)) (kk : ∀ (H1 : Heap) (locs1 : List Loc), gW G s (gu σ i 5 x) τ H1 locs1 → W p l e R s m args below meth c H1 locs1 cells slots Q (F0 m (pc + 3) ls rest)) : W p l e R s m args below meth c H locs cells slots Q (F0 m pc ls (.int x :: .ref (gAd G i) :: rest)) :=
  g_put (f' := (upd (σ i) 5 x)) (t' := (τ i)) (ty := .int) C hW hi (gL_10 hk) rfl kin_X10 tyX10 tyX10_ok nmX10 5 (by decide) rfl kf_X10_83 rfl (by decide +kernel) rfl rfl (Nat.le_of_ble_eq_true rfl) (gL_10 hk) hdg (fun H1 l1 h => kk H1 l1 (by rw [gup_self] at h; exact h))
theorem gf_X10_80 {i : Nat} {v : Int32} (C : gCx p s m args c G cc nL RX10) (hW : gW G s σ τ H locs) (hi : i < 112) (hk : gkind i = 10) (hv : σ i 6 = v) (hdg : decode cc pc = .ok (.getfield 80, 3)) (kk : W p l e R s m args below meth c H locs cells slots Q (F0 m (pc + 3) ls (.int v :: rest))) : W p l e R s m args below meth c H locs cells slots Q (F0 m pc ls (.ref (gAd G i) :: rest)) :=
  g_get C hW hi (gL_10 hk) rfl kin_X10 6 (by decide) rfl kf_X10_80 (by rw [← hv]; rfl) hdg kk
theorem gp_X10_80 {i : Nat} {x : Int32} (C : gCx p s m args c G cc nL RX10) (hW : gW G s σ τ H locs) (hi : i < 112) (hk : gkind i = 10) (hdg : decode cc pc = .ok (.putfield 80, 3)) (kk : ∀ (H1 : Heap) (locs1 : List Loc), gW G s (gu σ i 6 x) τ H1 locs1 → W p l e R s m args below meth c H1 locs1 cells slots Q (F0 m (pc + 3) ls rest)) : W p l e R s m args below meth c H locs cells slots Q (F0 m pc ls (.int x :: .ref (gAd G i) :: rest)) :=
  g_put (f' := (upd (σ i) 6 x)) (t' := (τ i)) (ty := .int) C hW hi (gL_10 hk) rfl kin_X10 tyX10 tyX10_ok nmX10 6 (by decide) rfl kf_X10_80 rfl (by decide +kernel) rfl rfl (Nat.le_of_ble_eq_true rfl) (gL_10 hk) hdg (fun H1 l1 h => kk H1 l1 (by rw [gup_self] at h; exact h))
theorem gf_X10_86 {i : Nat} {v : Int32} (C : gCx p s m args c G cc nL RX10) (hW : gW G s σ τ H locs) (hi : i < 112) (hk : gkind i = 10) (hv : σ i 7 = v) (hdg : decode cc pc = .ok (.getfield 86, 3)) (kk : W p l e R s m args below meth c H locs cells slots Q (F0 m (pc + 3) ls (.int v :: rest))) : W p l e R s m args below meth c H locs cells slots Q (F0 m pc ls (.ref (gAd G i) :: rest)) :=
  g_get C hW hi (gL_10 hk) rfl kin_X10 7 (by decide) rfl kf_X10_86 (by rw [← hv]; rfl) hdg kk
theorem gp_X10_86 {i : Nat} {x : Int32} (C : gCx p s m args c G cc nL RX10) (hW : gW G s σ τ H locs) (hi : i < 112) (hk : gkind i = 10) (hdg : decode cc pc = .ok (.putfield 86, 3)) (kk : ∀ (H1 : Heap) (locs1 : List Loc), gW G s (gu σ i 7 x) τ H1 locs1 → W p l e R s m args below meth c H1 locs1 cells slots Q (F0 m (pc + 3) ls rest)) : W p l e R s m args below meth c H locs cells slots Q (F0 m pc ls (.int x :: .ref (gAd G i) :: rest)) :=
  g_put (f' := (upd (σ i) 7 x)) (t' := (τ i)) (ty := .int) C hW hi (gL_10 hk) rfl kin_X10 tyX10 tyX10_ok nmX10 7 (by decide) rfl kf_X10_86 rfl (by decide +kernel) rfl rfl (Nat.le_of_ble_eq_true rfl) (gL_10 hk) hdg (fun H1 l1 h => kk H1 l1 (by rw [gup_self] at h; exact h))
theorem gf_X10_93 {i : Nat} {v : Int32} (C : gCx p s m args c G cc nL RX10) (hW : gW G s σ τ H locs) (hi : i < 112) (hk : gkind i = 10) (hv : σ i 8 = v) (hdg : decode cc pc = .ok (.getfield 93, 3)) (kk : W p l e R s m args below meth c H locs cells slots Q (F0 m (pc + 3) ls (.int v :: rest))) : W p l e R s m args below meth c H locs cells slots Q (F0 m pc ls (.ref (gAd G i) :: rest)) :=
  g_get C hW hi (gL_10 hk) rfl kin_X10 8 (by decide) rfl kf_X10_93 (by rw [← hv]; rfl) hdg kk
theorem gp_X10_93 {i : Nat} {x : Int32} (C : gCx p s m args c G cc nL RX10) (hW : gW G s σ τ H locs) (hi : i < 112) (hk : gkind i = 10) (hdg : decode cc pc = .ok (.putfield 93, 3)) (kk : ∀ (H1 : Heap) (locs1 : List Loc), gW G s (gu σ i 8 x) τ H1 locs1 → W p l e R s m args below meth c H1 locs1 cells slots Q (F0 m (pc + 3) ls rest)) : W p l e R s m args below meth c H locs cells slots Q (F0 m pc ls (.int x :: .ref (gAd G i) :: rest)) :=
  g_put (f' := (upd (σ i) 8 x)) (t' := (τ i)) (ty := .int) C hW hi (gL_10 hk) rfl kin_X10 tyX10 tyX10_ok nmX10 8 (by decide) rfl kf_X10_93 rfl (by decide +kernel) rfl rfl (Nat.le_of_ble_eq_true rfl) (gL_10 hk) hdg (fun H1 l1 h => kk H1 l1 (by rw [gup_self] at h; exact h))
theorem gf_X10_13 {i : Nat} (C : gCx p s m args c G cc nL RX10) (hW : gW G s σ τ H locs) (hi : i < 112) (hk : gkind i = 10) (hdg : decode cc pc = .ok (.getfield 13, 3)) (kk : W p l e R s m args below meth c H locs cells slots Q (F0 m (pc + 3) ls (.ref (gAd G (i + 2)) :: rest))) : W p l e R s m args below meth c H locs cells slots Q (F0 m pc ls (.ref (gAd G i) :: rest)) :=
  g_get C hW hi (gL_10 hk) rfl kin_X10 9 (by decide) rfl kf_X10_13 rfl hdg kk
theorem gf_X10_107 {i : Nat} {v : Int32} (C : gCx p s m args c G cc nL RX10) (hW : gW G s σ τ H locs) (hi : i < 112) (hk : gkind i = 10) (hv : σ i 10 = v) (hdg : decode cc pc = .ok (.getfield 107, 3)) (kk : W p l e R s m args below meth c H locs cells slots Q (F0 m (pc + 3) ls (.int v :: rest))) : W p l e R s m args below meth c H locs cells slots Q (F0 m pc ls (.ref (gAd G i) :: rest)) :=
  g_get C hW hi (gL_10 hk) rfl kin_X10 10 (by decide) rfl kf_X10_107 (by rw [← hv]; rfl) hdg kk
theorem gp_X10_107 {i : Nat} {x : Int32} (C : gCx p s m args c G cc nL RX10) (hW : gW G s σ τ H locs) (hi : i < 112) (hk : gkind i = 10) (hdg : decode cc pc = .ok (.putfield 107, 3)) (kk : ∀ (H1 : Heap) (locs1 : List Loc), gW G s (gu σ i 10 x) τ H1 locs1 → W p l e R s m args below meth c H1 locs1 cells slots Q (F0 m (pc + 3) ls rest)) : W p l e R s m args below meth c H locs cells slots Q (F0 m pc ls (.int x :: .ref (gAd G i) :: rest)) :=
  g_put (f' := (upd (σ i) 10 x)) (t' := (τ i)) (ty := .int) C hW hi (gL_10 hk) rfl kin_X10 tyX10 tyX10_ok nmX10 10 (by decide) rfl kf_X10_107 rfl (by decide +kernel) rfl rfl (Nat.le_of_ble_eq_true rfl) (gL_10 hk) hdg (fun H1 l1 h => kk H1 l1 (by rw [gup_self] at h; exact h))
theorem gf_X10_16 {i : Nat} (C : gCx p s m args c G cc nL RX10) (hW : gW G s σ τ H locs) (hi : i < 112) (hk : gkind i = 10) (hdg : decode cc pc = .ok (.getfield 16, 3)) (kk : W p l e R s m args below meth c H locs cells slots Q (F0 m (pc + 3) ls (.ref (gAd G (i + 3)) :: rest))) : W p l e R s m args below meth c H locs cells slots Q (F0 m pc ls (.ref (gAd G i) :: rest)) :=
  g_get C hW hi (gL_10 hk) rfl kin_X10 11 (by decide) rfl kf_X10_16 rfl hdg kk
theorem gf_X10_19 {i : Nat} (C : gCx p s m args c G cc nL RX10) (hW : gW G s σ τ H locs) (hi : i < 112) (hk : gkind i = 10) (hdg : decode cc pc = .ok (.getfield 19, 3)) (kk : W p l e R s m args below meth c H locs cells slots Q (F0 m (pc + 3) ls (.ref (gAd G (i + 4)) :: rest))) : W p l e R s m args below meth c H locs cells slots Q (F0 m pc ls (.ref (gAd G i) :: rest)) :=
  g_get C hW hi (gL_10 hk) rfl kin_X10 12 (by decide) rfl kf_X10_19 rfl hdg kk
theorem gf_X10_22 {i : Nat} (C : gCx p s m args c G cc nL RX10) (hW : gW G s σ τ H locs) (hi : i < 112) (hk : gkind i = 10) (hdg : decode cc pc = .ok (.getfield 22, 3)) (kk : W p l e R s m args below meth c H locs cells slots Q (F0 m (pc + 3) ls (.ref (gAd G (i + 5)) :: rest))) : W p l e R s m args below meth c H locs cells slots Q (F0 m pc ls (.ref (gAd G i) :: rest)) :=
  g_get C hW hi (gL_10 hk) rfl kin_X10 13 (by decide) rfl kf_X10_22 rfl hdg kk
theorem gf_X10_25 {i : Nat} (C : gCx p s m args c G cc nL RX10) (hW : gW G s σ τ H locs) (hi : i < 112) (hk : gkind i = 10) (hdg : decode cc pc = .ok (.getfield 25, 3)) (kk : W p l e R s m args below meth c H locs cells slots Q (F0 m (pc + 3) ls (.ref (gAd G (i + 6)) :: rest))) : W p l e R s m args below meth c H locs cells slots Q (F0 m pc ls (.ref (gAd G i) :: rest)) :=
  g_get C hW hi (gL_10 hk) rfl kin_X10 14 (by decide) rfl kf_X10_25 rfl hdg kk
theorem gf_X10_28 {i : Nat} (C : gCx p s m args c G cc nL RX10) (hW : gW G s σ τ H locs) (hi : i < 112) (hk : gkind i = 10) (hdg : decode cc pc = .ok (.getfield 28, 3)) (kk : W p l e R s m args below meth c H locs cells slots Q (F0 m (pc + 3) ls (.ref (gAd G (i + 7)) :: rest))) : W p l e R s m args below meth c H locs cells slots Q (F0 m pc ls (.ref (gAd G i) :: rest)) :=
  g_get C hW hi (gL_10 hk) rfl kin_X10 15 (by decide) rfl kf_X10_28 rfl hdg kk
theorem gf_X10_31 {i : Nat} (C : gCx p s m args c G cc nL RX10) (hW : gW G s σ τ H locs) (hi : i < 112) (hk : gkind i = 10) (hdg : decode cc pc = .ok (.getfield 31, 3)) (kk : W p l e R s m args below meth c H locs cells slots Q (F0 m (pc + 3) ls (.ref (gAd G (i + 8)) :: rest))) : W p l e R s m args below meth c H locs cells slots Q (F0 m pc ls (.ref (gAd G i) :: rest)) :=
  g_get C hW hi (gL_10 hk) rfl kin_X10 16 (by decide) rfl kf_X10_31 rfl hdg kk
theorem gf_X10_34 {i : Nat} (C : gCx p s m args c G cc nL RX10) (hW : gW G s σ τ H locs) (hi : i < 112) (hk : gkind i = 10) (hdg : decode cc pc = .ok (.getfield 34, 3)) (kk : W p l e R s m args below meth c H locs cells slots Q (F0 m (pc + 3) ls (.ref (gAd G (i + 9)) :: rest))) : W p l e R s m args below meth c H locs cells slots Q (F0 m pc ls (.ref (gAd G i) :: rest)) :=
  g_get C hW hi (gL_10 hk) rfl kin_X10 17 (by decide) rfl kf_X10_34 rfl hdg kk
theorem gf_X10_37 {i : Nat} (C : gCx p s m args c G cc nL RX10) (hW : gW G s σ τ H locs) (hi : i < 112) (hk : gkind i = 10) (hdg : decode cc pc = .ok (.getfield 37, 3)) (kk : W p l e R s m args below meth c H locs cells slots Q (F0 m (pc + 3) ls (.ref (gAd G (i + 10)) :: rest))) : W p l e R s m args below meth c H locs cells slots Q (F0 m pc ls (.ref (gAd G i) :: rest)) :=
  g_get C hW hi (gL_10 hk) rfl kin_X10 18 (by decide) rfl kf_X10_37 rfl hdg kk
theorem gf_X10_41 {i : Nat} (C : gCx p s m args c G cc nL RX10) (hW : gW G s σ τ H locs) (hi : i < 112) (hk : gkind i = 10) (hdg : decode cc pc = .ok (.getfield 41, 3)) (kk : W p l e R s m args below meth c H locs cells slots Q (F0 m (pc + 3) ls (.ref (gAd G (i + 11)) :: rest))) : W p l e R s m args below meth c H locs cells slots Q (F0 m pc ls (.ref (gAd G i) :: rest)) :=
  g_get C hW hi (gL_10 hk) rfl kin_X10 19 (by decide) rfl kf_X10_41 rfl hdg kk
theorem gf_X10_124 {i : Nat} {v : Int32} (C : gCx p s m args c G cc nL RX10) (hW : gW G s σ τ H locs) (hi : i < 112) (hk : gkind i = 10) (hv : σ i 20 = v) (hdg : decode cc pc = .ok (.getfield 124, 3)) (kk : W p l e R s m args below meth c H locs cells slots Q (F0 m (pc + 3) ls (.int v :: rest))) : W p l e R s m args below meth c H locs cells slots Q (F0 m pc ls (.ref (gAd G i) :: rest)) :=
  g_get C hW hi (gL_10 hk) rfl kin_X10 20 (by decide) rfl kf_X10_124 (by rw [← hv]; rfl) hdg kk
theorem gp_X10_124 {i : Nat} {x : Int32} (C : gCx p s m args c G cc nL RX10) (hW : gW G s σ τ H locs) (hi : i < 112) (hk : gkind i = 10) (hdg : decode cc pc = .ok (.putfield 124, 3)) (kk : ∀ (H1 : Heap) (locs1 : List Loc), gW G s (gu σ i 20 x) τ H1 locs1 → W p l e R s m args below meth c H1 locs1 cells slots Q (F0 m (pc + 3) ls rest)) : W p l e R s m args below meth c H locs cells slots Q (F0 m pc ls (.int x :: .ref (gAd G i) :: rest)) :=
  g_put (f' := (upd (σ i) 20 x)) (t' := (τ i)) (ty := .int) C hW hi (gL_10 hk) rfl kin_X10 tyX10 tyX10_ok nmX10 20 (by decide) rfl kf_X10_124 rfl (by decide +kernel) rfl rfl (Nat.le_of_ble_eq_true rfl) (gL_10 hk) hdg (fun H1 l1 h => kk H1 l1 (by rw [gup_self] at h; exact h))
theorem gf_X10_44 {i : Nat} (C : gCx p s m args c G cc nL RX10) (hW : gW G s σ τ H locs) (hi : i < 112) (hk : gkind i = 10) (hdg : decode cc pc = .ok (.getfield 44, 3)) (kk : W p l e R s m args below meth c H locs cells slots Q (F0 m (pc + 3) ls (.ref (gAd G (i + 12)) :: rest))) : W p l e R s m args below meth c H locs cells slots Q (F0 m pc ls (.ref (gAd G i) :: rest)) :=
  g_get C hW hi (gL_10 hk) rfl kin_X10 21 (by decide) rfl kf_X10_44 rfl hdg kk
theorem gf_X10_47 {i : Nat} (C : gCx p s m args c G cc nL RX10) (hW : gW G s σ τ H locs) (hi : i < 112) (hk : gkind i = 10) (hdg : decode cc pc = .ok (.getfield 47, 3)) (kk : W p l e R s m args below meth c H locs cells slots Q (F0 m (pc + 3) ls (.ref (gAd G (i + 13)) :: rest))) : W p l e R s m args below meth c H locs cells slots Q (F0 m pc ls (.ref (gAd G i) :: rest)) :=
  g_get C hW hi (gL_10 hk) rfl kin_X10 22 (by decide) rfl kf_X10_47 rfl hdg kk
theorem gf_X10_50 {i : Nat} (C : gCx p s m args c G cc nL RX10) (hW : gW G s σ τ H locs) (hi : i < 112) (hk : gkind i = 10) (hdg : decode cc pc = .ok (.getfield 50, 3)) (kk : W p l e R s m args below meth c H locs cells slots Q (F0 m (pc + 3) ls (.ref (gAd G (i + 14)) :: rest))) : W p l e R s m args below meth c H locs cells slots Q (F0 m pc ls (.ref (gAd G i) :: rest)) :=
  g_get C hW hi (gL_10 hk) rfl kin_X10 23 (by decide) rfl kf_X10_50 rfl hdg kk
theorem gf_X10_121 {i : Nat} {v : Int32} (C : gCx p s m args c G cc nL RX10) (hW : gW G s σ τ H locs) (hi : i < 112) (hk : gkind i = 10) (hv : σ i 24 = v) (hdg : decode cc pc = .ok (.getfield 121, 3)) (kk : W p l e R s m args below meth c H locs cells slots Q (F0 m (pc + 3) ls (.int v :: rest))) : W p l e R s m args below meth c H locs cells slots Q (F0 m pc ls (.ref (gAd G i) :: rest)) :=
  g_get C hW hi (gL_10 hk) rfl kin_X10 24 (by decide) rfl kf_X10_121 (by rw [← hv]; rfl) hdg kk
theorem gp_X10_121 {i : Nat} {x : Int32} (C : gCx p s m args c G cc nL RX10) (hW : gW G s σ τ H locs) (hi : i < 112) (hk : gkind i = 10) (hdg : decode cc pc = .ok (.putfield 121, 3)) (kk : ∀ (H1 : Heap) (locs1 : List Loc), gW G s (gu σ i 24 x) τ H1 locs1 → W p l e R s m args below meth c H1 locs1 cells slots Q (F0 m (pc + 3) ls rest)) : W p l e R s m args below meth c H locs cells slots Q (F0 m pc ls (.int x :: .ref (gAd G i) :: rest)) :=
  g_put (f' := (upd (σ i) 24 x)) (t' := (τ i)) (ty := .int) C hW hi (gL_10 hk) rfl kin_X10 tyX10 tyX10_ok nmX10 24 (by decide) rfl kf_X10_121 rfl (by decide +kernel) rfl rfl (Nat.le_of_ble_eq_true rfl) (gL_10 hk) hdg (fun H1 l1 h => kk H1 l1 (by rw [gup_self] at h; exact h))
theorem gf_X10_127 {i : Nat} {v : Int32} (C : gCx p s m args c G cc nL RX10) (hW : gW G s σ τ H locs) (hi : i < 112) (hk : gkind i = 10) (hv : σ i 25 = v) (hdg : decode cc pc = .ok (.getfield 127, 3)) (kk : W p l e R s m args below meth c H locs cells slots Q (F0 m (pc + 3) ls (.int v :: rest))) : W p l e R s m args below meth c H locs cells slots Q (F0 m pc ls (.ref (gAd G i) :: rest)) :=
  g_get C hW hi (gL_10 hk) rfl kin_X10 25 (by decide) rfl kf_X10_127 (by rw [← hv]; rfl) hdg kk
theorem gp_X10_127 {i : Nat} {x : Int32} (C : gCx p s m args c G cc nL RX10) (hW : gW G s σ τ H locs) (hi : i < 112) (hk : gkind i = 10) (hdg : decode cc pc = .ok (.putfield 127, 3)) (kk : ∀ (H1 : Heap) (locs1 : List Loc), gW G s (gu σ i 25 x) τ H1 locs1 → W p l e R s m args below meth c H1 locs1 cells slots Q (F0 m (pc + 3) ls rest)) : W p l e R s m args below meth c H locs cells slots Q (F0 m pc ls (.int x :: .ref (gAd G i) :: rest)) :=
  g_put (f' := (upd (σ i) 25 x)) (t' := (τ i)) (ty := .int) C hW hi (gL_10 hk) rfl kin_X10 tyX10 tyX10_ok nmX10 25 (by decide) rfl kf_X10_127 rfl (by decide +kernel) rfl rfl (Nat.le_of_ble_eq_true rfl) (gL_10 hk) hdg (fun H1 l1 h => kk H1 l1 (by rw [gup_self] at h; exact h))
theorem gf_X10_53 {i : Nat} (C : gCx p s m args c G cc nL RX10) (hW : gW G s σ τ H locs) (hi : i < 112) (hk : gkind i = 10) (hdg : decode cc pc = .ok (.getfield 53, 3)) (kk : W p l e R s m args below meth c H locs cells slots Q (F0 m (pc + 3) ls (.ref (gAd G (i + 15)) :: rest))) : W p l e R s m args below meth c H locs cells slots Q (F0 m pc ls (.ref (gAd G i) :: rest)) :=
  g_get C hW hi (gL_10 hk) rfl kin_X10 26 (by decide) rfl kf_X10_53 rfl hdg kk
end GFLD
end
section
/-! ===== what the reference's methods answer, of rows of the state ===== -/
def mIn (v a b : Int32) : Bool := !decide (v < a) && !decide (b < v)
def mOnes (x : Int32) : Nat → Int32
  | 0 => 0
  | k + 1 => mOnes x k + ((x >>> (nI k &&& 31)) &&& 1)
def mIsL (c : Int32) : Bool := decide (c = 119) || decide (c = 112) || decide (c = 100) || decide (c = 103) || decide (c = 102)
/-- duty d rings for p in minute mi, if he is at 'at' -/
def rOn (fm lt : Nat → Int32) (fr mi : Int32) (d : Nat) : Bool := !decide (mi < fm d + fr) && !decide (fm d + lt d ≤ mi)
def rDue (fm lt wh ow : Nat → Int32) (fr wo p mi at_ : Int32) (d : Nat) : Bool :=
  decide (ow (17 + d) = p) && (decide ((wo >>> (nI d &&& 31)) &&& 1 = 0) && (rOn fm lt fr mi d && !decide (wh d = at_)))
def rRung (fm lt wh ow : Nat → Int32) (fr wo p mi at_ : Int32) : Nat → Bool
  | 0 => false
  | d + 1 => rRung fm lt wh ow fr wo p mi at_ d || rDue fm lt wh ow fr wo p mi at_ d
abbrev mRung (σ : gSt) (p mi at_ : Int32) (D : Nat) : Bool := rRung (σ 102) (σ 103) (σ 101) (σ 104) (σ 98 4) (σ 96 25) p mi at_ D
def rPl (sr : Nat → Int32) (p : Nat) (mins : Int32) : Int32 := if sr (5 + p) ≤ mins then sr (0 + p) else -9
def rRings (fm lt wh sr : Nat → Int32) (fr wo mi : Int32) (D : Nat) : Nat → Int32
  | 0 => 0
  | p + 1 => rRings fm lt wh sr fr wo mi D p ||| (if rRung fm lt wh sr fr wo (nI p) mi (rPl sr p (mi - sr 15)) D = true then 1 <<< (nI p &&& 31) else 0)
abbrev mRings (σ : gSt) (mi : Int32) (D N : Nat) : Int32 := rRings (σ 102) (σ 103) (σ 101) (σ 104) (σ 98 4) (σ 96 25) mi D N
theorem mIn_nat {x : Int32} {N : Nat} (h : mIn x 0 (nI N - 1) = true) (hN : N < 2 ^ 30) : x = nI x.toNatClampNeg ∧ x.toNatClampNeg < N := by
  simp only [mIn, Bool.and_eq_true, Bool.not_eq_true', decide_eq_false_iff_not] at h
  obtain ⟨h1, h2⟩ := h
  obtain ⟨j, hj, rfl⟩ := nI_of h1
  rw [nI_clamp hj]
  refine ⟨rfl, ?_⟩
  rcases Nat.lt_or_ge j N with q | q
  · exact q
  · refine absurd ?_ h2
    rw [Int32.lt_iff_toInt_lt, nI_toInt hj, show (1 : Int32) = nI 1 from rfl, pk_sub_toInt hN (by decide)]
    omega
set_option maxHeartbeats 4000000 in
set_option maxRecDepth 100000 in
theorem m_in (l : Launch) (G : gG) (σ : gSt) (τ : Nat → Int64) (a0 a1 a2 : Int32) : gI l yX10_in cX10_in 3 (some .boolean) 0 0 G [.int a0, .int a1, .int a2] σ τ (bI (mIn a0 a1 a2)) σ τ := by
  refine gMet_of (by decide) (Nat.le_of_ble_eq_true rfl) ?_
  intro p e s m args below meth c C hr hlk ls hl hW
  have hx := C.1
  have hb := C.2.1
  have hl : lv_has ls 3 [(0, .int a0), (1, .int a1), (2, .int a2)] := hl
  refine lv_iload_n hx hb dX10_in_0 rfl (lv_at hl 0 rfl) ?_
  refine lv_iload_n hx hb dX10_in_1 rfl (lv_at hl 1 rfl) ?_
  refine lv_icmp_lt (tgt := 14) hx hb dX10_in_2 (by decide) (fun c_1 => ?_) (fun c_1 => ?_)
  · skip
    refine lv_iconst (v := 0) hx hb dX10_in_14 (by decide) ?_
    exact g_zret C hr hlk hW dX10_in_15 (rfl) (by simp [bI, mIn, c_1]) (rfl) (rfl)
  · skip
    refine lv_iload_n hx hb dX10_in_5 rfl (lv_at hl 0 rfl) ?_
    refine lv_iload_n hx hb dX10_in_6 rfl (lv_at hl 2 rfl) ?_
    refine lv_icmp_gt (tgt := 14) hx hb dX10_in_7 (by decide) (fun c_2 => ?_) (fun c_2 => ?_)
    · skip
      refine lv_iconst (v := 0) hx hb dX10_in_14 (by decide) ?_
      exact g_zret C hr hlk hW dX10_in_15 (rfl) (by simp [bI, mIn, c_1, c_2]) (rfl) (rfl)
    · skip
      refine lv_iconst (v := 1) hx hb dX10_in_10 (by decide) ?_
      refine lv_goto (tgt := 15) hx hb dX10_in_11 (by decide) ?_
      exact g_zret C hr hlk hW dX10_in_15 (rfl) (by simp [bI, mIn, c_1, c_2]) (rfl) (rfl)
set_option maxHeartbeats 4000000 in
set_option maxRecDepth 100000 in
theorem m_ones (l : Launch) (G : gG) (σ : gSt) (τ : Nat → Int64) (a0 : Int32) : gI l yX10_ones cX10_ones 3 (some .int) 0 0 G [.int a0] σ τ (mOnes a0 8) σ τ := by
  refine gMet_of (by decide) (Nat.le_of_ble_eq_true rfl) ?_
  intro p e s m args below meth c C hr hlk ls hl hW
  have hx := C.1
  have hb := C.2.1
  have hl : lv_has ls 3 [(0, .int a0)] := hl
  refine lv_iconst (v := 0) hx hb dX10_ones_0 (by decide) ?_
  refine lv_istore_n (lv' := [(1, .int 0), (0, .int a0)]) hx hb dX10_ones_1 rfl hl (by decide) rfl (fun ls hl => ?_)
  refine lv_iconst (v := 0) hx hb dX10_ones_2 (by decide) ?_
  refine lv_istore_n (lv' := [(2, .int 0), (1, .int 0), (0, .int a0)]) hx hb dX10_ones_3 rfl hl (by decide) rfl (fun ls hl => ?_)
  have L4 : ∀ (n : Nat) (k : Nat) (v : Int32) (H : Heap) (locs : List Loc) (ls : Array Slot), n + k = 8 → v = mOnes a0 k → gW G s σ τ H locs → lv_has ls 3 [(2, .int (nI k)), (1, .int v), (0, .int a0)] → W p l e (gRm 0 0) s m args below meth c H locs 0 0 (MQ below (gQi G (mOnes a0 8) σ τ) args s 0 0 (gA G)) (F0 m 4 ls []) := by
    intro n
    induction n with
    | zero =>
      intro k v H locs ls hm hv hW hl
      refine lv_iload_n hx hb dX10_ones_4 rfl (lv_at hl 0 rfl) ?_
      refine lv_bipush (v := 8) hx hb dX10_ones_5 (by decide) ?_
      refine lv_icmp_ge (tgt := 24) hx hb dX10_ones_7 (by decide) (fun _ => ?_) (fun zz => absurd (show nI 8 ≤ nI k from nI_le (by omega) (by omega)) zz)
      refine lv_iload_n hx hb dX10_ones_24 rfl (lv_at hl 1 rfl) ?_
      exact g_iret C hr hlk hW dX10_ones_25 (by rw [hv, show k = 8 by omega]) (rfl) (rfl)
    | succ n ih =>
      intro k v H locs ls hm hv hW hl
      refine lv_iload_n hx hb dX10_ones_4 rfl (lv_at hl 0 rfl) ?_
      refine lv_bipush (v := 8) hx hb dX10_ones_5 (by decide) ?_
      refine lv_icmp_ge (tgt := 24) hx hb dX10_ones_7 (by decide) (fun zz => absurd zz (show ¬ nI 8 ≤ nI k from nI_ge (by omega) (by omega))) (fun _ => ?_)
      refine lv_iload_n hx hb dX10_ones_10 rfl (lv_at hl 1 rfl) ?_
      refine lv_iload_n hx hb dX10_ones_11 rfl (lv_at hl 2 rfl) ?_
      refine lv_iload_n hx hb dX10_ones_12 rfl (lv_at hl 0 rfl) ?_
      refine lv_ishr hx hb dX10_ones_13 ?_
      refine lv_iconst (v := 1) hx hb dX10_ones_14 (by decide) ?_
      refine lv_iand hx hb dX10_ones_15 ?_
      refine lv_iadd hx hb dX10_ones_16 ?_
      refine lv_istore_n (lv' := [(1, .int (v + ((a0 >>> ((nI k) &&& 31)) &&& 1))), (2, .int (nI k)), (0, .int a0)]) hx hb dX10_ones_17 rfl hl (by decide) rfl (fun ls hl => ?_)
      refine lv_iinc (v := nI (k + 1)) (lv' := [(2, .int (nI (k + 1))), (1, .int (v + ((a0 >>> ((nI k) &&& 31)) &&& 1))), (0, .int a0)]) hx hb dX10_ones_18 hl (k := 1) rfl (nI_1 _) (by decide) rfl (fun ls hl => ?_)
      refine lv_goto (tgt := 4) hx hb dX10_ones_21 (by decide) ?_
      exact ih (k + 1) (v + ((a0 >>> ((nI k) &&& 31)) &&& 1)) _ _ _ (by omega) (by simp [bI, mOnes, hv]) hW (lv_sub hl [0, 1, 2] rfl)
  exact L4 8 0 0 _ _ _ (by omega) (by first | rfl | simp [bI, mOnes]) hW (lv_sub hl [0, 1, 2] rfl)
set_option maxHeartbeats 4000000 in
set_option maxRecDepth 100000 in
theorem m_isLetter (l : Launch) (G : gG) (σ : gSt) (τ : Nat → Int64) (a0 : Int32) : gI l yX10_isLetter cX10_isLetter 1 (some .boolean) 0 0 G [.int a0] σ τ (bI (mIsL a0)) σ τ := by
  refine gMet_of (by decide) (Nat.le_of_ble_eq_true rfl) ?_
  intro p e s m args below meth c C hr hlk ls hl hW
  have hx := C.1
  have hb := C.2.1
  have hl : lv_has ls 1 [(0, .int a0)] := hl
  refine lv_iload_n hx hb dX10_isLetter_0 rfl (lv_at hl 0 rfl) ?_
  refine lv_bipush (v := 119) hx hb dX10_isLetter_1 (by decide) ?_
  refine lv_icmp_eq (tgt := 30) hx hb dX10_isLetter_3 (by decide) (fun c_1 => ?_) (fun c_1 => ?_)
  · skip
    refine lv_iconst (v := 1) hx hb dX10_isLetter_30 (by decide) ?_
    refine lv_goto (tgt := 35) hx hb dX10_isLetter_31 (by decide) ?_
    exact g_zret C hr hlk hW dX10_isLetter_35 (rfl) (by simp [bI, mIsL, c_1]) (rfl) (rfl)
  · skip
    refine lv_iload_n hx hb dX10_isLetter_6 rfl (lv_at hl 0 rfl) ?_
    refine lv_bipush (v := 112) hx hb dX10_isLetter_7 (by decide) ?_
    refine lv_icmp_eq (tgt := 30) hx hb dX10_isLetter_9 (by decide) (fun c_2 => ?_) (fun c_2 => ?_)
    · skip
      refine lv_iconst (v := 1) hx hb dX10_isLetter_30 (by decide) ?_
      refine lv_goto (tgt := 35) hx hb dX10_isLetter_31 (by decide) ?_
      exact g_zret C hr hlk hW dX10_isLetter_35 (rfl) (by simp [bI, mIsL, c_1, c_2]) (rfl) (rfl)
    · skip
      refine lv_iload_n hx hb dX10_isLetter_12 rfl (lv_at hl 0 rfl) ?_
      refine lv_bipush (v := 100) hx hb dX10_isLetter_13 (by decide) ?_
      refine lv_icmp_eq (tgt := 30) hx hb dX10_isLetter_15 (by decide) (fun c_3 => ?_) (fun c_3 => ?_)
      · skip
        refine lv_iconst (v := 1) hx hb dX10_isLetter_30 (by decide) ?_
        refine lv_goto (tgt := 35) hx hb dX10_isLetter_31 (by decide) ?_
        exact g_zret C hr hlk hW dX10_isLetter_35 (rfl) (by simp [bI, mIsL, c_1, c_2, c_3]) (rfl) (rfl)
      · skip
        refine lv_iload_n hx hb dX10_isLetter_18 rfl (lv_at hl 0 rfl) ?_
        refine lv_bipush (v := 103) hx hb dX10_isLetter_19 (by decide) ?_
        refine lv_icmp_eq (tgt := 30) hx hb dX10_isLetter_21 (by decide) (fun c_4 => ?_) (fun c_4 => ?_)
        · skip
          refine lv_iconst (v := 1) hx hb dX10_isLetter_30 (by decide) ?_
          refine lv_goto (tgt := 35) hx hb dX10_isLetter_31 (by decide) ?_
          exact g_zret C hr hlk hW dX10_isLetter_35 (rfl) (by simp [bI, mIsL, c_1, c_2, c_3, c_4]) (rfl) (rfl)
        · skip
          refine lv_iload_n hx hb dX10_isLetter_24 rfl (lv_at hl 0 rfl) ?_
          refine lv_bipush (v := 102) hx hb dX10_isLetter_25 (by decide) ?_
          refine lv_icmp_ne (tgt := 34) hx hb dX10_isLetter_27 (by decide) (fun c_5 => ?_) (fun c_5 => ?_)
          · skip
            refine lv_iconst (v := 0) hx hb dX10_isLetter_34 (by decide) ?_
            exact g_zret C hr hlk hW dX10_isLetter_35 (rfl) (by simp [bI, mIsL, c_1, c_2, c_3, c_4, c_5]) (rfl) (rfl)
          · skip
            refine lv_iconst (v := 1) hx hb dX10_isLetter_30 (by decide) ?_
            refine lv_goto (tgt := 35) hx hb dX10_isLetter_31 (by decide) ?_
            exact g_zret C hr hlk hW dX10_isLetter_35 (rfl) (by simp [bI, mIsL, c_1, c_2, c_3, c_4, c_5]) (rfl) (rfl)
set_option maxHeartbeats 4000000 in
set_option maxRecDepth 100000 in
theorem m_isWell (l : Launch) (G : gG) (σ : gSt) (τ : Nat → Int64) : gI l yX10_isWell cX10_isWell 1 (some .boolean) 0 0 G [.ref (gAd G 96)] σ τ (bI (decide (σ 96 8 < 0))) σ τ := by
  refine gMet_of (by decide) (Nat.le_of_ble_eq_true rfl) ?_
  intro p e s m args below meth c C hr hlk ls hl hW
  have hx := C.1
  have hb := C.2.1
  have hl : lv_has ls 1 [(0, .ref (gAd G 96))] := hl
  refine lv_aload_n hx hb dX10_isWell_0 rfl (lv_at hl 0 rfl) ?_
  refine gf_X10_93 (v := σ 96 8) C hW (by decide) rfl rfl dX10_isWell_1 ?_
  refine lv_if_ge (tgt := 11) hx hb dX10_isWell_4 (by decide) (fun c_1 => ?_) (fun c_1 => ?_)
  · skip
    refine lv_iconst (v := 0) hx hb dX10_isWell_11 (by decide) ?_
    exact g_zret C hr hlk hW dX10_isWell_12 (rfl) (by simp [bI, c_1]) (rfl) (rfl)
  · skip
    refine lv_iconst (v := 1) hx hb dX10_isWell_7 (by decide) ?_
    refine lv_goto (tgt := 12) hx hb dX10_isWell_8 (by decide) ?_
    exact g_zret C hr hlk hW dX10_isWell_12 (rfl) (by simp [bI, c_1]) (rfl) (rfl)
set_option maxHeartbeats 4000000 in
set_option maxRecDepth 100000 in
theorem m_type (l : Launch) (G : gG) (σ : gSt) (τ : Nat → Int64) (a0 : Int32) (t : Nat) (ht : σ 96 3 = nI t) (ht2 : t ≤ 200) : gI l yX10_type cX10_type 2 (some .int) 1 22 G [.ref (gAd G 96), .int a0] σ τ (if mIn a0 0 255 = true then (if t = 200 then -3 else nI (t + 1)) else -1) (if mIn a0 0 255 = true ∧ t < 200 then gu (gu σ 97 t a0) 96 3 (nI (t + 1)) else σ) τ := by
  refine gMet_of (by decide) (Nat.le_of_ble_eq_true rfl) ?_
  intro p e s m args below meth c C hr hlk ls hl hW
  have hx := C.1
  have hb := C.2.1
  have hl : lv_has ls 2 [(0, .ref (gAd G 96)), (1, .int a0)] := hl
  refine lv_aload_n hx hb dX10_type_0 rfl (lv_at hl 0 rfl) ?_
  refine lv_iconst (v := 0) hx hb dX10_type_1 (by decide) ?_
  refine gp_X10_62 C hW (by decide) rfl dX10_type_2 (fun H locs hW => ?_)
  refine lv_iload_n hx hb dX10_type_5 rfl (lv_at hl 1 rfl) ?_
  refine lv_iconst (v := 0) hx hb dX10_type_6 (by decide) ?_
  refine lv_sipush (v := 255) hx hb dX10_type_7 (by decide) ?_
  refine g_callsI (rest := []) (As := [.int a0, .int 0, .int 255]) C hW ks_X10_66 (m_in l G σ τ a0 0 255) ⟨Nat.le_of_ble_eq_true rfl, Nat.le_of_ble_eq_true rfl⟩ ⟨Nat.le_refl _, Nat.le_refl _⟩ rfl hl.1 rfl (Nat.le_of_ble_eq_true rfl) dX10_type_10 (fun H locs hW => ?_)
  refine lv_if_ne (tgt := 18) hx hb dX10_type_13 (by decide) (fun c_1 => ?_) (fun c_1 => ?_)
  · skip
    replace c_1 : (mIn a0 0 255) = true := bI_ne0.mp c_1
    refine lv_aload_n hx hb dX10_type_18 rfl (lv_at hl 0 rfl) ?_
    refine gf_X10_70 (v := nI t) C hW (by decide) rfl ht dX10_type_19 ?_
    refine lv_sipush (v := 200) hx hb dX10_type_22 (by decide) ?_
    refine lv_icmp_ne (tgt := 31) hx hb dX10_type_25 (by decide) (fun c_2 => ?_) (fun c_2 => ?_)
    · skip
      replace c_2 : ¬ t = 200 := mt (nI_eq (a := t) (b := 200) (by omega) (by omega)).mpr c_2
      refine lv_aload_n hx hb dX10_type_31 rfl (lv_at hl 0 rfl) ?_
      refine gf_X10_7 C hW (by decide) rfl dX10_type_32 ?_
      refine lv_aload_n hx hb dX10_type_35 rfl (lv_at hl 0 rfl) ?_
      refine gf_X10_70 (v := nI t) C hW (by decide) rfl ht dX10_type_36 ?_
      refine lv_iload_n hx hb dX10_type_39 rfl (lv_at hl 1 rfl) ?_
      refine g_ast t C hW (by decide) rfl rfl (show t < 200 by omega) (by decide) dX10_type_40 (fun H locs hW => ?_)
      refine lv_aload_n hx hb dX10_type_41 rfl (lv_at hl 0 rfl) ?_
      refine lv_dup hx hb dX10_type_42 rfl ?_
      refine gf_X10_70 (v := nI t) C hW (by decide) rfl ht dX10_type_43 ?_
      refine lv_iconst (v := 1) hx hb dX10_type_46 (by decide) ?_
      refine lv_iadd hx hb dX10_type_47 ?_
      refine gp_X10_70 C hW (by decide) rfl dX10_type_48 (fun H locs hW => ?_)
      refine lv_aload_n hx hb dX10_type_51 rfl (lv_at hl 0 rfl) ?_
      refine gf_X10_70 (v := (nI t) + 1) C hW (by decide) rfl rfl dX10_type_52 ?_
      exact g_iret C hr hlk hW dX10_type_55 (by simp [c_1, c_2, nI_1]) (by rw [if_pos ⟨c_1, by omega⟩, nI_1]) (rfl)
    · skip
      replace c_2 : t = 200 := (nI_eq (a := t) (b := 200) (by omega) (by omega)).mp c_2
      refine lv_bipush (v := (-3)) hx hb dX10_type_28 (by decide) ?_
      exact g_iret C hr hlk hW dX10_type_30 (by simp_all [nI_1]) (by rw [if_neg (by rintro ⟨q1, q2⟩; simp_all)]) (rfl)
  · skip
    replace c_1 : (mIn a0 0 255) = false := bI_eq0.mp c_1
    refine lv_iconst (v := (-1)) hx hb dX10_type_16 (by decide) ?_
    exact g_iret C hr hlk hW dX10_type_17 (by simp_all [nI_1]) (by rw [if_neg (by rintro ⟨q1, q2⟩; simp_all)]) (rfl)
set_option maxHeartbeats 4000000 in
set_option maxRecDepth 100000 in
theorem m_clear (l : Launch) (G : gG) (σ : gSt) (τ : Nat → Int64) : gI l yX10_clear cX10_clear 2 (some .int) 0 0 G [.ref (gAd G 96)] σ τ (σ 96 3) (gu σ 96 3 0) τ := by
  refine gMet_of (by decide) (Nat.le_of_ble_eq_true rfl) ?_
  intro p e s m args below meth c C hr hlk ls hl hW
  have hx := C.1
  have hb := C.2.1
  have hl : lv_has ls 2 [(0, .ref (gAd G 96))] := hl
  refine lv_aload_n hx hb dX10_clear_0 rfl (lv_at hl 0 rfl) ?_
  refine lv_iconst (v := 0) hx hb dX10_clear_1 (by decide) ?_
  refine gp_X10_62 C hW (by decide) rfl dX10_clear_2 (fun H locs hW => ?_)
  refine lv_aload_n hx hb dX10_clear_5 rfl (lv_at hl 0 rfl) ?_
  refine gf_X10_70 (v := σ 96 3) C hW (by decide) rfl rfl dX10_clear_6 ?_
  refine lv_istore_n (lv' := [(1, .int (σ 96 3)), (0, .ref (gAd G 96))]) hx hb dX10_clear_9 rfl hl (by decide) rfl (fun ls hl => ?_)
  refine lv_aload_n hx hb dX10_clear_10 rfl (lv_at hl 1 rfl) ?_
  refine lv_iconst (v := 0) hx hb dX10_clear_11 (by decide) ?_
  refine gp_X10_70 C hW (by decide) rfl dX10_clear_12 (fun H locs hW => ?_)
  refine lv_iload_n hx hb dX10_clear_15 rfl (lv_at hl 0 rfl) ?_
  exact g_iret C hr hlk hW dX10_clear_16 (by simp [bI]) (rfl) (rfl)
set_option maxHeartbeats 4000000 in
set_option maxRecDepth 100000 in
theorem m_letterAt (l : Launch) (G : gG) (σ : gSt) (τ : Nat → Int64) (k : Nat) (hk : k ≤ 200) (t : Nat) (ht : σ 96 3 = nI t) (ht2 : t ≤ 200) : gI l yX10_letterAt cX10_letterAt 2 (some .int) 0 0 G [.ref (gAd G 96), .int (nI k)] σ τ (if k < t then σ 97 k else -1) σ τ := by
  refine gMet_of (by decide) (Nat.le_of_ble_eq_true rfl) ?_
  intro p e s m args below meth c C hr hlk ls hl hW
  have hx := C.1
  have hb := C.2.1
  have hl : lv_has ls 2 [(0, .ref (gAd G 96)), (1, .int (nI k))] := hl
  refine lv_iload_n hx hb dX10_letterAt_0 rfl (lv_at hl 1 rfl) ?_
  refine lv_aload_n hx hb dX10_letterAt_1 rfl (lv_at hl 0 rfl) ?_
  refine gf_X10_70 (v := nI t) C hW (by decide) rfl ht dX10_letterAt_2 ?_
  refine lv_icmp_ge (tgt := 17) hx hb dX10_letterAt_5 (by decide) (fun c_1 => ?_) (fun c_1 => ?_)
  · skip
    replace c_1 : t ≤ k := (nI_leI (a := t) (b := k) (by omega) (by omega)).mp c_1
    refine lv_iconst (v := (-1)) hx hb dX10_letterAt_17 (by decide) ?_
    exact g_iret C hr hlk hW dX10_letterAt_18 (by rw [if_neg (by omega)]) (rfl) (rfl)
  · skip
    replace c_1 : k < t := Nat.not_le.mp (mt (nI_leI (a := t) (b := k) (by omega) (by omega)).mpr c_1)
    refine lv_aload_n hx hb dX10_letterAt_8 rfl (lv_at hl 0 rfl) ?_
    refine gf_X10_7 C hW (by decide) rfl dX10_letterAt_9 ?_
    refine lv_iload_n hx hb dX10_letterAt_12 rfl (lv_at hl 1 rfl) ?_
    refine g_ald (v := σ 97 k) k C hW (by decide) rfl rfl (show k < 200 by omega) (by decide) rfl dX10_letterAt_13 ?_
    refine lv_goto (tgt := 18) hx hb dX10_letterAt_14 (by decide) ?_
    exact g_iret C hr hlk hW dX10_letterAt_18 (by rw [if_pos (by omega)]) (rfl) (rfl)
set_option maxHeartbeats 4000000 in
set_option maxRecDepth 100000 in
theorem m_isRung (l : Launch) (G : gG) (σ : gSt) (τ : Nat → Int64) (a0 a1 a2 : Int32) (D : Nat) (hD : σ 98 2 = nI D) (hD8 : D ≤ 8) : gI l yX10_isRung cX10_isRung 7 (some .boolean) 0 0 G [.ref (gAd G 96), .int a0, .int a1, .int a2] σ τ (bI (mRung σ a0 a1 a2 D)) σ τ := by
  refine gMet_of (by decide) (Nat.le_of_ble_eq_true rfl) ?_
  intro p e s m args below meth c C hr hlk ls hl hW
  have hx := C.1
  have hb := C.2.1
  have hl : lv_has ls 7 [(0, .ref (gAd G 96)), (1, .int a0), (2, .int a1), (3, .int a2)] := hl
  refine lv_iconst (v := 0) hx hb dX10_isRung_0 (by decide) ?_
  refine lv_istore (lv' := [(4, .int 0), (0, .ref (gAd G 96)), (1, .int a0), (2, .int a1), (3, .int a2)]) hx hb dX10_isRung_1 hl (by decide) rfl (fun ls hl => ?_)
  refine lv_iconst (v := 0) hx hb dX10_isRung_3 (by decide) ?_
  refine lv_istore (lv' := [(5, .int 0), (4, .int 0), (0, .ref (gAd G 96)), (1, .int a0), (2, .int a1), (3, .int a2)]) hx hb dX10_isRung_4 hl (by decide) rfl (fun ls hl => ?_)
  have L6 : ∀ (n : Nat) (d : Nat) (v : Bool) (H : Heap) (locs : List Loc) (ls : Array Slot), n + d = D → v = mRung σ a0 a1 a2 d → gW G s σ τ H locs → lv_has ls 7 [(5, .int (nI d)), (4, .int (bI v)), (0, .ref (gAd G 96)), (1, .int a0), (2, .int a1), (3, .int a2)] → W p l e (gRm 0 0) s m args below meth c H locs 0 0 (MQ below (gQi G (bI (mRung σ a0 a1 a2 D)) σ τ) args s 0 0 (gA G)) (F0 m 6 ls []) := by
    intro n
    induction n with
    | zero =>
      intro d v H locs ls hm hv hW hl
      refine lv_iload hx hb dX10_isRung_6 (lv_at hl 0 rfl) ?_
      refine lv_aload_n hx hb dX10_isRung_8 rfl (lv_at hl 2 rfl) ?_
      refine gf_X10_13 C hW (by decide) rfl dX10_isRung_9 ?_
      refine lv_iconst (v := 2) hx hb dX10_isRung_12 (by decide) ?_
      refine g_ald (v := nI D) 2 C hW (by decide) rfl rfl (by decide) (by decide) hD dX10_isRung_13 ?_
      refine lv_icmp_ge (tgt := 121) hx hb dX10_isRung_14 (by decide) (fun _ => ?_) (fun zz => absurd (show nI D ≤ nI d from nI_le (by omega) (by omega)) zz)
      refine lv_iload hx hb dX10_isRung_121 (lv_at hl 1 rfl) ?_
      exact g_zret C hr hlk hW dX10_isRung_123 (bI_nar _) (by rw [hv, show d = D by omega]) (rfl) (rfl)
    | succ n ih =>
      intro d v H locs ls hm hv hW hl
      refine lv_iload hx hb dX10_isRung_6 (lv_at hl 0 rfl) ?_
      refine lv_aload_n hx hb dX10_isRung_8 rfl (lv_at hl 2 rfl) ?_
      refine gf_X10_13 C hW (by decide) rfl dX10_isRung_9 ?_
      refine lv_iconst (v := 2) hx hb dX10_isRung_12 (by decide) ?_
      refine g_ald (v := nI D) 2 C hW (by decide) rfl rfl (by decide) (by decide) hD dX10_isRung_13 ?_
      refine lv_icmp_ge (tgt := 121) hx hb dX10_isRung_14 (by decide) (fun zz => absurd zz (show ¬ nI D ≤ nI d from nI_ge (by omega) (by omega))) (fun _ => ?_)
      have K59 : ∀ (w : Bool), w = rOn (σ 102) (σ 103) (σ 98 4) a1 d → ∀ (H : Heap) (locs : List Loc) (ls : Array Slot), gW G s σ τ H locs → lv_has ls 7 [(5, .int (nI d)), (4, .int (bI v)), (0, .ref (gAd G 96)), (1, .int a0), (2, .int a1), (3, .int a2)] → W p l e (gRm 0 0) s m args below meth c H locs 0 0 (MQ below (gQi G (bI (mRung σ a0 a1 a2 D)) σ τ) args s 0 0 (gA G)) (F0 m 59 ls [.int (bI w)]) := by
        intro w hw H locs ls hW hl
        refine lv_istore (lv' := [(6, .int (bI w)), (5, .int (nI d)), (4, .int (bI v)), (0, .ref (gAd G 96)), (1, .int a0), (2, .int a1), (3, .int a2)]) hx hb dX10_isRung_59 hl (by decide) rfl (fun ls hl => ?_)
        have K113 : ∀ (z : Bool), z = mRung σ a0 a1 a2 (d + 1) → ∀ (H : Heap) (locs : List Loc) (ls : Array Slot), gW G s σ τ H locs → lv_has ls 7 [(6, .int (bI w)), (5, .int (nI d)), (4, .int (bI v)), (0, .ref (gAd G 96)), (1, .int a0), (2, .int a1), (3, .int a2)] → W p l e (gRm 0 0) s m args below meth c H locs 0 0 (MQ below (gQi G (bI (mRung σ a0 a1 a2 D)) σ τ) args s 0 0 (gA G)) (F0 m 113 ls [.int (bI z)]) := by
          intro z hz H locs ls hW hl
          refine lv_istore (lv' := [(4, .int (bI z)), (6, .int (bI w)), (5, .int (nI d)), (0, .ref (gAd G 96)), (1, .int a0), (2, .int a1), (3, .int a2)]) hx hb dX10_isRung_113 hl (by decide) rfl (fun ls hl => ?_)
          refine lv_iinc (v := nI (d + 1)) (lv' := [(5, .int (nI (d + 1))), (4, .int (bI z)), (6, .int (bI w)), (0, .ref (gAd G 96)), (1, .int a0), (2, .int a1), (3, .int a2)]) hx hb dX10_isRung_115 hl (k := 2) rfl (nI_1 _) (by decide) rfl (fun ls hl => ?_)
          refine lv_goto (tgt := 6) hx hb dX10_isRung_118 (by decide) ?_
          exact ih (d + 1) z _ _ _ (by omega) (by exact hz) hW (lv_sub hl [0, 1, 3, 4, 5, 6] rfl)
        refine lv_iload hx hb dX10_isRung_61 (lv_at hl 2 rfl) ?_
        refine lv_if_ne (tgt := 108) hx hb dX10_isRung_63 (by decide) (fun c_1 => ?_) (fun c_1 => ?_)
        · skip
          replace c_1 : v = true := bI_ne0.mp c_1
          refine lv_iconst (v := 1) hx hb dX10_isRung_108 (by decide) ?_
          refine lv_goto (tgt := 113) hx hb dX10_isRung_109 (by decide) ?_
          exact K113 true (by simp_all [rRung, rDue]) _ _ _ hW (lv_sub hl [0, 1, 2, 3, 4, 5, 6] rfl)
        · skip
          replace c_1 : v = false := bI_eq0.mp c_1
          refine lv_aload_n hx hb dX10_isRung_66 rfl (lv_at hl 3 rfl) ?_
          refine gf_X10_31 C hW (by decide) rfl dX10_isRung_67 ?_
          refine lv_bipush (v := 17) hx hb dX10_isRung_70 (by decide) ?_
          refine lv_iload hx hb dX10_isRung_72 (lv_at hl 1 rfl) ?_
          refine lv_iadd hx hb dX10_isRung_74 ?_
          refine g_ald (v := σ 104 (17 + d)) (17 + d) C hW (by decide) rfl (gadd (rfl : 17 = nI 17) (rfl : nI d = nI d)) (show (17 + d) < 25 by omega) (by decide) rfl dX10_isRung_75 ?_
          refine lv_iload_n hx hb dX10_isRung_76 rfl (lv_at hl 4 rfl) ?_
          refine lv_icmp_ne (tgt := 112) hx hb dX10_isRung_77 (by decide) (fun c_2 => ?_) (fun c_2 => ?_)
          · skip
            refine lv_iconst (v := 0) hx hb dX10_isRung_112 (by decide) ?_
            exact K113 false (by simp_all [rRung, rDue]) _ _ _ hW (lv_sub hl [0, 1, 2, 3, 4, 5, 6] rfl)
          · skip
            refine lv_aload_n hx hb dX10_isRung_80 rfl (lv_at hl 3 rfl) ?_
            refine gf_X10_127 (v := σ 96 25) C hW (by decide) rfl rfl dX10_isRung_81 ?_
            refine lv_iload hx hb dX10_isRung_84 (lv_at hl 1 rfl) ?_
            refine lv_ishr hx hb dX10_isRung_86 ?_
            refine lv_iconst (v := 1) hx hb dX10_isRung_87 (by decide) ?_
            refine lv_iand hx hb dX10_isRung_88 ?_
            refine lv_if_ne (tgt := 112) hx hb dX10_isRung_89 (by decide) (fun c_3 => ?_) (fun c_3 => ?_)
            · skip
              refine lv_iconst (v := 0) hx hb dX10_isRung_112 (by decide) ?_
              exact K113 false (by simp_all [rRung, rDue]) _ _ _ hW (lv_sub hl [0, 1, 2, 3, 4, 5, 6] rfl)
            · skip
              refine lv_iload hx hb dX10_isRung_92 (lv_at hl 0 rfl) ?_
              refine lv_if_eq (tgt := 112) hx hb dX10_isRung_94 (by decide) (fun c_4 => ?_) (fun c_4 => ?_)
              · skip
                replace c_4 : w = false := bI_eq0.mp c_4
                refine lv_iconst (v := 0) hx hb dX10_isRung_112 (by decide) ?_
                exact K113 false (by simp_all [rRung, rDue]) _ _ _ hW (lv_sub hl [0, 1, 2, 3, 4, 5, 6] rfl)
              · skip
                replace c_4 : w = true := bI_ne0.mp c_4
                refine lv_aload_n hx hb dX10_isRung_97 rfl (lv_at hl 3 rfl) ?_
                refine gf_X10_22 C hW (by decide) rfl dX10_isRung_98 ?_
                refine lv_iload hx hb dX10_isRung_101 (lv_at hl 1 rfl) ?_
                refine g_ald (v := σ 101 d) d C hW (by decide) rfl rfl (show d < 16 by omega) (by decide) rfl dX10_isRung_103 ?_
                refine lv_iload_n hx hb dX10_isRung_104 rfl (lv_at hl 6 rfl) ?_
                refine lv_icmp_eq (tgt := 112) hx hb dX10_isRung_105 (by decide) (fun c_5 => ?_) (fun c_5 => ?_)
                · skip
                  refine lv_iconst (v := 0) hx hb dX10_isRung_112 (by decide) ?_
                  exact K113 false (by simp_all [rRung, rDue]) _ _ _ hW (lv_sub hl [0, 1, 2, 3, 4, 5, 6] rfl)
                · skip
                  refine lv_iconst (v := 1) hx hb dX10_isRung_108 (by decide) ?_
                  refine lv_goto (tgt := 113) hx hb dX10_isRung_109 (by decide) ?_
                  exact K113 true (by simp_all [rRung, rDue]) _ _ _ hW (lv_sub hl [0, 1, 2, 3, 4, 5, 6] rfl)
      refine lv_iload_n hx hb dX10_isRung_17 rfl (lv_at hl 4 rfl) ?_
      refine lv_aload_n hx hb dX10_isRung_18 rfl (lv_at hl 2 rfl) ?_
      refine gf_X10_25 C hW (by decide) rfl dX10_isRung_19 ?_
      refine lv_iload hx hb dX10_isRung_22 (lv_at hl 0 rfl) ?_
      refine g_ald (v := σ 102 d) d C hW (by decide) rfl rfl (show d < 16 by omega) (by decide) rfl dX10_isRung_24 ?_
      refine lv_aload_n hx hb dX10_isRung_25 rfl (lv_at hl 2 rfl) ?_
      refine gf_X10_13 C hW (by decide) rfl dX10_isRung_26 ?_
      refine lv_iconst (v := 4) hx hb dX10_isRung_29 (by decide) ?_
      refine g_ald (v := σ 98 4) 4 C hW (by decide) rfl rfl (by decide) (by decide) rfl dX10_isRung_30 ?_
      refine lv_iadd hx hb dX10_isRung_31 ?_
      refine lv_icmp_lt (tgt := 58) hx hb dX10_isRung_32 (by decide) (fun c_6 => ?_) (fun c_6 => ?_)
      · skip
        refine lv_iconst (v := 0) hx hb dX10_isRung_58 (by decide) ?_
        exact K59 false (by simp [bI, rOn, hv, c_6]) _ _ _ hW (lv_sub hl [0, 1, 2, 3, 4, 5] rfl)
      · skip
        refine lv_iload_n hx hb dX10_isRung_35 rfl (lv_at hl 4 rfl) ?_
        refine lv_aload_n hx hb dX10_isRung_36 rfl (lv_at hl 2 rfl) ?_
        refine gf_X10_25 C hW (by decide) rfl dX10_isRung_37 ?_
        refine lv_iload hx hb dX10_isRung_40 (lv_at hl 0 rfl) ?_
        refine g_ald (v := σ 102 d) d C hW (by decide) rfl rfl (show d < 16 by omega) (by decide) rfl dX10_isRung_42 ?_
        refine lv_aload_n hx hb dX10_isRung_43 rfl (lv_at hl 2 rfl) ?_
        refine gf_X10_28 C hW (by decide) rfl dX10_isRung_44 ?_
        refine lv_iload hx hb dX10_isRung_47 (lv_at hl 0 rfl) ?_
        refine g_ald (v := σ 103 d) d C hW (by decide) rfl rfl (show d < 16 by omega) (by decide) rfl dX10_isRung_49 ?_
        refine lv_iadd hx hb dX10_isRung_50 ?_
        refine lv_icmp_ge (tgt := 58) hx hb dX10_isRung_51 (by decide) (fun c_7 => ?_) (fun c_7 => ?_)
        · skip
          refine lv_iconst (v := 0) hx hb dX10_isRung_58 (by decide) ?_
          exact K59 false (by simp [bI, rOn, hv, c_6, c_7]) _ _ _ hW (lv_sub hl [0, 1, 2, 3, 4, 5] rfl)
        · skip
          refine lv_iconst (v := 1) hx hb dX10_isRung_54 (by decide) ?_
          refine lv_goto (tgt := 59) hx hb dX10_isRung_55 (by decide) ?_
          exact K59 true (by simp [bI, rOn, hv, c_6, c_7]) _ _ _ hW (lv_sub hl [0, 1, 2, 3, 4, 5] rfl)
  exact L6 D 0 false _ _ _ (by omega) (by first | rfl | simp [bI]) hW (lv_sub hl [0, 1, 2, 3, 4, 5] rfl)
end
section
/-! ===== the reference: loops over rows ===== -/
/-- n places of cell c2 from o2 on are put into cell c1 from o1 on, one after the other -/
def gcp (c1 c2 o1 o2 : Nat) (σ : gSt) : Nat → gSt
  | 0 => σ
  | k + 1 => gu (gcp c1 c2 o1 o2 σ k) c1 (o1 + k) (gcp c1 c2 o1 o2 σ k c2 (o2 + k))
theorem gu_ne {σ : gSt} {i k c : Nat} {x : Int32} (h : c ≠ i) : gu σ i k x c = σ c := by simp [gu, va_up, h]
theorem gu_at (σ : gSt) (i k c j : Nat) (x : Int32) : gu σ i k x c j = if c = i ∧ j = k then x else σ c j := by
  by_cases h : c = i
  · subst h; by_cases h2 : j = k <;> simp [gu, va_up, upd, h2]
  · simp [gu, va_up, h]
theorem gu_self (σ : gSt) (i k : Nat) : gu σ i k (σ i k) = σ := by
  funext c j
  rw [gu_at]
  split
  · next h => rw [h.1, h.2]
  · rfl
theorem gu_gu (σ : gSt) (i k : Nat) (x y : Int32) : gu (gu σ i k x) i k y = gu σ i k y := by
  funext c j
  simp only [gu_at]
  split <;> rfl
theorem gcp_ne {c1 c2 o1 o2 : Nat} {σ : gSt} {c : Nat} (h : c ≠ c1) : ∀ n, gcp c1 c2 o1 o2 σ n c = σ c
  | 0 => rfl
  | n + 1 => by rw [gcp, gu_ne h, gcp_ne h n]
theorem gcp_at {c1 c2 o1 o2 : Nat} {σ : gSt} (hc : c1 ≠ c2 ∨ o1 ≤ o2) : ∀ (n j : Nat), gcp c1 c2 o1 o2 σ n c1 j = if o1 ≤ j ∧ j < o1 + n then σ c2 (o2 + (j - o1)) else σ c1 j
  | 0, j => by simp [gcp]; intro a b; omega
  | n + 1, j => by
    rw [gcp, gu_at]
    by_cases hj : j = o1 + n
    · subst hj
      rw [if_pos ⟨rfl, rfl⟩, if_pos ⟨by omega, by omega⟩, show o1 + n - o1 = n by omega]
      by_cases e : c1 = c2
      · subst e
        rw [gcp_at hc n, if_neg (by rintro ⟨a, b⟩; rcases hc with q | q <;> omega)]
      · rw [gcp_ne (Ne.symm e)]
    · rw [if_neg (fun q => hj q.2), gcp_at hc n]
      by_cases hq : o1 ≤ j ∧ j < o1 + n
      · rw [if_pos hq, if_pos ⟨hq.1, by omega⟩]
      · rw [if_neg hq, if_neg (fun q => hq ⟨q.1, by omega⟩)]
/-- the first of the next n minutes with P -/
def rFirst (P : Nat → Bool) : Nat → Nat → Int32
  | 0, _ => -9
  | n + 1, m => if P m = true then nI m else rFirst P n (m + 1)
/-- whether none of the next n minutes has P -/
def rNone (P : Nat → Bool) : Nat → Nat → Bool
  | 0, _ => true
  | n + 1, m => if P m = true then false else rNone P n (m + 1)
def rCount (P : Nat → Bool) (m : Nat) : Nat → Int32
  | 0 => 0
  | i + 1 => if P (m + i) = true then rCount P m i + 1 else rCount P m i
def rFst (P : Nat → Bool) (m : Nat) : Nat → Int32
  | 0 => -9
  | i + 1 => if P (m + i) = true then (if rCount P m i = 0 then nI (m + i) else rFst P m i) else rFst P m i
def rSum (sr : Nat → Int32) : Nat → Int32
  | 0 => 0
  | p + 1 => rSum sr p + sr (10 + p)
/-- who was tolled for most, looked at from above: i of N seen -/
def rWorst (sr : Nat → Int32) (N : Nat) : Nat → Int32
  | 0 => -9
  | i + 1 => if sr (10 + (N - 1 - i)) ≤ 0 then rWorst sr N i else if rWorst sr N i = -9 then nI (N - 1 - i) else if sr (10 + (N - 1 - i)) < sr (10 + (rWorst sr N i).toNatClampNeg) then rWorst sr N i else nI (N - 1 - i)
theorem rWorst_nat {sr : Nat → Int32} {N : Nat} (hN : N ≤ 5) : ∀ i, i ≤ N → rWorst sr N i = -9 ∨ ∃ j, j < N ∧ rWorst sr N i = nI j
  | 0, _ => Or.inl rfl
  | i + 1, h => by
    rw [rWorst]
    have ih := rWorst_nat (sr := sr) hN i (by omega)
    split
    · exact ih
    · split
      · exact Or.inr ⟨N - 1 - i, by omega, rfl⟩
      · split
        · exact ih
        · exact Or.inr ⟨N - 1 - i, by omega, rfl⟩
def mNotes1 (σ : gSt) (u : Nat) : gSt := if u = 10 then gu (gcp 107 107 0 25 σ 225) 96 20 9 else σ
def mNotes (σ : gSt) (u : Nat) : gSt := gu (gcp 107 104 (25 * (if u = 10 then 9 else u)) 0 (mNotes1 σ u) 25) 96 20 (nI ((if u = 10 then 9 else u) + 1))
theorem mNotes_ne {σ : gSt} {u c : Nat} (h1 : c ≠ 107) (h2 : c ≠ 96) : mNotes σ u c = σ c := by
  rw [mNotes, gu_ne h2, gcp_ne h1, mNotes1]
  split
  · rw [gu_ne h2, gcp_ne h1]
  · rfl
def mWalk (mn : Nat → Int32) (a b : Int32) : Int32 := mn 3 * (if b ≤ a then a - b else b - a)
abbrev mNowS (σ : gSt) : gSt := gu σ 96 25 (σ 104 16)
theorem sh1 : ∀ D, D ≤ 8 → (1 : Int32) <<< (nI D &&& 31) = nI (2 ^ D) := by decide
/-- the reference's search for the fewest: (the best yet, what 'without' is) behind k sets -/
def rSil (fm lt wh sr : Nat → Int32) (fr set wo0 : Int32) (D N mi : Nat) : Nat → Int32 × Int32
  | 0 => (-9, wo0)
  | k + 1 =>
    if nI k &&& sr 16 = 0 then
      (if (rSil fm lt wh sr fr set wo0 D N mi k).1 = -9 ∨ ¬ mOnes (rSil fm lt wh sr fr set wo0 D N mi k).1 8 ≤ mOnes (nI k) 8 then
        ((if rNone (fun m => decide (set &&& (rRings fm lt wh sr fr (sr 16 ||| nI k) (nI m) D N ^^^ -1) = 0)) (240 - mi) mi = true then nI k else (rSil fm lt wh sr fr set wo0 D N mi k).1), sr 16 ||| nI k)
      else rSil fm lt wh sr fr set wo0 D N mi k)
    else rSil fm lt wh sr fr set wo0 D N mi k
abbrev mSil (σ : gSt) (set : Int32) (D N mi : Nat) (k : Nat) : Int32 × Int32 := rSil (σ 102) (σ 103) (σ 101) (σ 104) (σ 98 4) set (σ 96 25) D N mi k
def rFits (fm lt wh sr ho ha hs : Nat → Int32) (fr wo p at_ : Int32) (D : Nat) : Nat → Bool
  | 0 => true
  | e + 1 => rFits fm lt wh sr ho ha hs fr wo p at_ D e && (!decide (ho e = p) || (rRung fm lt wh sr fr wo p (ha e) at_ D == decide (hs e = 1)))
def rCan (fm lt wh sr ho ha hs : Nat → Int32) (fr wo p : Int32) (D E : Nat) : Nat → Int32
  | 0 => 0
  | k + 1 => rCan fm lt wh sr ho ha hs fr wo p D E k ||| (if rFits fm lt wh sr ho ha hs fr wo p (nI k) D E = true then 1 <<< (nI k &&& 31) else 0)
def rTraceAdd (a : Int32) : Int64 := if a = 0 then 1 else if a = 1 then 11 else if a = 2 then 101 else if a = 3 then 1011 else if a = 4 then 10101 else 100001
/-- how often the duties alone ring: (10 to the power, x to the power), d duties seen -/
def rOdds (fm lt wh sr : Nat → Int32) (fr p mi at_ x : Int32) (D : Nat) : Nat → Int32 × Int32
  | 0 => (1, 1)
  | d + 1 => if rRung fm lt wh sr fr (255 &&& ((1 <<< (nI d &&& 31)) ^^^ -1) ||| sr 16) p mi at_ D = true then ((rOdds fm lt wh sr fr p mi at_ x D d).1 * 10, (rOdds fm lt wh sr fr p mi at_ x D d).2 * x) else rOdds fm lt wh sr fr p mi at_ x D d
abbrev mOdds (σ : gSt) (p mi at_ x : Int32) (D d : Nat) : Int32 × Int32 := rOdds (σ 102) (σ 103) (σ 101) (σ 104) (σ 98 4) p mi at_ x D d
set_option maxHeartbeats 4000000 in
set_option maxRecDepth 100000 in
theorem m_isPerson (l : Launch) (G : gG) (σ : gSt) (τ : Nat → Int64) (a0 : Int32) : gI l yX10_isPerson cX10_isPerson 2 (some .boolean) 1 22 G [.ref (gAd G 96), .int a0] σ τ (bI (mIn a0 0 (σ 98 1 - 1))) σ τ := by
  refine gMet_of (by decide) (Nat.le_of_ble_eq_true rfl) ?_
  intro p e s m args below meth c C hr hlk ls hl hW
  have hx := C.1
  have hb := C.2.1
  have hl : lv_has ls 2 [(0, .ref (gAd G 96)), (1, .int a0)] := hl
  refine lv_iload_n hx hb dX10_isPerson_0 rfl (lv_at hl 1 rfl) ?_
  refine lv_iconst (v := 0) hx hb dX10_isPerson_1 (by decide) ?_
  refine lv_aload_n hx hb dX10_isPerson_2 rfl (lv_at hl 0 rfl) ?_
  refine gf_X10_13 C hW (by decide) rfl dX10_isPerson_3 ?_
  refine lv_iconst (v := 1) hx hb dX10_isPerson_6 (by decide) ?_
  refine g_ald (v := σ 98 1) 1 C hW (by decide) rfl rfl (by decide) (by decide) rfl dX10_isPerson_7 ?_
  refine lv_iconst (v := 1) hx hb dX10_isPerson_8 (by decide) ?_
  refine lv_isub hx hb dX10_isPerson_9 ?_
  refine g_callsI (rest := []) (As := [.int a0, .int 0, .int ((σ 98 1) - 1)]) C hW ks_X10_66 (m_in l G σ τ a0 0 ((σ 98 1) - 1)) ⟨Nat.le_of_ble_eq_true rfl, Nat.le_of_ble_eq_true rfl⟩ ⟨Nat.le_refl _, Nat.le_refl _⟩ rfl hl.1 rfl (Nat.le_of_ble_eq_true rfl) dX10_isPerson_10 (fun H locs hW => ?_)
  exact g_zret C hr hlk hW dX10_isPerson_13 (bI_nar _) (rfl) (rfl) (rfl)
set_option maxHeartbeats 4000000 in
set_option maxRecDepth 100000 in
theorem m_isDuty (l : Launch) (G : gG) (σ : gSt) (τ : Nat → Int64) (a0 : Int32) : gI l yX10_isDuty cX10_isDuty 2 (some .boolean) 1 22 G [.ref (gAd G 96), .int a0] σ τ (bI (mIn a0 0 (σ 98 2 - 1))) σ τ := by
  refine gMet_of (by decide) (Nat.le_of_ble_eq_true rfl) ?_
  intro p e s m args below meth c C hr hlk ls hl hW
  have hx := C.1
  have hb := C.2.1
  have hl : lv_has ls 2 [(0, .ref (gAd G 96)), (1, .int a0)] := hl
  refine lv_iload_n hx hb dX10_isDuty_0 rfl (lv_at hl 1 rfl) ?_
  refine lv_iconst (v := 0) hx hb dX10_isDuty_1 (by decide) ?_
  refine lv_aload_n hx hb dX10_isDuty_2 rfl (lv_at hl 0 rfl) ?_
  refine gf_X10_13 C hW (by decide) rfl dX10_isDuty_3 ?_
  refine lv_iconst (v := 2) hx hb dX10_isDuty_6 (by decide) ?_
  refine g_ald (v := σ 98 2) 2 C hW (by decide) rfl rfl (by decide) (by decide) rfl dX10_isDuty_7 ?_
  refine lv_iconst (v := 1) hx hb dX10_isDuty_8 (by decide) ?_
  refine lv_isub hx hb dX10_isDuty_9 ?_
  refine g_callsI (rest := []) (As := [.int a0, .int 0, .int ((σ 98 2) - 1)]) C hW ks_X10_66 (m_in l G σ τ a0 0 ((σ 98 2) - 1)) ⟨Nat.le_of_ble_eq_true rfl, Nat.le_of_ble_eq_true rfl⟩ ⟨Nat.le_refl _, Nat.le_refl _⟩ rfl hl.1 rfl (Nat.le_of_ble_eq_true rfl) dX10_isDuty_10 (fun H locs hW => ?_)
  exact g_zret C hr hlk hW dX10_isDuty_13 (bI_nar _) (rfl) (rfl) (rfl)
set_option maxHeartbeats 4000000 in
set_option maxRecDepth 100000 in
theorem m_isPlace (l : Launch) (G : gG) (σ : gSt) (τ : Nat → Int64) (a0 : Int32) : gI l yX10_isPlace cX10_isPlace 2 (some .boolean) 1 22 G [.ref (gAd G 96), .int a0] σ τ (bI (mIn a0 0 (σ 98 0 - 1))) σ τ := by
  refine gMet_of (by decide) (Nat.le_of_ble_eq_true rfl) ?_
  intro p e s m args below meth c C hr hlk ls hl hW
  have hx := C.1
  have hb := C.2.1
  have hl : lv_has ls 2 [(0, .ref (gAd G 96)), (1, .int a0)] := hl
  refine lv_iload_n hx hb dX10_isPlace_0 rfl (lv_at hl 1 rfl) ?_
  refine lv_iconst (v := 0) hx hb dX10_isPlace_1 (by decide) ?_
  refine lv_aload_n hx hb dX10_isPlace_2 rfl (lv_at hl 0 rfl) ?_
  refine gf_X10_13 C hW (by decide) rfl dX10_isPlace_3 ?_
  refine lv_iconst (v := 0) hx hb dX10_isPlace_6 (by decide) ?_
  refine g_ald (v := σ 98 0) 0 C hW (by decide) rfl rfl (by decide) (by decide) rfl dX10_isPlace_7 ?_
  refine lv_iconst (v := 1) hx hb dX10_isPlace_8 (by decide) ?_
  refine lv_isub hx hb dX10_isPlace_9 ?_
  refine g_callsI (rest := []) (As := [.int a0, .int 0, .int ((σ 98 0) - 1)]) C hW ks_X10_66 (m_in l G σ τ a0 0 ((σ 98 0) - 1)) ⟨Nat.le_of_ble_eq_true rfl, Nat.le_of_ble_eq_true rfl⟩ ⟨Nat.le_refl _, Nat.le_refl _⟩ rfl hl.1 rfl (Nat.le_of_ble_eq_true rfl) dX10_isPlace_10 (fun H locs hW => ?_)
  exact g_zret C hr hlk hW dX10_isPlace_13 (bI_nar _) (rfl) (rfl) (rfl)
set_option maxHeartbeats 4000000 in
set_option maxRecDepth 100000 in
theorem m_isSet (l : Launch) (G : gG) (σ : gSt) (τ : Nat → Int64) (a0 : Int32) : gI l yX10_isSet cX10_isSet 2 (some .boolean) 1 22 G [.ref (gAd G 96), .int a0] σ τ (bI (mIn a0 0 ((1 <<< (σ 98 1 &&& 31)) - 1))) σ τ := by
  refine gMet_of (by decide) (Nat.le_of_ble_eq_true rfl) ?_
  intro p e s m args below meth c C hr hlk ls hl hW
  have hx := C.1
  have hb := C.2.1
  have hl : lv_has ls 2 [(0, .ref (gAd G 96)), (1, .int a0)] := hl
  refine lv_iload_n hx hb dX10_isSet_0 rfl (lv_at hl 1 rfl) ?_
  refine lv_iconst (v := 0) hx hb dX10_isSet_1 (by decide) ?_
  refine lv_iconst (v := 1) hx hb dX10_isSet_2 (by decide) ?_
  refine lv_aload_n hx hb dX10_isSet_3 rfl (lv_at hl 0 rfl) ?_
  refine gf_X10_13 C hW (by decide) rfl dX10_isSet_4 ?_
  refine lv_iconst (v := 1) hx hb dX10_isSet_7 (by decide) ?_
  refine g_ald (v := σ 98 1) 1 C hW (by decide) rfl rfl (by decide) (by decide) rfl dX10_isSet_8 ?_
  refine lv_ishl hx hb dX10_isSet_9 ?_
  refine lv_iconst (v := 1) hx hb dX10_isSet_10 (by decide) ?_
  refine lv_isub hx hb dX10_isSet_11 ?_
  refine g_callsI (rest := []) (As := [.int a0, .int 0, .int ((1 <<< ((σ 98 1) &&& 31)) - 1)]) C hW ks_X10_66 (m_in l G σ τ a0 0 ((1 <<< ((σ 98 1) &&& 31)) - 1)) ⟨Nat.le_of_ble_eq_true rfl, Nat.le_of_ble_eq_true rfl⟩ ⟨Nat.le_refl _, Nat.le_refl _⟩ rfl hl.1 rfl (Nat.le_of_ble_eq_true rfl) dX10_isSet_12 (fun H locs hW => ?_)
  exact g_zret C hr hlk hW dX10_isSet_15 (bI_nar _) (rfl) (rfl) (rfl)
set_option maxHeartbeats 4000000 in
set_option maxRecDepth 100000 in
theorem m_asNow (l : Launch) (G : gG) (σ : gSt) (τ : Nat → Int64) : gV l yX10_asNow cX10_asNow 1 (none : Option Jvm.ClassFile.FieldType) 0 0 G [.ref (gAd G 96)] σ τ (mNowS σ) τ := by
  refine gMet_of (by decide) (Nat.le_of_ble_eq_true rfl) ?_
  intro p e s m args below meth c C hr hlk ls hl hW
  have hx := C.1
  have hb := C.2.1
  have hl : lv_has ls 1 [(0, .ref (gAd G 96))] := hl
  refine lv_aload_n hx hb dX10_asNow_0 rfl (lv_at hl 0 rfl) ?_
  refine lv_aload_n hx hb dX10_asNow_1 rfl (lv_at hl 0 rfl) ?_
  refine gf_X10_31 C hW (by decide) rfl dX10_asNow_2 ?_
  refine lv_bipush (v := 16) hx hb dX10_asNow_5 (by decide) ?_
  refine g_ald (v := σ 104 16) 16 C hW (by decide) rfl rfl (by decide) (by decide) rfl dX10_asNow_7 ?_
  refine gp_X10_127 C hW (by decide) rfl dX10_asNow_8 (fun H locs hW => ?_)
  exact g_vret C hr hlk hW dX10_asNow_11 (rfl) (rfl)
set_option maxHeartbeats 4000000 in
set_option maxRecDepth 100000 in
theorem m_placeIn (l : Launch) (G : gG) (σ : gSt) (τ : Nat → Int64) (a1 : Int32) (k : Nat) (hk : k < 5) : gI l yX10_placeIn cX10_placeIn 3 (some .int) 0 0 G [.ref (gAd G 96), .int (nI k), .int a1] σ τ (rPl (σ 104) k a1) σ τ := by
  refine gMet_of (by decide) (Nat.le_of_ble_eq_true rfl) ?_
  intro p e s m args below meth c C hr hlk ls hl hW
  have hx := C.1
  have hb := C.2.1
  have hl : lv_has ls 3 [(0, .ref (gAd G 96)), (1, .int (nI k)), (2, .int a1)] := hl
  refine lv_aload_n hx hb dX10_placeIn_0 rfl (lv_at hl 0 rfl) ?_
  refine gf_X10_31 C hW (by decide) rfl dX10_placeIn_1 ?_
  refine lv_iconst (v := 5) hx hb dX10_placeIn_4 (by decide) ?_
  refine lv_iload_n hx hb dX10_placeIn_5 rfl (lv_at hl 1 rfl) ?_
  refine lv_iadd hx hb dX10_placeIn_6 ?_
  refine g_ald (v := σ 104 (5 + k)) (5 + k) C hW (by decide) rfl (gadd (rfl : 5 = nI 5) (rfl : nI k = nI k)) (show (5 + k) < 25 by omega) (by decide) rfl dX10_placeIn_7 ?_
  refine lv_iload_n hx hb dX10_placeIn_8 rfl (lv_at hl 2 rfl) ?_
  refine lv_icmp_le (tgt := 17) hx hb dX10_placeIn_9 (by decide) (fun c_1 => ?_) (fun c_1 => ?_)
  · skip
    refine lv_aload_n hx hb dX10_placeIn_17 rfl (lv_at hl 0 rfl) ?_
    refine gf_X10_31 C hW (by decide) rfl dX10_placeIn_18 ?_
    refine lv_iconst (v := 0) hx hb dX10_placeIn_21 (by decide) ?_
    refine lv_iload_n hx hb dX10_placeIn_22 rfl (lv_at hl 1 rfl) ?_
    refine lv_iadd hx hb dX10_placeIn_23 ?_
    refine g_ald (v := σ 104 (0 + k)) (0 + k) C hW (by decide) rfl (gadd (rfl : 0 = nI 0) (rfl : nI k = nI k)) (show (0 + k) < 25 by omega) (by decide) rfl dX10_placeIn_24 ?_
    exact g_iret C hr hlk hW dX10_placeIn_25 (by simp [bI, rPl, c_1]) (rfl) (rfl)
  · skip
    refine lv_bipush (v := (-9)) hx hb dX10_placeIn_12 (by decide) ?_
    refine lv_goto (tgt := 25) hx hb dX10_placeIn_14 (by decide) ?_
    exact g_iret C hr hlk hW dX10_placeIn_25 (by simp [bI, rPl, c_1]) (rfl) (rfl)
set_option maxHeartbeats 4000000 in
set_option maxRecDepth 100000 in
theorem m_ringsIn (l : Launch) (G : gG) (σ : gSt) (τ : Nat → Int64) (a0 : Int32) (D : Nat) (hD : σ 98 2 = nI D) (hD8 : D ≤ 8) (N : Nat) (hN : σ 98 1 = nI N) (hN5 : N ≤ 5) : gI l yX10_ringsIn cX10_ringsIn 4 (some .int) 1 26 G [.ref (gAd G 96), .int a0] σ τ (mRings σ a0 D N) σ τ := by
  refine gMet_of (by decide) (Nat.le_of_ble_eq_true rfl) ?_
  intro p e s m args below meth c C hr hlk ls hl hW
  have hx := C.1
  have hb := C.2.1
  have hl : lv_has ls 4 [(0, .ref (gAd G 96)), (1, .int a0)] := hl
  refine lv_iconst (v := 0) hx hb dX10_ringsIn_0 (by decide) ?_
  refine lv_istore_n (lv' := [(2, .int 0), (0, .ref (gAd G 96)), (1, .int a0)]) hx hb dX10_ringsIn_1 rfl hl (by decide) rfl (fun ls hl => ?_)
  refine lv_iconst (v := 0) hx hb dX10_ringsIn_2 (by decide) ?_
  refine lv_istore_n (lv' := [(3, .int 0), (2, .int 0), (0, .ref (gAd G 96)), (1, .int a0)]) hx hb dX10_ringsIn_3 rfl hl (by decide) rfl (fun ls hl => ?_)
  have L4 : ∀ (n : Nat) (k : Nat) (v : Int32) (H : Heap) (locs : List Loc) (ls : Array Slot), n + k = N → v = mRings σ a0 D k → gW G s σ τ H locs → lv_has ls 4 [(3, .int (nI k)), (2, .int v), (0, .ref (gAd G 96)), (1, .int a0)] → W p l e (gRm 1 26) s m args below meth c H locs 0 0 (MQ below (gQi G (mRings σ a0 D N) σ τ) args s 0 0 (gA G)) (F0 m 4 ls []) := by
    intro n
    induction n with
    | zero =>
      intro k v H locs ls hm hv hW hl
      refine lv_iload_n hx hb dX10_ringsIn_4 rfl (lv_at hl 0 rfl) ?_
      refine lv_aload_n hx hb dX10_ringsIn_5 rfl (lv_at hl 2 rfl) ?_
      refine gf_X10_13 C hW (by decide) rfl dX10_ringsIn_6 ?_
      refine lv_iconst (v := 1) hx hb dX10_ringsIn_9 (by decide) ?_
      refine g_ald (v := nI N) 1 C hW (by decide) rfl rfl (by decide) (by decide) hN dX10_ringsIn_10 ?_
      refine lv_icmp_ge (tgt := 53) hx hb dX10_ringsIn_11 (by decide) (fun _ => ?_) (fun zz => absurd (show nI N ≤ nI k from nI_le (by omega) (by omega)) zz)
      refine lv_iload_n hx hb dX10_ringsIn_53 rfl (lv_at hl 1 rfl) ?_
      exact g_iret C hr hlk hW dX10_ringsIn_54 (by rw [hv, show k = N by omega]) (rfl) (rfl)
    | succ n ih =>
      intro k v H locs ls hm hv hW hl
      refine lv_iload_n hx hb dX10_ringsIn_4 rfl (lv_at hl 0 rfl) ?_
      refine lv_aload_n hx hb dX10_ringsIn_5 rfl (lv_at hl 2 rfl) ?_
      refine gf_X10_13 C hW (by decide) rfl dX10_ringsIn_6 ?_
      refine lv_iconst (v := 1) hx hb dX10_ringsIn_9 (by decide) ?_
      refine g_ald (v := nI N) 1 C hW (by decide) rfl rfl (by decide) (by decide) hN dX10_ringsIn_10 ?_
      refine lv_icmp_ge (tgt := 53) hx hb dX10_ringsIn_11 (by decide) (fun zz => absurd zz (show ¬ nI N ≤ nI k from nI_ge (by omega) (by omega))) (fun _ => ?_)
      refine lv_iload_n hx hb dX10_ringsIn_14 rfl (lv_at hl 1 rfl) ?_
      refine lv_aload_n hx hb dX10_ringsIn_15 rfl (lv_at hl 2 rfl) ?_
      refine lv_iload_n hx hb dX10_ringsIn_16 rfl (lv_at hl 0 rfl) ?_
      refine lv_iload_n hx hb dX10_ringsIn_17 rfl (lv_at hl 3 rfl) ?_
      refine lv_aload_n hx hb dX10_ringsIn_18 rfl (lv_at hl 2 rfl) ?_
      refine lv_iload_n hx hb dX10_ringsIn_19 rfl (lv_at hl 0 rfl) ?_
      refine lv_iload_n hx hb dX10_ringsIn_20 rfl (lv_at hl 3 rfl) ?_
      refine lv_aload_n hx hb dX10_ringsIn_21 rfl (lv_at hl 2 rfl) ?_
      refine gf_X10_31 C hW (by decide) rfl dX10_ringsIn_22 ?_
      refine lv_bipush (v := 15) hx hb dX10_ringsIn_25 (by decide) ?_
      refine g_ald (v := σ 104 15) 15 C hW (by decide) rfl rfl (by decide) (by decide) rfl dX10_ringsIn_27 ?_
      refine lv_isub hx hb dX10_ringsIn_28 ?_
      refine g_callvI (rest := [.int a0, .int (nI k), .ref (gAd G 96), .int v]) (As := [.int (nI k), .int (a0 - (σ 104 15))]) C hW kv_X10_130 96 (by decide) (gL_10 rfl) rfl (m_placeIn l G σ τ (a0 - (σ 104 15)) k (by omega)) ⟨Nat.le_of_ble_eq_true rfl, Nat.le_of_ble_eq_true rfl⟩ ⟨Nat.le_refl _, Nat.le_refl _⟩ rfl hl.1 rfl (Nat.le_of_ble_eq_true rfl) dX10_ringsIn_29 (fun H locs hW => ?_)
      refine g_callvI (rest := [.int v]) (As := [.int (nI k), .int a0, .int (rPl (σ 104) k (a0 - (σ 104 15)))]) C hW kv_X10_133 96 (by decide) (gL_10 rfl) rfl (m_isRung l G σ τ (nI k) a0 (rPl (σ 104) k (a0 - (σ 104 15))) D (hD) hD8) ⟨Nat.le_of_ble_eq_true rfl, Nat.le_of_ble_eq_true rfl⟩ ⟨Nat.le_refl _, Nat.le_refl _⟩ rfl hl.1 rfl (Nat.le_of_ble_eq_true rfl) dX10_ringsIn_32 (fun H locs hW => ?_)
      refine lv_if_eq (tgt := 44) hx hb dX10_ringsIn_35 (by decide) (fun c_1 => ?_) (fun c_1 => ?_)
      · skip
        replace c_1 : (mRung σ (nI k) a0 (rPl (σ 104) k (a0 - (σ 104 15))) D) = false := bI_eq0.mp c_1
        refine lv_iconst (v := 0) hx hb dX10_ringsIn_44 (by decide) ?_
        refine lv_ior hx hb dX10_ringsIn_45 ?_
        refine lv_istore_n (lv' := [(2, .int (v ||| 0)), (3, .int (nI k)), (0, .ref (gAd G 96)), (1, .int a0)]) hx hb dX10_ringsIn_46 rfl hl (by decide) rfl (fun ls hl => ?_)
        refine lv_iinc (v := nI (k + 1)) (lv' := [(3, .int (nI (k + 1))), (2, .int (v ||| 0)), (0, .ref (gAd G 96)), (1, .int a0)]) hx hb dX10_ringsIn_47 hl (k := 1) rfl (nI_1 _) (by decide) rfl (fun ls hl => ?_)
        refine lv_goto (tgt := 4) hx hb dX10_ringsIn_50 (by decide) ?_
        exact ih (k + 1) (v ||| 0) _ _ _ (by omega) (by rw [hv]; simp [rRings, c_1]) hW (lv_sub hl [0, 1, 2, 3] rfl)
      · skip
        replace c_1 : (mRung σ (nI k) a0 (rPl (σ 104) k (a0 - (σ 104 15))) D) = true := bI_ne0.mp c_1
        refine lv_iconst (v := 1) hx hb dX10_ringsIn_38 (by decide) ?_
        refine lv_iload_n hx hb dX10_ringsIn_39 rfl (lv_at hl 0 rfl) ?_
        refine lv_ishl hx hb dX10_ringsIn_40 ?_
        refine lv_goto (tgt := 45) hx hb dX10_ringsIn_41 (by decide) ?_
        refine lv_ior hx hb dX10_ringsIn_45 ?_
        refine lv_istore_n (lv' := [(2, .int (v ||| (1 <<< ((nI k) &&& 31)))), (3, .int (nI k)), (0, .ref (gAd G 96)), (1, .int a0)]) hx hb dX10_ringsIn_46 rfl hl (by decide) rfl (fun ls hl => ?_)
        refine lv_iinc (v := nI (k + 1)) (lv' := [(3, .int (nI (k + 1))), (2, .int (v ||| (1 <<< ((nI k) &&& 31)))), (0, .ref (gAd G 96)), (1, .int a0)]) hx hb dX10_ringsIn_47 hl (k := 1) rfl (nI_1 _) (by decide) rfl (fun ls hl => ?_)
        refine lv_goto (tgt := 4) hx hb dX10_ringsIn_50 (by decide) ?_
        exact ih (k + 1) (v ||| (1 <<< ((nI k) &&& 31))) _ _ _ (by omega) (by rw [hv]; simp [rRings, c_1]) hW (lv_sub hl [0, 1, 2, 3] rfl)
  exact L4 N 0 0 _ _ _ (by omega) (by first | rfl | simp [bI]) hW (lv_sub hl [0, 1, 2, 3] rfl)
set_option maxHeartbeats 4000000 in
set_option maxRecDepth 100000 in
theorem m_person (l : Launch) (G : gG) (σ : gSt) (τ : Nat → Int64) (a0 a1 : Int32) (D : Nat) (hD : σ 98 2 = nI D) (hD8 : D ≤ 8) (N : Nat) (hN : σ 98 1 = nI N) (hN5 : N ≤ 5) : gI l yX10_person cX10_person 3 (some .int) 2 43 G [.ref (gAd G 96), .int a0, .int a1] σ τ (if mIn a0 0 (σ 98 1 - 1) = true ∧ mIn a1 0 5 = true then (if 3 ≤ a1 then (if a1 = 3 then σ 104 (10 + a0.toNatClampNeg) else if a1 = 5 then σ 99 a0.toNatClampNeg else if ¬ 240 ≤ σ 104 15 ∧ mRung (mNowS σ) a0 (σ 104 15) (rPl (σ 104) a0.toNatClampNeg 0) D = true then 1 else 0) else if a1 = 0 then rPl (σ 104) a0.toNatClampNeg 0 else if a1 = 1 then σ 104 (0 + a0.toNatClampNeg) else σ 104 (5 + a0.toNatClampNeg)) else -1) (if mIn a0 0 (σ 98 1 - 1) = true ∧ mIn a1 0 5 = true then mNowS σ else σ) τ := by
  refine gMet_of (by decide) (Nat.le_of_ble_eq_true rfl) ?_
  intro p e s m args below meth c C hr hlk ls hl hW
  have hx := C.1
  have hb := C.2.1
  have hl : lv_has ls 3 [(0, .ref (gAd G 96)), (1, .int a0), (2, .int a1)] := hl
  refine lv_aload_n hx hb dX10_person_0 rfl (lv_at hl 0 rfl) ?_
  refine lv_iconst (v := 0) hx hb dX10_person_1 (by decide) ?_
  refine gp_X10_62 C hW (by decide) rfl dX10_person_2 (fun H locs hW => ?_)
  refine lv_aload_n hx hb dX10_person_5 rfl (lv_at hl 0 rfl) ?_
  refine lv_iload_n hx hb dX10_person_6 rfl (lv_at hl 1 rfl) ?_
  refine g_callvI (rest := []) (As := [.int a0]) C hW kv_X10_136 96 (by decide) (gL_10 rfl) rfl (m_isPerson l G σ τ a0) ⟨Nat.le_of_ble_eq_true rfl, Nat.le_of_ble_eq_true rfl⟩ ⟨Nat.le_refl _, Nat.le_refl _⟩ rfl hl.1 rfl (Nat.le_of_ble_eq_true rfl) dX10_person_7 (fun H locs hW => ?_)
  refine lv_if_eq (tgt := 22) hx hb dX10_person_10 (by decide) (fun c_1 => ?_) (fun c_1 => ?_)
  · skip
    replace c_1 : (mIn a0 0 (σ 98 1 - 1)) = false := bI_eq0.mp c_1
    refine lv_iconst (v := (-1)) hx hb dX10_person_22 (by decide) ?_
    exact g_iret C hr hlk hW dX10_person_23 (by simp [c_1]) (by simp [c_1]) (rfl)
  · skip
    replace c_1 : (mIn a0 0 (σ 98 1 - 1)) = true := bI_ne0.mp c_1
    refine lv_iload_n hx hb dX10_person_13 rfl (lv_at hl 2 rfl) ?_
    refine lv_iconst (v := 0) hx hb dX10_person_14 (by decide) ?_
    refine lv_iconst (v := 5) hx hb dX10_person_15 (by decide) ?_
    refine g_callsI (rest := []) (As := [.int a1, .int 0, .int 5]) C hW ks_X10_66 (m_in l G σ τ a1 0 5) ⟨Nat.le_of_ble_eq_true rfl, Nat.le_of_ble_eq_true rfl⟩ ⟨Nat.le_refl _, Nat.le_refl _⟩ rfl hl.1 rfl (Nat.le_of_ble_eq_true rfl) dX10_person_16 (fun H locs hW => ?_)
    refine lv_if_ne (tgt := 24) hx hb dX10_person_19 (by decide) (fun c_2 => ?_) (fun c_2 => ?_)
    · skip
      replace c_2 : (mIn a1 0 5) = true := bI_ne0.mp c_2
      have hp0 := c_1
      rw [hN] at hp0
      have hp := mIn_nat (N := N) hp0 (by omega)
      refine lv_aload_n hx hb dX10_person_24 rfl (lv_at hl 0 rfl) ?_
      refine g_callvV (rest := []) (As := []) C hW kv_X10_139 96 (by decide) (gL_10 rfl) rfl (m_asNow l G σ τ) ⟨Nat.le_of_ble_eq_true rfl, Nat.le_of_ble_eq_true rfl⟩ ⟨Nat.le_refl _, Nat.le_refl _⟩ rfl hl.1 rfl (Nat.le_of_ble_eq_true rfl) dX10_person_25 (fun H locs hW => ?_)
      refine lv_iload_n hx hb dX10_person_28 rfl (lv_at hl 2 rfl) ?_
      refine lv_iconst (v := 3) hx hb dX10_person_29 (by decide) ?_
      refine lv_icmp_ge (tgt := 71) hx hb dX10_person_30 (by decide) (fun c_3 => ?_) (fun c_3 => ?_)
      · skip
        refine lv_iload_n hx hb dX10_person_71 rfl (lv_at hl 2 rfl) ?_
        refine lv_iconst (v := 3) hx hb dX10_person_72 (by decide) ?_
        refine lv_icmp_ne (tgt := 88) hx hb dX10_person_73 (by decide) (fun c_4 => ?_) (fun c_4 => ?_)
        · skip
          refine lv_iload_n hx hb dX10_person_88 rfl (lv_at hl 2 rfl) ?_
          refine lv_iconst (v := 5) hx hb dX10_person_89 (by decide) ?_
          refine lv_icmp_ne (tgt := 102) hx hb dX10_person_90 (by decide) (fun c_5 => ?_) (fun c_5 => ?_)
          · skip
            refine lv_aload_n hx hb dX10_person_102 rfl (lv_at hl 0 rfl) ?_
            refine gf_X10_31 C hW (by decide) rfl dX10_person_103 ?_
            refine lv_bipush (v := 15) hx hb dX10_person_106 (by decide) ?_
            refine g_ald (v := σ 104 15) 15 C hW (by decide) rfl rfl (by decide) (by decide) rfl dX10_person_108 ?_
            refine lv_sipush (v := 240) hx hb dX10_person_109 (by decide) ?_
            refine lv_icmp_ge (tgt := 140) hx hb dX10_person_112 (by decide) (fun c_6 => ?_) (fun c_6 => ?_)
            · skip
              refine lv_iconst (v := 0) hx hb dX10_person_140 (by decide) ?_
              exact g_iret C hr hlk hW dX10_person_141 (by rw [if_pos ⟨c_1, c_2⟩]; simp [c_3, c_4, c_5, c_6]) (by rw [if_pos ⟨c_1, c_2⟩]) (rfl)
            · skip
              refine lv_aload_n hx hb dX10_person_115 rfl (lv_at hl 0 rfl) ?_
              refine lv_iload_n hx hb dX10_person_116 rfl (lv_at hl 1 rfl) ?_
              refine lv_aload_n hx hb dX10_person_117 rfl (lv_at hl 0 rfl) ?_
              refine gf_X10_31 C hW (by decide) rfl dX10_person_118 ?_
              refine lv_bipush (v := 15) hx hb dX10_person_121 (by decide) ?_
              refine g_ald (v := σ 104 15) 15 C hW (by decide) rfl rfl (by decide) (by decide) rfl dX10_person_123 ?_
              refine lv_aload_n hx hb dX10_person_124 rfl (lv_at hl 0 rfl) ?_
              refine lv_iload_n hx hb dX10_person_125 rfl (lv_at hl 1 rfl) ?_
              refine lv_iconst (v := 0) hx hb dX10_person_126 (by decide) ?_
              refine g_callvI (rest := [.int (σ 104 15), .int a0, .ref (gAd G 96)]) (As := [.int a0, .int 0]) C hW kv_X10_130 96 (by decide) (gL_10 rfl) rfl (hp.1 ▸ m_placeIn l G (gu σ 96 25 (σ 104 16)) τ 0 a0.toNatClampNeg (by omega)) ⟨Nat.le_of_ble_eq_true rfl, Nat.le_of_ble_eq_true rfl⟩ ⟨Nat.le_refl _, Nat.le_refl _⟩ rfl hl.1 rfl (Nat.le_of_ble_eq_true rfl) dX10_person_127 (fun H locs hW => ?_)
              refine g_callvI (rest := []) (As := [.int a0, .int (σ 104 15), .int (rPl ((gu σ 96 25 (σ 104 16)) 104) a0.toNatClampNeg 0)]) C hW kv_X10_133 96 (by decide) (gL_10 rfl) rfl (m_isRung l G (gu σ 96 25 (σ 104 16)) τ a0 (σ 104 15) (rPl ((gu σ 96 25 (σ 104 16)) 104) a0.toNatClampNeg 0) D (hD) hD8) ⟨Nat.le_of_ble_eq_true rfl, Nat.le_of_ble_eq_true rfl⟩ ⟨Nat.le_refl _, Nat.le_refl _⟩ rfl hl.1 rfl (Nat.le_of_ble_eq_true rfl) dX10_person_130 (fun H locs hW => ?_)
              refine lv_if_eq (tgt := 140) hx hb dX10_person_133 (by decide) (fun c_7 => ?_) (fun c_7 => ?_)
              · skip
                replace c_7 : (mRung (gu σ 96 25 (σ 104 16)) a0 (σ 104 15) (rPl ((gu σ 96 25 (σ 104 16)) 104) a0.toNatClampNeg 0) D) = false := bI_eq0.mp c_7
                refine lv_iconst (v := 0) hx hb dX10_person_140 (by decide) ?_
                exact g_iret C hr hlk hW dX10_person_141 (by rw [if_pos ⟨c_1, c_2⟩]; simp [c_3, c_4, c_5, c_6, c_7]) (by rw [if_pos ⟨c_1, c_2⟩]) (rfl)
              · skip
                replace c_7 : (mRung (gu σ 96 25 (σ 104 16)) a0 (σ 104 15) (rPl ((gu σ 96 25 (σ 104 16)) 104) a0.toNatClampNeg 0) D) = true := bI_ne0.mp c_7
                refine lv_iconst (v := 1) hx hb dX10_person_136 (by decide) ?_
                refine lv_goto (tgt := 141) hx hb dX10_person_137 (by decide) ?_
                exact g_iret C hr hlk hW dX10_person_141 (by rw [if_pos ⟨c_1, c_2⟩]; simp [c_3, c_4, c_5, c_6, c_7]) (by rw [if_pos ⟨c_1, c_2⟩]) (rfl)
          · skip
            refine lv_aload_n hx hb dX10_person_93 rfl (lv_at hl 0 rfl) ?_
            refine gf_X10_16 C hW (by decide) rfl dX10_person_94 ?_
            refine lv_iload_n hx hb dX10_person_97 rfl (lv_at hl 1 rfl) ?_
            refine g_ald (v := σ 99 a0.toNatClampNeg) a0.toNatClampNeg C hW (by decide) rfl hp.1 (show a0.toNatClampNeg < 10 by omega) (by decide) rfl dX10_person_98 ?_
            refine lv_goto (tgt := 141) hx hb dX10_person_99 (by decide) ?_
            exact g_iret C hr hlk hW dX10_person_141 (by rw [if_pos ⟨c_1, c_2⟩]; simp [c_3, c_4, c_5]) (by rw [if_pos ⟨c_1, c_2⟩]) (rfl)
        · skip
          refine lv_aload_n hx hb dX10_person_76 rfl (lv_at hl 0 rfl) ?_
          refine gf_X10_31 C hW (by decide) rfl dX10_person_77 ?_
          refine lv_bipush (v := 10) hx hb dX10_person_80 (by decide) ?_
          refine lv_iload_n hx hb dX10_person_82 rfl (lv_at hl 1 rfl) ?_
          refine lv_iadd hx hb dX10_person_83 ?_
          refine g_ald (v := σ 104 (10 + a0.toNatClampNeg)) (10 + a0.toNatClampNeg) C hW (by decide) rfl (gadd (rfl : 10 = nI 10) hp.1) (show (10 + a0.toNatClampNeg) < 25 by omega) (by decide) rfl dX10_person_84 ?_
          refine lv_goto (tgt := 141) hx hb dX10_person_85 (by decide) ?_
          exact g_iret C hr hlk hW dX10_person_141 (by rw [if_pos ⟨c_1, c_2⟩]; simp [c_3, c_4]) (by rw [if_pos ⟨c_1, c_2⟩]) (rfl)
      · skip
        refine lv_iload_n hx hb dX10_person_33 rfl (lv_at hl 2 rfl) ?_
        refine lv_if_ne (tgt := 46) hx hb dX10_person_34 (by decide) (fun c_8 => ?_) (fun c_8 => ?_)
        · skip
          refine lv_iload_n hx hb dX10_person_46 rfl (lv_at hl 2 rfl) ?_
          refine lv_iconst (v := 1) hx hb dX10_person_47 (by decide) ?_
          refine lv_icmp_ne (tgt := 62) hx hb dX10_person_48 (by decide) (fun c_9 => ?_) (fun c_9 => ?_)
          · skip
            refine lv_aload_n hx hb dX10_person_62 rfl (lv_at hl 0 rfl) ?_
            refine gf_X10_31 C hW (by decide) rfl dX10_person_63 ?_
            refine lv_iconst (v := 5) hx hb dX10_person_66 (by decide) ?_
            refine lv_iload_n hx hb dX10_person_67 rfl (lv_at hl 1 rfl) ?_
            refine lv_iadd hx hb dX10_person_68 ?_
            refine g_ald (v := σ 104 (5 + a0.toNatClampNeg)) (5 + a0.toNatClampNeg) C hW (by decide) rfl (gadd (rfl : 5 = nI 5) hp.1) (show (5 + a0.toNatClampNeg) < 25 by omega) (by decide) rfl dX10_person_69 ?_
            exact g_iret C hr hlk hW dX10_person_70 (by rw [if_pos ⟨c_1, c_2⟩]; simp [c_3, c_8, c_9]) (by rw [if_pos ⟨c_1, c_2⟩]) (rfl)
          · skip
            refine lv_aload_n hx hb dX10_person_51 rfl (lv_at hl 0 rfl) ?_
            refine gf_X10_31 C hW (by decide) rfl dX10_person_52 ?_
            refine lv_iconst (v := 0) hx hb dX10_person_55 (by decide) ?_
            refine lv_iload_n hx hb dX10_person_56 rfl (lv_at hl 1 rfl) ?_
            refine lv_iadd hx hb dX10_person_57 ?_
            refine g_ald (v := σ 104 (0 + a0.toNatClampNeg)) (0 + a0.toNatClampNeg) C hW (by decide) rfl (gadd (rfl : 0 = nI 0) hp.1) (show (0 + a0.toNatClampNeg) < 25 by omega) (by decide) rfl dX10_person_58 ?_
            refine lv_goto (tgt := 70) hx hb dX10_person_59 (by decide) ?_
            exact g_iret C hr hlk hW dX10_person_70 (by rw [if_pos ⟨c_1, c_2⟩]; simp [c_3, c_8, c_9]) (by rw [if_pos ⟨c_1, c_2⟩]) (rfl)
        · skip
          refine lv_aload_n hx hb dX10_person_37 rfl (lv_at hl 0 rfl) ?_
          refine lv_iload_n hx hb dX10_person_38 rfl (lv_at hl 1 rfl) ?_
          refine lv_iconst (v := 0) hx hb dX10_person_39 (by decide) ?_
          refine g_callvI (rest := []) (As := [.int a0, .int 0]) C hW kv_X10_130 96 (by decide) (gL_10 rfl) rfl (hp.1 ▸ m_placeIn l G (gu σ 96 25 (σ 104 16)) τ 0 a0.toNatClampNeg (by omega)) ⟨Nat.le_of_ble_eq_true rfl, Nat.le_of_ble_eq_true rfl⟩ ⟨Nat.le_refl _, Nat.le_refl _⟩ rfl hl.1 rfl (Nat.le_of_ble_eq_true rfl) dX10_person_40 (fun H locs hW => ?_)
          refine lv_goto (tgt := 70) hx hb dX10_person_43 (by decide) ?_
          exact g_iret C hr hlk hW dX10_person_70 (by rw [if_pos ⟨c_1, c_2⟩]; simp [c_3, c_8]) (by rw [if_pos ⟨c_1, c_2⟩]) (rfl)
    · skip
      replace c_2 : (mIn a1 0 5) = false := bI_eq0.mp c_2
      refine lv_iconst (v := (-1)) hx hb dX10_person_22 (by decide) ?_
      exact g_iret C hr hlk hW dX10_person_23 (by simp [c_1, c_2]) (by simp [c_1, c_2]) (rfl)
set_option maxHeartbeats 4000000 in
set_option maxRecDepth 100000 in
theorem m_duty (l : Launch) (G : gG) (σ : gSt) (τ : Nat → Int64) (a0 a1 : Int32) (D : Nat) (hD : σ 98 2 = nI D) (hD8 : D ≤ 8) : gI l yX10_duty cX10_duty 3 (some .int) 2 43 G [.ref (gAd G 96), .int a0, .int a1] σ τ (if mIn a0 0 (σ 98 2 - 1) = true ∧ mIn a1 0 4 = true then (if a1 = 0 then σ 104 (17 + a0.toNatClampNeg) else if a1 = 1 then σ 101 a0.toNatClampNeg else if a1 = 2 then σ 102 a0.toNatClampNeg else if a1 = 3 then σ 103 a0.toNatClampNeg else (σ 104 16 >>> (a0 &&& 31)) &&& 1) else -1) σ τ := by
  refine gMet_of (by decide) (Nat.le_of_ble_eq_true rfl) ?_
  intro p e s m args below meth c C hr hlk ls hl hW
  have hx := C.1
  have hb := C.2.1
  have hl : lv_has ls 3 [(0, .ref (gAd G 96)), (1, .int a0), (2, .int a1)] := hl
  refine lv_aload_n hx hb dX10_duty_0 rfl (lv_at hl 0 rfl) ?_
  refine lv_iconst (v := 0) hx hb dX10_duty_1 (by decide) ?_
  refine gp_X10_62 C hW (by decide) rfl dX10_duty_2 (fun H locs hW => ?_)
  refine lv_aload_n hx hb dX10_duty_5 rfl (lv_at hl 0 rfl) ?_
  refine lv_iload_n hx hb dX10_duty_6 rfl (lv_at hl 1 rfl) ?_
  refine g_callvI (rest := []) (As := [.int a0]) C hW kv_X10_142 96 (by decide) (gL_10 rfl) rfl (m_isDuty l G σ τ a0) ⟨Nat.le_of_ble_eq_true rfl, Nat.le_of_ble_eq_true rfl⟩ ⟨Nat.le_refl _, Nat.le_refl _⟩ rfl hl.1 rfl (Nat.le_of_ble_eq_true rfl) dX10_duty_7 (fun H locs hW => ?_)
  refine lv_if_eq (tgt := 22) hx hb dX10_duty_10 (by decide) (fun c_1 => ?_) (fun c_1 => ?_)
  · skip
    replace c_1 : (mIn a0 0 (σ 98 2 - 1)) = false := bI_eq0.mp c_1
    refine lv_iconst (v := (-1)) hx hb dX10_duty_22 (by decide) ?_
    exact g_iret C hr hlk hW dX10_duty_23 (by simp [c_1]) (rfl) (rfl)
  · skip
    replace c_1 : (mIn a0 0 (σ 98 2 - 1)) = true := bI_ne0.mp c_1
    refine lv_iload_n hx hb dX10_duty_13 rfl (lv_at hl 2 rfl) ?_
    refine lv_iconst (v := 0) hx hb dX10_duty_14 (by decide) ?_
    refine lv_iconst (v := 4) hx hb dX10_duty_15 (by decide) ?_
    refine g_callsI (rest := []) (As := [.int a1, .int 0, .int 4]) C hW ks_X10_66 (m_in l G σ τ a1 0 4) ⟨Nat.le_of_ble_eq_true rfl, Nat.le_of_ble_eq_true rfl⟩ ⟨Nat.le_refl _, Nat.le_refl _⟩ rfl hl.1 rfl (Nat.le_of_ble_eq_true rfl) dX10_duty_16 (fun H locs hW => ?_)
    refine lv_if_ne (tgt := 24) hx hb dX10_duty_19 (by decide) (fun c_2 => ?_) (fun c_2 => ?_)
    · skip
      replace c_2 : (mIn a1 0 4) = true := bI_ne0.mp c_2
      have hp0 := c_1
      rw [hD] at hp0
      have hp := mIn_nat (N := D) hp0 (by omega)
      refine lv_iload_n hx hb dX10_duty_24 rfl (lv_at hl 2 rfl) ?_
      refine lv_if_ne (tgt := 40) hx hb dX10_duty_25 (by decide) (fun c_3 => ?_) (fun c_3 => ?_)
      · skip
        refine lv_iload_n hx hb dX10_duty_40 rfl (lv_at hl 2 rfl) ?_
        refine lv_iconst (v := 1) hx hb dX10_duty_41 (by decide) ?_
        refine lv_icmp_ne (tgt := 54) hx hb dX10_duty_42 (by decide) (fun c_4 => ?_) (fun c_4 => ?_)
        · skip
          refine lv_iload_n hx hb dX10_duty_54 rfl (lv_at hl 2 rfl) ?_
          refine lv_iconst (v := 2) hx hb dX10_duty_55 (by decide) ?_
          refine lv_icmp_ne (tgt := 68) hx hb dX10_duty_56 (by decide) (fun c_5 => ?_) (fun c_5 => ?_)
          · skip
            refine lv_iload_n hx hb dX10_duty_68 rfl (lv_at hl 2 rfl) ?_
            refine lv_iconst (v := 3) hx hb dX10_duty_69 (by decide) ?_
            refine lv_icmp_ne (tgt := 82) hx hb dX10_duty_70 (by decide) (fun c_6 => ?_) (fun c_6 => ?_)
            · skip
              refine lv_aload_n hx hb dX10_duty_82 rfl (lv_at hl 0 rfl) ?_
              refine gf_X10_31 C hW (by decide) rfl dX10_duty_83 ?_
              refine lv_bipush (v := 16) hx hb dX10_duty_86 (by decide) ?_
              refine g_ald (v := σ 104 16) 16 C hW (by decide) rfl rfl (by decide) (by decide) rfl dX10_duty_88 ?_
              refine lv_iload_n hx hb dX10_duty_89 rfl (lv_at hl 1 rfl) ?_
              refine lv_ishr hx hb dX10_duty_90 ?_
              refine lv_iconst (v := 1) hx hb dX10_duty_91 (by decide) ?_
              refine lv_iand hx hb dX10_duty_92 ?_
              exact g_iret C hr hlk hW dX10_duty_93 (by rw [if_pos ⟨c_1, c_2⟩]; simp [c_3, c_4, c_5, c_6]) (rfl) (rfl)
            · skip
              refine lv_aload_n hx hb dX10_duty_73 rfl (lv_at hl 0 rfl) ?_
              refine gf_X10_28 C hW (by decide) rfl dX10_duty_74 ?_
              refine lv_iload_n hx hb dX10_duty_77 rfl (lv_at hl 1 rfl) ?_
              refine g_ald (v := σ 103 a0.toNatClampNeg) a0.toNatClampNeg C hW (by decide) rfl hp.1 (show a0.toNatClampNeg < 16 by omega) (by decide) rfl dX10_duty_78 ?_
              refine lv_goto (tgt := 93) hx hb dX10_duty_79 (by decide) ?_
              exact g_iret C hr hlk hW dX10_duty_93 (by rw [if_pos ⟨c_1, c_2⟩]; simp [c_3, c_4, c_5, c_6]) (rfl) (rfl)
          · skip
            refine lv_aload_n hx hb dX10_duty_59 rfl (lv_at hl 0 rfl) ?_
            refine gf_X10_25 C hW (by decide) rfl dX10_duty_60 ?_
            refine lv_iload_n hx hb dX10_duty_63 rfl (lv_at hl 1 rfl) ?_
            refine g_ald (v := σ 102 a0.toNatClampNeg) a0.toNatClampNeg C hW (by decide) rfl hp.1 (show a0.toNatClampNeg < 16 by omega) (by decide) rfl dX10_duty_64 ?_
            refine lv_goto (tgt := 93) hx hb dX10_duty_65 (by decide) ?_
            exact g_iret C hr hlk hW dX10_duty_93 (by rw [if_pos ⟨c_1, c_2⟩]; simp [c_3, c_4, c_5]) (rfl) (rfl)
        · skip
          refine lv_aload_n hx hb dX10_duty_45 rfl (lv_at hl 0 rfl) ?_
          refine gf_X10_22 C hW (by decide) rfl dX10_duty_46 ?_
          refine lv_iload_n hx hb dX10_duty_49 rfl (lv_at hl 1 rfl) ?_
          refine g_ald (v := σ 101 a0.toNatClampNeg) a0.toNatClampNeg C hW (by decide) rfl hp.1 (show a0.toNatClampNeg < 16 by omega) (by decide) rfl dX10_duty_50 ?_
          refine lv_goto (tgt := 93) hx hb dX10_duty_51 (by decide) ?_
          exact g_iret C hr hlk hW dX10_duty_93 (by rw [if_pos ⟨c_1, c_2⟩]; simp [c_3, c_4]) (rfl) (rfl)
      · skip
        refine lv_aload_n hx hb dX10_duty_28 rfl (lv_at hl 0 rfl) ?_
        refine gf_X10_31 C hW (by decide) rfl dX10_duty_29 ?_
        refine lv_bipush (v := 17) hx hb dX10_duty_32 (by decide) ?_
        refine lv_iload_n hx hb dX10_duty_34 rfl (lv_at hl 1 rfl) ?_
        refine lv_iadd hx hb dX10_duty_35 ?_
        refine g_ald (v := σ 104 (17 + a0.toNatClampNeg)) (17 + a0.toNatClampNeg) C hW (by decide) rfl (gadd (rfl : 17 = nI 17) hp.1) (show (17 + a0.toNatClampNeg) < 25 by omega) (by decide) rfl dX10_duty_36 ?_
        refine lv_goto (tgt := 93) hx hb dX10_duty_37 (by decide) ?_
        exact g_iret C hr hlk hW dX10_duty_93 (by rw [if_pos ⟨c_1, c_2⟩]; simp [c_3]) (rfl) (rfl)
    · skip
      replace c_2 : (mIn a1 0 4) = false := bI_eq0.mp c_2
      refine lv_iconst (v := (-1)) hx hb dX10_duty_22 (by decide) ?_
      exact g_iret C hr hlk hW dX10_duty_23 (by simp [c_1, c_2]) (rfl) (rfl)
end
