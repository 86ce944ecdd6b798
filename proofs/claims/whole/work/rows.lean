section
-- ===== PART A: goes FIRST, ahead of the names: the tables' words, and 'selects' of the private methods out of them =====
/-- a private method of a class that the tables say can be made, by its rows of tables_1 -/
def lw_okq (q : MethodName × Nat) : Prop := (q.1.cls ≠ "java/lang/invoke/MethodHandle" ∧ q.1.cls ≠ "java/lang/invoke/VarHandle") ∧ Cond.instantiable q.1.cls q.2 ∈ tables_1 ∧ Cond.privateMethod q.1 ∈ tables_1 ∧ Cond.instanceMethod q.1 ∈ tables_1
theorem lw_p0 : lw_okq (⟨"ColdOaths", "failed", "(I)I"⟩, 7) := ⟨⟨by decide +kernel, by decide +kernel⟩, List.mem_of_getElem? (i := 11) (by decide +kernel), List.mem_of_getElem? (i := 177) (by decide +kernel), List.mem_of_getElem? (i := 178) (by decide +kernel)⟩
theorem lw_p1 : lw_okq (⟨"ColdOaths$Reader", "passes", "(I)Z"⟩, 4) := ⟨⟨by decide +kernel, by decide +kernel⟩, List.mem_of_getElem? (i := 96) (by decide +kernel), List.mem_of_getElem? (i := 197) (by decide +kernel), List.mem_of_getElem? (i := 198) (by decide +kernel)⟩
theorem lw_p2 : lw_okq (⟨"ColdOaths$Reader", "isAtEnd", "()Z"⟩, 4) := ⟨⟨by decide +kernel, by decide +kernel⟩, List.mem_of_getElem? (i := 96) (by decide +kernel), List.mem_of_getElem? (i := 201) (by decide +kernel), List.mem_of_getElem? (i := 202) (by decide +kernel)⟩
theorem lw_p3 : lw_okq (⟨"ColdOaths$Reader", "readsHours", "(LColdOaths$Day;)Z"⟩, 4) := ⟨⟨by decide +kernel, by decide +kernel⟩, List.mem_of_getElem? (i := 96) (by decide +kernel), List.mem_of_getElem? (i := 213) (by decide +kernel), List.mem_of_getElem? (i := 214) (by decide +kernel)⟩
theorem lw_p4 : lw_okq (⟨"ColdOaths$Reader", "digitBelow", "(II)I"⟩, 4) := ⟨⟨by decide +kernel, by decide +kernel⟩, List.mem_of_getElem? (i := 96) (by decide +kernel), List.mem_of_getElem? (i := 217) (by decide +kernel), List.mem_of_getElem? (i := 218) (by decide +kernel)⟩
theorem lw_p5 : lw_okq (⟨"ColdOaths$Reader", "readsSwearers", "(LColdOaths$Day;)Z"⟩, 4) := ⟨⟨by decide +kernel, by decide +kernel⟩, List.mem_of_getElem? (i := 96) (by decide +kernel), List.mem_of_getElem? (i := 225) (by decide +kernel), List.mem_of_getElem? (i := 226) (by decide +kernel)⟩
theorem lw_p6 : lw_okq (⟨"ColdOaths$Reader", "kindLetter", "()I"⟩, 4) := ⟨⟨by decide +kernel, by decide +kernel⟩, List.mem_of_getElem? (i := 96) (by decide +kernel), List.mem_of_getElem? (i := 229) (by decide +kernel), List.mem_of_getElem? (i := 230) (by decide +kernel)⟩
theorem lw_p7 : lw_okq (⟨"ColdOaths$Reader", "readsOaths", "(LColdOaths$Day;)Z"⟩, 4) := ⟨⟨by decide +kernel, by decide +kernel⟩, List.mem_of_getElem? (i := 96) (by decide +kernel), List.mem_of_getElem? (i := 237) (by decide +kernel), List.mem_of_getElem? (i := 238) (by decide +kernel)⟩
theorem lw_p8 : lw_okq (⟨"ColdOaths", "hasDay", "()Z"⟩, 7) := ⟨⟨by decide +kernel, by decide +kernel⟩, List.mem_of_getElem? (i := 11) (by decide +kernel), List.mem_of_getElem? (i := 344) (by decide +kernel), List.mem_of_getElem? (i := 345) (by decide +kernel)⟩
theorem lw_p9 : lw_okq (⟨"ColdOaths", "playCase", "(LColdOaths$Sheet;II)I"⟩, 7) := ⟨⟨by decide +kernel, by decide +kernel⟩, List.mem_of_getElem? (i := 11) (by decide +kernel), List.mem_of_getElem? (i := 369) (by decide +kernel), List.mem_of_getElem? (i := 370) (by decide +kernel)⟩
theorem lw_p10 : lw_okq (⟨"ColdOaths$Day", "takesStove", "(II)Z"⟩, 11) := ⟨⟨by decide +kernel, by decide +kernel⟩, List.mem_of_getElem? (i := 43) (by decide +kernel), List.mem_of_getElem? (i := 377) (by decide +kernel), List.mem_of_getElem? (i := 378) (by decide +kernel)⟩
theorem lw_p11 : lw_okq (⟨"ColdOaths$Day", "takesFrost", "(II)Z"⟩, 11) := ⟨⟨by decide +kernel, by decide +kernel⟩, List.mem_of_getElem? (i := 43) (by decide +kernel), List.mem_of_getElem? (i := 383) (by decide +kernel), List.mem_of_getElem? (i := 384) (by decide +kernel)⟩
theorem lw_p12 : lw_okq (⟨"ColdOaths$Day", "takesCoat", "(II)Z"⟩, 11) := ⟨⟨by decide +kernel, by decide +kernel⟩, List.mem_of_getElem? (i := 43) (by decide +kernel), List.mem_of_getElem? (i := 387) (by decide +kernel), List.mem_of_getElem? (i := 388) (by decide +kernel)⟩
theorem lw_p13 : lw_okq (⟨"ColdOaths", "ofCase", "(I)I"⟩, 7) := ⟨⟨by decide +kernel, by decide +kernel⟩, List.mem_of_getElem? (i := 11) (by decide +kernel), List.mem_of_getElem? (i := 392) (by decide +kernel), List.mem_of_getElem? (i := 393) (by decide +kernel)⟩
theorem lw_p14 : lw_okq (⟨"ColdOaths$Day", "hasRing", "(I)Z"⟩, 11) := ⟨⟨by decide +kernel, by decide +kernel⟩, List.mem_of_getElem? (i := 43) (by decide +kernel), List.mem_of_getElem? (i := 407) (by decide +kernel), List.mem_of_getElem? (i := 408) (by decide +kernel)⟩
theorem lw_p15 : lw_okq (⟨"ColdOaths$Day", "swearingWithin", "(II)I"⟩, 11) := ⟨⟨by decide +kernel, by decide +kernel⟩, List.mem_of_getElem? (i := 43) (by decide +kernel), List.mem_of_getElem? (i := 411) (by decide +kernel), List.mem_of_getElem? (i := 412) (by decide +kernel)⟩
def lw_privs_1 : List (MethodName × Nat) := [(⟨"ColdOaths", "failed", "(I)I"⟩, 7), (⟨"ColdOaths$Reader", "passes", "(I)Z"⟩, 4), (⟨"ColdOaths$Reader", "isAtEnd", "()Z"⟩, 4), (⟨"ColdOaths$Reader", "readsHours", "(LColdOaths$Day;)Z"⟩, 4), (⟨"ColdOaths$Reader", "digitBelow", "(II)I"⟩, 4), (⟨"ColdOaths$Reader", "readsSwearers", "(LColdOaths$Day;)Z"⟩, 4), (⟨"ColdOaths$Reader", "kindLetter", "()I"⟩, 4), (⟨"ColdOaths$Reader", "readsOaths", "(LColdOaths$Day;)Z"⟩, 4), (⟨"ColdOaths", "hasDay", "()Z"⟩, 7), (⟨"ColdOaths", "playCase", "(LColdOaths$Sheet;II)I"⟩, 7), (⟨"ColdOaths$Day", "takesStove", "(II)Z"⟩, 11), (⟨"ColdOaths$Day", "takesFrost", "(II)Z"⟩, 11), (⟨"ColdOaths$Day", "takesCoat", "(II)Z"⟩, 11), (⟨"ColdOaths", "ofCase", "(I)I"⟩, 7), (⟨"ColdOaths$Day", "hasRing", "(I)Z"⟩, 11), (⟨"ColdOaths$Day", "swearingWithin", "(II)I"⟩, 11)]
theorem lw_r1 : ∀ q ∈ lw_privs_1, lw_okq q := List.forall_mem_cons.mpr ⟨lw_p0, List.forall_mem_cons.mpr ⟨lw_p1, List.forall_mem_cons.mpr ⟨lw_p2, List.forall_mem_cons.mpr ⟨lw_p3, List.forall_mem_cons.mpr ⟨lw_p4, List.forall_mem_cons.mpr ⟨lw_p5, List.forall_mem_cons.mpr ⟨lw_p6, List.forall_mem_cons.mpr ⟨lw_p7, List.forall_mem_cons.mpr ⟨lw_p8, List.forall_mem_cons.mpr ⟨lw_p9, List.forall_mem_cons.mpr ⟨lw_p10, List.forall_mem_cons.mpr ⟨lw_p11, List.forall_mem_cons.mpr ⟨lw_p12, List.forall_mem_cons.mpr ⟨lw_p13, List.forall_mem_cons.mpr ⟨lw_p14, List.forall_mem_cons.mpr ⟨lw_p15, fun _ h => absurd h List.not_mem_nil⟩⟩⟩⟩⟩⟩⟩⟩⟩⟩⟩⟩⟩⟩⟩⟩
theorem lw_p16 : lw_okq (⟨"ColdOaths$Day", "swornToBy", "(II)I"⟩, 11) := ⟨⟨by decide +kernel, by decide +kernel⟩, List.mem_of_getElem? (i := 43) (by decide +kernel), List.mem_of_getElem? (i := 426) (by decide +kernel), List.mem_of_getElem? (i := 427) (by decide +kernel)⟩
theorem lw_p17 : lw_okq (⟨"ColdOaths", "refusalOfSwearers", "(I)I"⟩, 7) := ⟨⟨by decide +kernel, by decide +kernel⟩, List.mem_of_getElem? (i := 11) (by decide +kernel), List.mem_of_getElem? (i := 434) (by decide +kernel), List.mem_of_getElem? (i := 435) (by decide +kernel)⟩
theorem lw_p18 : lw_okq (⟨"ColdOaths", "stovesThatSpare", "(II)I"⟩, 7) := ⟨⟨by decide +kernel, by decide +kernel⟩, List.mem_of_getElem? (i := 11) (by decide +kernel), List.mem_of_getElem? (i := 455) (by decide +kernel), List.mem_of_getElem? (i := 456) (by decide +kernel)⟩
theorem lw_p19 : lw_okq (⟨"ColdOaths$Sheet", "cutToLane", "(I)I"⟩, 4) := ⟨⟨by decide +kernel, by decide +kernel⟩, List.mem_of_getElem? (i := 20) (by decide +kernel), List.mem_of_getElem? (i := 520) (by decide +kernel), List.mem_of_getElem? (i := 521) (by decide +kernel)⟩
theorem lw_p20 : lw_okq (⟨"ColdOaths", "doubleBody", "(I)I"⟩, 7) := ⟨⟨by decide +kernel, by decide +kernel⟩, List.mem_of_getElem? (i := 11) (by decide +kernel), List.mem_of_getElem? (i := 537) (by decide +kernel), List.mem_of_getElem? (i := 538) (by decide +kernel)⟩
theorem lw_p21 : lw_okq (⟨"ColdOaths", "leaveInTrace", "(I)V"⟩, 7) := ⟨⟨by decide +kernel, by decide +kernel⟩, List.mem_of_getElem? (i := 11) (by decide +kernel), List.mem_of_getElem? (i := 541) (by decide +kernel), List.mem_of_getElem? (i := 542) (by decide +kernel)⟩
theorem lw_p22 : lw_okq (⟨"ColdOaths", "beardedBody", "(I)I"⟩, 7) := ⟨⟨by decide +kernel, by decide +kernel⟩, List.mem_of_getElem? (i := 11) (by decide +kernel), List.mem_of_getElem? (i := 545) (by decide +kernel), List.mem_of_getElem? (i := 546) (by decide +kernel)⟩
theorem lw_p23 : lw_okq (⟨"ColdOaths", "plainBody", "(I)I"⟩, 7) := ⟨⟨by decide +kernel, by decide +kernel⟩, List.mem_of_getElem? (i := 11) (by decide +kernel), List.mem_of_getElem? (i := 549) (by decide +kernel), List.mem_of_getElem? (i := 550) (by decide +kernel)⟩
theorem lw_p24 : lw_okq (⟨"ColdOaths", "doublePinch", "()I"⟩, 7) := ⟨⟨by decide +kernel, by decide +kernel⟩, List.mem_of_getElem? (i := 11) (by decide +kernel), List.mem_of_getElem? (i := 557) (by decide +kernel), List.mem_of_getElem? (i := 558) (by decide +kernel)⟩
theorem lw_p25 : lw_okq (⟨"ColdOaths", "lentPinch", "(I)I"⟩, 7) := ⟨⟨by decide +kernel, by decide +kernel⟩, List.mem_of_getElem? (i := 11) (by decide +kernel), List.mem_of_getElem? (i := 561) (by decide +kernel), List.mem_of_getElem? (i := 562) (by decide +kernel)⟩
theorem lw_p26 : lw_okq (⟨"ColdOathsModel", "against", "(IIII)I"⟩, 28) := ⟨⟨by decide +kernel, by decide +kernel⟩, List.mem_of_getElem? (i := 581) (by decide +kernel), List.mem_of_getElem? (i := 685) (by decide +kernel), List.mem_of_getElem? (i := 686) (by decide +kernel)⟩
theorem lw_p27 : lw_okq (⟨"ColdOathsModel", "fails", "(I)I"⟩, 28) := ⟨⟨by decide +kernel, by decide +kernel⟩, List.mem_of_getElem? (i := 581) (by decide +kernel), List.mem_of_getElem? (i := 689) (by decide +kernel), List.mem_of_getElem? (i := 690) (by decide +kernel)⟩
theorem lw_p28 : lw_okq (⟨"ColdOathsModel", "readDay", "(I)Z"⟩, 28) := ⟨⟨by decide +kernel, by decide +kernel⟩, List.mem_of_getElem? (i := 581) (by decide +kernel), List.mem_of_getElem? (i := 693) (by decide +kernel), List.mem_of_getElem? (i := 694) (by decide +kernel)⟩
theorem lw_p29 : lw_okq (⟨"ColdOathsModel", "isSign", "(II)Z"⟩, 28) := ⟨⟨by decide +kernel, by decide +kernel⟩, List.mem_of_getElem? (i := 581) (by decide +kernel), List.mem_of_getElem? (i := 697) (by decide +kernel), List.mem_of_getElem? (i := 698) (by decide +kernel)⟩
theorem lw_p30 : lw_okq (⟨"ColdOathsModel", "digit", "(II)I"⟩, 28) := ⟨⟨by decide +kernel, by decide +kernel⟩, List.mem_of_getElem? (i := 581) (by decide +kernel), List.mem_of_getElem? (i := 701) (by decide +kernel), List.mem_of_getElem? (i := 702) (by decide +kernel)⟩
theorem lw_p31 : lw_okq (⟨"ColdOathsModel", "readSwearerNext", "(I)Z"⟩, 28) := ⟨⟨by decide +kernel, by decide +kernel⟩, List.mem_of_getElem? (i := 581) (by decide +kernel), List.mem_of_getElem? (i := 705) (by decide +kernel), List.mem_of_getElem? (i := 706) (by decide +kernel)⟩
def lw_privs_2 : List (MethodName × Nat) := [(⟨"ColdOaths$Day", "swornToBy", "(II)I"⟩, 11), (⟨"ColdOaths", "refusalOfSwearers", "(I)I"⟩, 7), (⟨"ColdOaths", "stovesThatSpare", "(II)I"⟩, 7), (⟨"ColdOaths$Sheet", "cutToLane", "(I)I"⟩, 4), (⟨"ColdOaths", "doubleBody", "(I)I"⟩, 7), (⟨"ColdOaths", "leaveInTrace", "(I)V"⟩, 7), (⟨"ColdOaths", "beardedBody", "(I)I"⟩, 7), (⟨"ColdOaths", "plainBody", "(I)I"⟩, 7), (⟨"ColdOaths", "doublePinch", "()I"⟩, 7), (⟨"ColdOaths", "lentPinch", "(I)I"⟩, 7), (⟨"ColdOathsModel", "against", "(IIII)I"⟩, 28), (⟨"ColdOathsModel", "fails", "(I)I"⟩, 28), (⟨"ColdOathsModel", "readDay", "(I)Z"⟩, 28), (⟨"ColdOathsModel", "isSign", "(II)Z"⟩, 28), (⟨"ColdOathsModel", "digit", "(II)I"⟩, 28), (⟨"ColdOathsModel", "readSwearerNext", "(I)Z"⟩, 28)]
theorem lw_r2 : ∀ q ∈ lw_privs_2, lw_okq q := List.forall_mem_cons.mpr ⟨lw_p16, List.forall_mem_cons.mpr ⟨lw_p17, List.forall_mem_cons.mpr ⟨lw_p18, List.forall_mem_cons.mpr ⟨lw_p19, List.forall_mem_cons.mpr ⟨lw_p20, List.forall_mem_cons.mpr ⟨lw_p21, List.forall_mem_cons.mpr ⟨lw_p22, List.forall_mem_cons.mpr ⟨lw_p23, List.forall_mem_cons.mpr ⟨lw_p24, List.forall_mem_cons.mpr ⟨lw_p25, List.forall_mem_cons.mpr ⟨lw_p26, List.forall_mem_cons.mpr ⟨lw_p27, List.forall_mem_cons.mpr ⟨lw_p28, List.forall_mem_cons.mpr ⟨lw_p29, List.forall_mem_cons.mpr ⟨lw_p30, List.forall_mem_cons.mpr ⟨lw_p31, fun _ h => absurd h List.not_mem_nil⟩⟩⟩⟩⟩⟩⟩⟩⟩⟩⟩⟩⟩⟩⟩⟩
theorem lw_p32 : lw_okq (⟨"ColdOathsModel", "readOathNext", "(I)Z"⟩, 28) := ⟨⟨by decide +kernel, by decide +kernel⟩, List.mem_of_getElem? (i := 581) (by decide +kernel), List.mem_of_getElem? (i := 709) (by decide +kernel), List.mem_of_getElem? (i := 710) (by decide +kernel)⟩
theorem lw_p33 : lw_okq (⟨"ColdOathsModel", "takeDay", "()V"⟩, 28) := ⟨⟨by decide +kernel, by decide +kernel⟩, List.mem_of_getElem? (i := 581) (by decide +kernel), List.mem_of_getElem? (i := 713) (by decide +kernel), List.mem_of_getElem? (i := 714) (by decide +kernel)⟩
theorem lw_p34 : lw_okq (⟨"ColdOathsModel", "isSwearer", "(I)Z"⟩, 28) := ⟨⟨by decide +kernel, by decide +kernel⟩, List.mem_of_getElem? (i := 581) (by decide +kernel), List.mem_of_getElem? (i := 721) (by decide +kernel), List.mem_of_getElem? (i := 722) (by decide +kernel)⟩
theorem lw_p35 : lw_okq (⟨"ColdOathsModel", "warmthOf", "(I)I"⟩, 28) := ⟨⟨by decide +kernel, by decide +kernel⟩, List.mem_of_getElem? (i := 581) (by decide +kernel), List.mem_of_getElem? (i := 725) (by decide +kernel), List.mem_of_getElem? (i := 726) (by decide +kernel)⟩
theorem lw_p36 : lw_okq (⟨"ColdOathsModel", "coldHours", "(I)I"⟩, 28) := ⟨⟨by decide +kernel, by decide +kernel⟩, List.mem_of_getElem? (i := 581) (by decide +kernel), List.mem_of_getElem? (i := 729) (by decide +kernel), List.mem_of_getElem? (i := 730) (by decide +kernel)⟩
theorem lw_p37 : lw_okq (⟨"ColdOathsModel", "isCold", "(II)Z"⟩, 28) := ⟨⟨by decide +kernel, by decide +kernel⟩, List.mem_of_getElem? (i := 581) (by decide +kernel), List.mem_of_getElem? (i := 733) (by decide +kernel), List.mem_of_getElem? (i := 734) (by decide +kernel)⟩
theorem lw_p38 : lw_okq (⟨"ColdOathsModel", "chillOf", "(II)I"⟩, 28) := ⟨⟨by decide +kernel, by decide +kernel⟩, List.mem_of_getElem? (i := 581) (by decide +kernel), List.mem_of_getElem? (i := 737) (by decide +kernel), List.mem_of_getElem? (i := 738) (by decide +kernel)⟩
theorem lw_p39 : lw_okq (⟨"ColdOathsModel", "swornBy", "(I)I"⟩, 28) := ⟨⟨by decide +kernel, by decide +kernel⟩, List.mem_of_getElem? (i := 581) (by decide +kernel), List.mem_of_getElem? (i := 741) (by decide +kernel), List.mem_of_getElem? (i := 742) (by decide +kernel)⟩
theorem lw_p40 : lw_okq (⟨"ColdOathsModel", "whichBind", "()I"⟩, 28) := ⟨⟨by decide +kernel, by decide +kernel⟩, List.mem_of_getElem? (i := 581) (by decide +kernel), List.mem_of_getElem? (i := 745) (by decide +kernel), List.mem_of_getElem? (i := 746) (by decide +kernel)⟩
theorem lw_p41 : lw_okq (⟨"ColdOathsModel", "binds", "(I)Z"⟩, 28) := ⟨⟨by decide +kernel, by decide +kernel⟩, List.mem_of_getElem? (i := 581) (by decide +kernel), List.mem_of_getElem? (i := 749) (by decide +kernel), List.mem_of_getElem? (i := 750) (by decide +kernel)⟩
theorem lw_p42 : lw_okq (⟨"ColdOathsModel", "isOath", "(I)Z"⟩, 28) := ⟨⟨by decide +kernel, by decide +kernel⟩, List.mem_of_getElem? (i := 581) (by decide +kernel), List.mem_of_getElem? (i := 757) (by decide +kernel), List.mem_of_getElem? (i := 758) (by decide +kernel)⟩
theorem lw_p43 : lw_okq (⟨"ColdOathsModel", "isHour", "(I)Z"⟩, 28) := ⟨⟨by decide +kernel, by decide +kernel⟩, List.mem_of_getElem? (i := 581) (by decide +kernel), List.mem_of_getElem? (i := 765) (by decide +kernel), List.mem_of_getElem? (i := 766) (by decide +kernel)⟩
theorem lw_p44 : lw_okq (⟨"ColdOathsModel", "whoCold", "(I)I"⟩, 28) := ⟨⟨by decide +kernel, by decide +kernel⟩, List.mem_of_getElem? (i := 581) (by decide +kernel), List.mem_of_getElem? (i := 769) (by decide +kernel), List.mem_of_getElem? (i := 770) (by decide +kernel)⟩
theorem lw_p45 : lw_okq (⟨"ColdOathsModel", "letOff", "(I)V"⟩, 28) := ⟨⟨by decide +kernel, by decide +kernel⟩, List.mem_of_getElem? (i := 581) (by decide +kernel), List.mem_of_getElem? (i := 793) (by decide +kernel), List.mem_of_getElem? (i := 794) (by decide +kernel)⟩
theorem lw_p46 : lw_okq (⟨"ColdOathsModel", "keep", "()V"⟩, 28) := ⟨⟨by decide +kernel, by decide +kernel⟩, List.mem_of_getElem? (i := 581) (by decide +kernel), List.mem_of_getElem? (i := 811) (by decide +kernel), List.mem_of_getElem? (i := 812) (by decide +kernel)⟩
theorem lw_p47 : lw_okq (⟨"ColdOathsModel", "goCase", "(II)I"⟩, 28) := ⟨⟨by decide +kernel, by decide +kernel⟩, List.mem_of_getElem? (i := 581) (by decide +kernel), List.mem_of_getElem? (i := 815) (by decide +kernel), List.mem_of_getElem? (i := 816) (by decide +kernel)⟩
def lw_privs_3 : List (MethodName × Nat) := [(⟨"ColdOathsModel", "readOathNext", "(I)Z"⟩, 28), (⟨"ColdOathsModel", "takeDay", "()V"⟩, 28), (⟨"ColdOathsModel", "isSwearer", "(I)Z"⟩, 28), (⟨"ColdOathsModel", "warmthOf", "(I)I"⟩, 28), (⟨"ColdOathsModel", "coldHours", "(I)I"⟩, 28), (⟨"ColdOathsModel", "isCold", "(II)Z"⟩, 28), (⟨"ColdOathsModel", "chillOf", "(II)I"⟩, 28), (⟨"ColdOathsModel", "swornBy", "(I)I"⟩, 28), (⟨"ColdOathsModel", "whichBind", "()I"⟩, 28), (⟨"ColdOathsModel", "binds", "(I)Z"⟩, 28), (⟨"ColdOathsModel", "isOath", "(I)Z"⟩, 28), (⟨"ColdOathsModel", "isHour", "(I)Z"⟩, 28), (⟨"ColdOathsModel", "whoCold", "(I)I"⟩, 28), (⟨"ColdOathsModel", "letOff", "(I)V"⟩, 28), (⟨"ColdOathsModel", "keep", "()V"⟩, 28), (⟨"ColdOathsModel", "goCase", "(II)I"⟩, 28)]
theorem lw_r3 : ∀ q ∈ lw_privs_3, lw_okq q := List.forall_mem_cons.mpr ⟨lw_p32, List.forall_mem_cons.mpr ⟨lw_p33, List.forall_mem_cons.mpr ⟨lw_p34, List.forall_mem_cons.mpr ⟨lw_p35, List.forall_mem_cons.mpr ⟨lw_p36, List.forall_mem_cons.mpr ⟨lw_p37, List.forall_mem_cons.mpr ⟨lw_p38, List.forall_mem_cons.mpr ⟨lw_p39, List.forall_mem_cons.mpr ⟨lw_p40, List.forall_mem_cons.mpr ⟨lw_p41, List.forall_mem_cons.mpr ⟨lw_p42, List.forall_mem_cons.mpr ⟨lw_p43, List.forall_mem_cons.mpr ⟨lw_p44, List.forall_mem_cons.mpr ⟨lw_p45, List.forall_mem_cons.mpr ⟨lw_p46, List.forall_mem_cons.mpr ⟨lw_p47, fun _ h => absurd h List.not_mem_nil⟩⟩⟩⟩⟩⟩⟩⟩⟩⟩⟩⟩⟩⟩⟩⟩
theorem lw_p48 : lw_okq (⟨"ColdOathsModel", "does", "(II)Z"⟩, 28) := ⟨⟨by decide +kernel, by decide +kernel⟩, List.mem_of_getElem? (i := 581) (by decide +kernel), List.mem_of_getElem? (i := 819) (by decide +kernel), List.mem_of_getElem? (i := 820) (by decide +kernel)⟩
theorem lw_p49 : lw_okq (⟨"ColdOathsModel", "tellCase", "(I)I"⟩, 28) := ⟨⟨by decide +kernel, by decide +kernel⟩, List.mem_of_getElem? (i := 581) (by decide +kernel), List.mem_of_getElem? (i := 823) (by decide +kernel), List.mem_of_getElem? (i := 824) (by decide +kernel)⟩
theorem lw_p50 : lw_okq (⟨"ColdOathsModel", "leastLetGo", "()I"⟩, 28) := ⟨⟨by decide +kernel, by decide +kernel⟩, List.mem_of_getElem? (i := 581) (by decide +kernel), List.mem_of_getElem? (i := 827) (by decide +kernel), List.mem_of_getElem? (i := 828) (by decide +kernel)⟩
theorem lw_p51 : lw_okq (⟨"ColdOathsModel", "anyRound", "(I)Z"⟩, 28) := ⟨⟨by decide +kernel, by decide +kernel⟩, List.mem_of_getElem? (i := 581) (by decide +kernel), List.mem_of_getElem? (i := 831) (by decide +kernel), List.mem_of_getElem? (i := 832) (by decide +kernel)⟩
theorem lw_p52 : lw_okq (⟨"ColdOathsModel", "boundOf", "(III)I"⟩, 28) := ⟨⟨by decide +kernel, by decide +kernel⟩, List.mem_of_getElem? (i := 581) (by decide +kernel), List.mem_of_getElem? (i := 835) (by decide +kernel), List.mem_of_getElem? (i := 836) (by decide +kernel)⟩
theorem lw_p53 : lw_okq (⟨"ColdOathsModel", "boundBy", "(II)I"⟩, 28) := ⟨⟨by decide +kernel, by decide +kernel⟩, List.mem_of_getElem? (i := 581) (by decide +kernel), List.mem_of_getElem? (i := 839) (by decide +kernel), List.mem_of_getElem? (i := 840) (by decide +kernel)⟩
theorem lw_p54 : lw_okq (⟨"ColdOathsModel", "leastOfSize", "(II)I"⟩, 28) := ⟨⟨by decide +kernel, by decide +kernel⟩, List.mem_of_getElem? (i := 581) (by decide +kernel), List.mem_of_getElem? (i := 846) (by decide +kernel), List.mem_of_getElem? (i := 847) (by decide +kernel)⟩
theorem lw_p55 : lw_okq (⟨"ColdOathsModel", "putBack", "()V"⟩, 28) := ⟨⟨by decide +kernel, by decide +kernel⟩, List.mem_of_getElem? (i := 581) (by decide +kernel), List.mem_of_getElem? (i := 850) (by decide +kernel), List.mem_of_getElem? (i := 851) (by decide +kernel)⟩
theorem lw_p56 : lw_okq (⟨"ColdOathsModel", "areThere", "(I)Z"⟩, 28) := ⟨⟨by decide +kernel, by decide +kernel⟩, List.mem_of_getElem? (i := 581) (by decide +kernel), List.mem_of_getElem? (i := 862) (by decide +kernel), List.mem_of_getElem? (i := 863) (by decide +kernel)⟩
theorem lw_p57 : lw_okq (⟨"ColdOathsModel", "areSo", "()Z"⟩, 28) := ⟨⟨by decide +kernel, by decide +kernel⟩, List.mem_of_getElem? (i := 581) (by decide +kernel), List.mem_of_getElem? (i := 890) (by decide +kernel), List.mem_of_getElem? (i := 891) (by decide +kernel)⟩
theorem lw_p58 : lw_okq (⟨"ColdOathsModel", "lost", "(I)J"⟩, 28) := ⟨⟨by decide +kernel, by decide +kernel⟩, List.mem_of_getElem? (i := 581) (by decide +kernel), List.mem_of_getElem? (i := 926) (by decide +kernel), List.mem_of_getElem? (i := 927) (by decide +kernel)⟩
theorem lw_p59 : lw_okq (⟨"ColdOathsModel", "begins", "(I)V"⟩, 28) := ⟨⟨by decide +kernel, by decide +kernel⟩, List.mem_of_getElem? (i := 581) (by decide +kernel), List.mem_of_getElem? (i := 938) (by decide +kernel), List.mem_of_getElem? (i := 939) (by decide +kernel)⟩
def lw_privs_4 : List (MethodName × Nat) := [(⟨"ColdOathsModel", "does", "(II)Z"⟩, 28), (⟨"ColdOathsModel", "tellCase", "(I)I"⟩, 28), (⟨"ColdOathsModel", "leastLetGo", "()I"⟩, 28), (⟨"ColdOathsModel", "anyRound", "(I)Z"⟩, 28), (⟨"ColdOathsModel", "boundOf", "(III)I"⟩, 28), (⟨"ColdOathsModel", "boundBy", "(II)I"⟩, 28), (⟨"ColdOathsModel", "leastOfSize", "(II)I"⟩, 28), (⟨"ColdOathsModel", "putBack", "()V"⟩, 28), (⟨"ColdOathsModel", "areThere", "(I)Z"⟩, 28), (⟨"ColdOathsModel", "areSo", "()Z"⟩, 28), (⟨"ColdOathsModel", "lost", "(I)J"⟩, 28), (⟨"ColdOathsModel", "begins", "(I)V"⟩, 28)]
theorem lw_r4 : ∀ q ∈ lw_privs_4, lw_okq q := List.forall_mem_cons.mpr ⟨lw_p48, List.forall_mem_cons.mpr ⟨lw_p49, List.forall_mem_cons.mpr ⟨lw_p50, List.forall_mem_cons.mpr ⟨lw_p51, List.forall_mem_cons.mpr ⟨lw_p52, List.forall_mem_cons.mpr ⟨lw_p53, List.forall_mem_cons.mpr ⟨lw_p54, List.forall_mem_cons.mpr ⟨lw_p55, List.forall_mem_cons.mpr ⟨lw_p56, List.forall_mem_cons.mpr ⟨lw_p57, List.forall_mem_cons.mpr ⟨lw_p58, List.forall_mem_cons.mpr ⟨lw_p59, fun _ h => absurd h List.not_mem_nil⟩⟩⟩⟩⟩⟩⟩⟩⟩⟩⟩⟩
def lw_privs : List (MethodName × Nat) := lw_privs_1 ++ (lw_privs_2 ++ (lw_privs_3 ++ (lw_privs_4)))
def lw_tbl : List Cond := k2_sels lw_privs ++ tables_1
theorem lw_privs_ok : ∀ q ∈ lw_privs, lw_okq q := by
  show ∀ q ∈ lw_privs_1 ++ (lw_privs_2 ++ (lw_privs_3 ++ (lw_privs_4))), lw_okq q
  exact List.forall_mem_append.mpr ⟨lw_r1, List.forall_mem_append.mpr ⟨lw_r2, List.forall_mem_append.mpr ⟨lw_r3, lw_r4⟩⟩⟩
end
section
theorem goodIn_r {big : List Cond} (ws : List Cond) (ps : List Nat) (hp : ws = ps.filterMap (fun i => big[i]?)) (h : ws.all goodWord = true) : GoodIn big ws := by
  intro w hw
  have h1 := List.all_eq_true.mp h w hw
  rw [hp] at hw
  obtain ⟨i, -, hi⟩ := List.mem_filterMap.mp hw
  have hm : w ∈ big := by first | exact List.mem_of_getElem? hi | exact List.getElem?_mem hi
  exact ⟨hm, good_of_word h1⟩
theorem goodIn_app {big a b : List Cond} (ha : GoodIn big a) (hb : GoodIn big b) : GoodIn big (a ++ b) := fun w h => (List.mem_append.mp h).elim (ha w) (hb w)
theorem goodIn_ca {big a b : List Cond} {c : Cond} (ha : GoodIn big (c :: a)) (hb : GoodIn big b) : GoodIn big (c :: (a ++ b)) := fun w h => (List.mem_cons.mp h).elim (fun e => ha w (List.mem_cons.mpr (Or.inl e))) (fun h => (List.mem_append.mp h).elim (fun h => ha w (List.mem_cons.mpr (Or.inr h))) (hb w))
theorem goodIn_sub {big ws : List Cond} (hm : ∀ w ∈ ws, w ∈ big) (h : ws.all goodWord = true) : GoodIn big ws := fun w hw => ⟨hm w hw, good_of_word (List.all_eq_true.mp h w hw)⟩
def RX0 : String := "ColdOaths$Day"
def TX0 : u_T := fun k => match k with
  | 0 => ("ColdOaths$Day", "hours", "I", false)
  | 1 => ("ColdOaths$Day", "swearers", "I", false)
  | 2 => ("ColdOaths$Day", "oaths", "I", false)
  | 3 => ("ColdOaths$Day", "stoveHour", "I", false)
  | 4 => ("ColdOaths$Day", "stoveHeat", "I", false)
  | 5 => ("ColdOaths$Day", "frostOf", "[I", true)
  | 6 => ("ColdOaths$Day", "kindOf", "[I", true)
  | 7 => ("ColdOaths$Day", "coatOf", "[I", true)
  | 8 => ("ColdOaths$Day", "swornBy", "[I", true)
  | 9 => ("ColdOaths$Day", "swornTo", "[I", true)
  | _ => ("ColdOaths$Day", "swornAt", "[I", true)
def tyX0 : Nat → FieldType := fun k => match k with
  | 0 => .int
  | 1 => .int
  | 2 => .int
  | 3 => .int
  | 4 => .int
  | 5 => .array .int
  | 6 => .array .int
  | 7 => .array .int
  | 8 => .array .int
  | 9 => .array .int
  | _ => .array .int
abbrev wsX00 : List Cond := u_ws RX0 TX0 11
theorem nmX0 : ∀ a, a < 11 → ∀ b, b < 11 → a ≠ b → (TX0 a).2.1 ≠ (TX0 b).2.1 := by decide +kernel
theorem tyX0_ok : ∀ k, k < 11 → parseFieldDescriptor (TX0 k).2.2.1 = some (tyX0 k) := by decide +kernel
abbrev cX0_init : ByteArray := prog_2_method_1_code
def yX0_init : MethodName := ⟨RX0, "<init>", "()V"⟩
abbrev cX0_clear : ByteArray := prog_2_method_2_code
def yX0_clear : MethodName := ⟨RX0, "clear", "()V"⟩
abbrev cX0_become : ByteArray := prog_2_method_3_code
def yX0_become : MethodName := ⟨RX0, "become", "(LColdOaths$Day;)V"⟩
abbrev cX0_hasHour : ByteArray := prog_2_method_4_code
def yX0_hasHour : MethodName := ⟨RX0, "hasHour", "(I)Z"⟩
abbrev cX0_hasSwearer : ByteArray := prog_2_method_5_code
def yX0_hasSwearer : MethodName := ⟨RX0, "hasSwearer", "(I)Z"⟩
abbrev cX0_hasOath : ByteArray := prog_2_method_6_code
def yX0_hasOath : MethodName := ⟨RX0, "hasOath", "(I)Z"⟩
abbrev cX0_addHour : ByteArray := prog_2_method_7_code
def yX0_addHour : MethodName := ⟨RX0, "addHour", "(I)V"⟩
abbrev cX0_addSwearer : ByteArray := prog_2_method_8_code
def yX0_addSwearer : MethodName := ⟨RX0, "addSwearer", "(II)V"⟩
abbrev cX0_addOath : ByteArray := prog_2_method_9_code
def yX0_addOath : MethodName := ⟨RX0, "addOath", "(III)V"⟩
abbrev cX0_dropOath : ByteArray := prog_2_method_10_code
def yX0_dropOath : MethodName := ⟨RX0, "dropOath", "(I)V"⟩
abbrev cX0_putStove : ByteArray := prog_2_method_11_code
def yX0_putStove : MethodName := ⟨RX0, "putStove", "(II)V"⟩
abbrev cX0_takesAct : ByteArray := prog_2_method_12_code
def yX0_takesAct : MethodName := ⟨RX0, "takesAct", "(II)Z"⟩
abbrev cX0_takesStove : ByteArray := prog_2_method_13_code
def yX0_takesStove : MethodName := ⟨RX0, "takesStove", "(II)Z"⟩
abbrev cX0_takesFrost : ByteArray := prog_2_method_14_code
def yX0_takesFrost : MethodName := ⟨RX0, "takesFrost", "(II)Z"⟩
abbrev cX0_takesCoat : ByteArray := prog_2_method_15_code
def yX0_takesCoat : MethodName := ⟨RX0, "takesCoat", "(II)Z"⟩
abbrev cX0_warmth : ByteArray := prog_2_method_16_code
def yX0_warmth : MethodName := ⟨RX0, "warmth", "(I)I"⟩
abbrev cX0_chillOf : ByteArray := prog_2_method_17_code
def yX0_chillOf : MethodName := ⟨RX0, "chillOf", "(II)I"⟩
abbrev cX0_isCold : ByteArray := prog_2_method_18_code
def yX0_isCold : MethodName := ⟨RX0, "isCold", "(II)Z"⟩
abbrev cX0_binds : ByteArray := prog_2_method_19_code
def yX0_binds : MethodName := ⟨RX0, "binds", "(I)Z"⟩
abbrev cX0_coldHours : ByteArray := prog_2_method_20_code
def yX0_coldHours : MethodName := ⟨RX0, "coldHours", "(I)I"⟩
abbrev cX0_coldSwearers : ByteArray := prog_2_method_21_code
def yX0_coldSwearers : MethodName := ⟨RX0, "coldSwearers", "(I)I"⟩
abbrev cX0_timesCold : ByteArray := prog_2_method_22_code
def yX0_timesCold : MethodName := ⟨RX0, "timesCold", "()I"⟩
abbrev cX0_allOaths : ByteArray := prog_2_method_23_code
def yX0_allOaths : MethodName := ⟨RX0, "allOaths", "()I"⟩
abbrev cX0_oathsBy : ByteArray := prog_2_method_24_code
def yX0_oathsBy : MethodName := ⟨RX0, "oathsBy", "(I)I"⟩
abbrev cX0_bindingOaths : ByteArray := prog_2_method_25_code
def yX0_bindingOaths : MethodName := ⟨RX0, "bindingOaths", "()I"⟩
abbrev cX0_leastRow : ByteArray := prog_2_method_26_code
def yX0_leastRow : MethodName := ⟨RX0, "leastRow", "(II)I"⟩
abbrev cX0_swornToBy : ByteArray := prog_2_method_27_code
def yX0_swornToBy : MethodName := ⟨RX0, "swornToBy", "(II)I"⟩
abbrev cX0_leastToLetGo : ByteArray := prog_2_method_28_code
def yX0_leastToLetGo : MethodName := ⟨RX0, "leastToLetGo", "()I"⟩
abbrev cX0_hasRing : ByteArray := prog_2_method_29_code
def yX0_hasRing : MethodName := ⟨RX0, "hasRing", "(I)Z"⟩
abbrev cX0_swearingWithin : ByteArray := prog_2_method_30_code
def yX0_swearingWithin : MethodName := ⟨RX0, "swearingWithin", "(II)I"⟩
def RX1 : String := "ColdOaths$Reader"
def TX1 : u_T := fun k => match k with
  | 0 => ("ColdOaths$Reader", "place", "I", false)
  | 1 => ("ColdOaths$Reader", "row", "LColdOaths$Sheet;", false)
  | 2 => ("ColdOaths$Reader", "start", "I", false)
  | _ => ("ColdOaths$Reader", "count", "I", false)
def tyX1 : Nat → FieldType := fun k => match k with
  | 0 => .int
  | 1 => .object "ColdOaths$Sheet"
  | 2 => .int
  | _ => .int
abbrev wsX10 : List Cond := u_ws RX1 TX1 4
theorem nmX1 : ∀ a, a < 4 → ∀ b, b < 4 → a ≠ b → (TX1 a).2.1 ≠ (TX1 b).2.1 := by decide +kernel
theorem tyX1_ok : ∀ k, k < 4 → parseFieldDescriptor (TX1 k).2.2.1 = some (tyX1 k) := by decide +kernel
abbrev cX1_init : ByteArray := prog_3_method_1_code
def yX1_init : MethodName := ⟨RX1, "<init>", "()V"⟩
abbrev cX1_open : ByteArray := prog_3_method_2_code
def yX1_open : MethodName := ⟨RX1, "open", "(LColdOaths$Sheet;II)V"⟩
abbrev cX1_reads : ByteArray := prog_3_method_3_code
def yX1_reads : MethodName := ⟨RX1, "reads", "(LColdOaths$Day;)Z"⟩
abbrev cX1_readsHours : ByteArray := prog_3_method_4_code
def yX1_readsHours : MethodName := ⟨RX1, "readsHours", "(LColdOaths$Day;)Z"⟩
abbrev cX1_readsSwearers : ByteArray := prog_3_method_5_code
def yX1_readsSwearers : MethodName := ⟨RX1, "readsSwearers", "(LColdOaths$Day;)Z"⟩
abbrev cX1_readsOaths : ByteArray := prog_3_method_6_code
def yX1_readsOaths : MethodName := ⟨RX1, "readsOaths", "(LColdOaths$Day;)Z"⟩
abbrev cX1_kindLetter : ByteArray := prog_3_method_7_code
def yX1_kindLetter : MethodName := ⟨RX1, "kindLetter", "()I"⟩
abbrev cX1_passes : ByteArray := prog_3_method_8_code
def yX1_passes : MethodName := ⟨RX1, "passes", "(I)Z"⟩
abbrev cX1_digitBelow : ByteArray := prog_3_method_9_code
def yX1_digitBelow : MethodName := ⟨RX1, "digitBelow", "(II)I"⟩
abbrev cX1_isAtEnd : ByteArray := prog_3_method_10_code
def yX1_isAtEnd : MethodName := ⟨RX1, "isAtEnd", "()Z"⟩
def RX2 : String := "ColdOaths$Readings"
def TX2 : u_T := fun k => match k with
  | 0 => ("ColdOaths$Readings", "count", "I", false)
  | 1 => ("ColdOaths$Readings", "who", "[I", true)
  | 2 => ("ColdOaths$Readings", "when", "[I", true)
  | _ => ("ColdOaths$Readings", "cold", "[Z", true)
def tyX2 : Nat → FieldType := fun k => match k with
  | 0 => .int
  | 1 => .array .int
  | 2 => .array .int
  | _ => .array .boolean
abbrev wsX20 : List Cond := u_ws RX2 TX2 4
theorem nmX2 : ∀ a, a < 4 → ∀ b, b < 4 → a ≠ b → (TX2 a).2.1 ≠ (TX2 b).2.1 := by decide +kernel
theorem tyX2_ok : ∀ k, k < 4 → parseFieldDescriptor (TX2 k).2.2.1 = some (tyX2 k) := by decide +kernel
abbrev cX2_init : ByteArray := prog_4_method_1_code
def yX2_init : MethodName := ⟨RX2, "<init>", "()V"⟩
abbrev cX2_add : ByteArray := prog_4_method_2_code
def yX2_add : MethodName := ⟨RX2, "add", "(IIZ)V"⟩
abbrev cX2_holdIn : ByteArray := prog_4_method_3_code
def yX2_holdIn : MethodName := ⟨RX2, "holdIn", "(LColdOaths$Day;)Z"⟩
def RX3 : String := "ColdOaths$Sheet"
def TX3 : u_T := fun k => match k with
  | 0 => ("ColdOaths$Sheet", "there", "Z", false)
  | 1 => ("ColdOaths$Sheet", "lane", "I", false)
  | 2 => ("ColdOaths$Sheet", "cells", "[I", true)
  | _ => ("ColdOaths$Sheet", "length", "I", false)
def tyX3 : Nat → FieldType := fun k => match k with
  | 0 => .boolean
  | 1 => .int
  | 2 => .array .int
  | _ => .int
abbrev wsX30 : List Cond := u_ws RX3 TX3 4
theorem nmX3 : ∀ a, a < 4 → ∀ b, b < 4 → a ≠ b → (TX3 a).2.1 ≠ (TX3 b).2.1 := by decide +kernel
theorem tyX3_ok : ∀ k, k < 4 → parseFieldDescriptor (TX3 k).2.2.1 = some (tyX3 k) := by decide +kernel
abbrev cX3_init : ByteArray := prog_5_method_1_code
def yX3_init : MethodName := ⟨RX3, "<init>", "()V"⟩
abbrev cX3_renew : ByteArray := prog_5_method_2_code
def yX3_renew : MethodName := ⟨RX3, "renew", "(II)V"⟩
abbrev cX3_faultAs : ByteArray := prog_5_method_3_code
def yX3_faultAs : MethodName := ⟨RX3, "faultAs", "(I)I"⟩
abbrev cX3_hasCell : ByteArray := prog_5_method_4_code
def yX3_hasCell : MethodName := ⟨RX3, "hasCell", "(I)Z"⟩
abbrev cX3_hasCells : ByteArray := prog_5_method_5_code
def yX3_hasCells : MethodName := ⟨RX3, "hasCells", "(II)Z"⟩
abbrev cX3_at : ByteArray := prog_5_method_6_code
def yX3_at : MethodName := ⟨RX3, "at", "(I)I"⟩
abbrev cX3_store : ByteArray := prog_5_method_7_code
def yX3_store : MethodName := ⟨RX3, "store", "(II)V"⟩
abbrev cX3_cutToLane : ByteArray := prog_5_method_8_code
def yX3_cutToLane : MethodName := ⟨RX3, "cutToLane", "(I)I"⟩
def RX4 : String := "ColdOaths"
def TX4 : u_T := fun k => match k with
  | 0 => ("ColdOaths", "sheets", "[LColdOaths$Sheet;", true)
  | 1 => ("ColdOaths", "now", "LColdOaths$Day;", true)
  | 2 => ("ColdOaths", "draft", "LColdOaths$Day;", true)
  | 3 => ("ColdOaths", "reader", "LColdOaths$Reader;", true)
  | 4 => ("ColdOaths", "readings", "LColdOaths$Readings;", true)
  | 5 => ("ColdOaths", "trail", "I", false)
  | _ => ("ColdOaths", "lastFault", "I", false)
def tyX4 : Nat → FieldType := fun k => match k with
  | 0 => .array (.object "ColdOaths$Sheet")
  | 1 => .object "ColdOaths$Day"
  | 2 => .object "ColdOaths$Day"
  | 3 => .object "ColdOaths$Reader"
  | 4 => .object "ColdOaths$Readings"
  | 5 => .int
  | _ => .int
abbrev wsX40 : List Cond := u_ws RX4 TX4 7
theorem nmX4 : ∀ a, a < 7 → ∀ b, b < 7 → a ≠ b → (TX4 a).2.1 ≠ (TX4 b).2.1 := by decide +kernel
theorem tyX4_ok : ∀ k, k < 7 → parseFieldDescriptor (TX4 k).2.2.1 = some (tyX4 k) := by decide +kernel
abbrev cX4_init : ByteArray := prog_1_method_1_code
def yX4_init : MethodName := ⟨RX4, "<init>", "()V"⟩
abbrev cX4_day : ByteArray := prog_1_method_2_code
def yX4_day : MethodName := ⟨RX4, "day", "(IIII)I"⟩
abbrev cX4_ofSwearer : ByteArray := prog_1_method_3_code
def yX4_ofSwearer : MethodName := ⟨RX4, "ofSwearer", "(II)I"⟩
abbrev cX4_ofOath : ByteArray := prog_1_method_4_code
def yX4_ofOath : MethodName := ⟨RX4, "ofOath", "(II)I"⟩
abbrev cX4_ofHour : ByteArray := prog_1_method_5_code
def yX4_ofHour : MethodName := ⟨RX4, "ofHour", "(II)I"⟩
abbrev cX4_chill : ByteArray := prog_1_method_6_code
def yX4_chill : MethodName := ⟨RX4, "chill", "(II)I"⟩
abbrev cX4_coat : ByteArray := prog_1_method_7_code
def yX4_coat : MethodName := ⟨RX4, "coat", "(II)I"⟩
abbrev cX4_frost : ByteArray := prog_1_method_8_code
def yX4_frost : MethodName := ⟨RX4, "frost", "(II)I"⟩
abbrev cX4_swear : ByteArray := prog_1_method_9_code
def yX4_swear : MethodName := ⟨RX4, "swear", "(III)I"⟩
abbrev cX4_release : ByteArray := prog_1_method_10_code
def yX4_release : MethodName := ⟨RX4, "release", "(I)I"⟩
abbrev cX4_stove : ByteArray := prog_1_method_11_code
def yX4_stove : MethodName := ⟨RX4, "stove", "(II)I"⟩
abbrev cX4_trial : ByteArray := prog_1_method_12_code
def yX4_trial : MethodName := ⟨RX4, "trial", "(IIIII)I"⟩
abbrev cX4_isOfTrial : ByteArray := prog_1_method_13_code
def yX4_isOfTrial : MethodName := ⟨RX4, "isOfTrial", "(I)Z"⟩
abbrev cX4_isCase : ByteArray := prog_1_method_14_code
def yX4_isCase : MethodName := ⟨RX4, "isCase", "(LColdOaths$Sheet;II)Z"⟩
abbrev cX4_isAct : ByteArray := prog_1_method_15_code
def yX4_isAct : MethodName := ⟨RX4, "isAct", "(II)Z"⟩
abbrev cX4_playCase : ByteArray := prog_1_method_16_code
def yX4_playCase : MethodName := ⟨RX4, "playCase", "(LColdOaths$Sheet;II)I"⟩
abbrev cX4_ofCase : ByteArray := prog_1_method_17_code
def yX4_ofCase : MethodName := ⟨RX4, "ofCase", "(I)I"⟩
abbrev cX4_bound : ByteArray := prog_1_method_18_code
def yX4_bound : MethodName := ⟨RX4, "bound", "(II)I"⟩
abbrev cX4_together : ByteArray := prog_1_method_19_code
def yX4_together : MethodName := ⟨RX4, "together", "(I)I"⟩
abbrev cX4_coated : ByteArray := prog_1_method_20_code
def yX4_coated : MethodName := ⟨RX4, "coated", "(I)I"⟩
abbrev cX4_refusalOfSwearers : ByteArray := prog_1_method_21_code
def yX4_refusalOfSwearers : MethodName := ⟨RX4, "refusalOfSwearers", "(I)I"⟩
abbrev cX4_letgo : ByteArray := prog_1_method_22_code
def yX4_letgo : MethodName := ⟨RX4, "letgo", "(I)I"⟩
abbrev cX4_stoves : ByteArray := prog_1_method_23_code
def yX4_stoves : MethodName := ⟨RX4, "stoves", "(II)I"⟩
abbrev cX4_stovesThatSpare : ByteArray := prog_1_method_24_code
def yX4_stovesThatSpare : MethodName := ⟨RX4, "stovesThatSpare", "(II)I"⟩
abbrev cX4_reading : ByteArray := prog_1_method_25_code
def yX4_reading : MethodName := ⟨RX4, "reading", "(III)I"⟩
abbrev cX4_back : ByteArray := prog_1_method_26_code
def yX4_back : MethodName := ⟨RX4, "back", "(I)I"⟩
abbrev cX4_coats : ByteArray := prog_1_method_27_code
def yX4_coats : MethodName := ⟨RX4, "coats", "(I)I"⟩
abbrev cX4_kinds : ByteArray := prog_1_method_28_code
def yX4_kinds : MethodName := ⟨RX4, "kinds", "(I)I"⟩
abbrev cX4_frosts : ByteArray := prog_1_method_29_code
def yX4_frosts : MethodName := ⟨RX4, "frosts", "(I)I"⟩
abbrev cX4_odds : ByteArray := prog_1_method_30_code
def yX4_odds : MethodName := ⟨RX4, "odds", "(III)J"⟩
abbrev cX4_lessened : ByteArray := prog_1_method_31_code
def yX4_lessened : MethodName := ⟨RX4, "lessened", "(II)I"⟩
abbrev cX4_sheet : ByteArray := prog_1_method_32_code
def yX4_sheet : MethodName := ⟨RX4, "sheet", "(III)I"⟩
abbrev cX4_lose : ByteArray := prog_1_method_33_code
def yX4_lose : MethodName := ⟨RX4, "lose", "(I)I"⟩
abbrev cX4_put : ByteArray := prog_1_method_34_code
def yX4_put : MethodName := ⟨RX4, "put", "(III)I"⟩
abbrev cX4_cell : ByteArray := prog_1_method_35_code
def yX4_cell : MethodName := ⟨RX4, "cell", "(III)J"⟩
abbrev cX4_copy : ByteArray := prog_1_method_36_code
def yX4_copy : MethodName := ⟨RX4, "copy", "(IIIII)I"⟩
abbrev cX4_tell : ByteArray := prog_1_method_37_code
def yX4_tell : MethodName := ⟨RX4, "tell", "(I)I"⟩
abbrev cX4_pinch : ByteArray := prog_1_method_38_code
def yX4_pinch : MethodName := ⟨RX4, "pinch", "(I)I"⟩
abbrev cX4_as : ByteArray := prog_1_method_39_code
def yX4_as : MethodName := ⟨RX4, "as", "(II)I"⟩
abbrev cX4_trace : ByteArray := prog_1_method_40_code
def yX4_trace : MethodName := ⟨RX4, "trace", "()I"⟩
abbrev cX4_fault : ByteArray := prog_1_method_41_code
def yX4_fault : MethodName := ⟨RX4, "fault", "()I"⟩
abbrev cX4_many : ByteArray := prog_1_method_42_code
def yX4_many : MethodName := ⟨RX4, "many", "(I)I"⟩
abbrev cX4_plainBody : ByteArray := prog_1_method_43_code
def yX4_plainBody : MethodName := ⟨RX4, "plainBody", "(I)I"⟩
abbrev cX4_beardedBody : ByteArray := prog_1_method_44_code
def yX4_beardedBody : MethodName := ⟨RX4, "beardedBody", "(I)I"⟩
abbrev cX4_doubleBody : ByteArray := prog_1_method_45_code
def yX4_doubleBody : MethodName := ⟨RX4, "doubleBody", "(I)I"⟩
abbrev cX4_lentPinch : ByteArray := prog_1_method_46_code
def yX4_lentPinch : MethodName := ⟨RX4, "lentPinch", "(I)I"⟩
abbrev cX4_doublePinch : ByteArray := prog_1_method_47_code
def yX4_doublePinch : MethodName := ⟨RX4, "doublePinch", "()I"⟩
abbrev cX4_leaveInTrace : ByteArray := prog_1_method_48_code
def yX4_leaveInTrace : MethodName := ⟨RX4, "leaveInTrace", "(I)V"⟩
abbrev cX4_failed : ByteArray := prog_1_method_49_code
def yX4_failed : MethodName := ⟨RX4, "failed", "(I)I"⟩
abbrev cX4_hasDay : ByteArray := prog_1_method_50_code
def yX4_hasDay : MethodName := ⟨RX4, "hasDay", "()Z"⟩
abbrev cX4_isSheet : ByteArray := prog_1_method_51_code
def yX4_isSheet : MethodName := ⟨RX4, "isSheet", "(I)Z"⟩
abbrev cX4_isLane : ByteArray := prog_1_method_52_code
def yX4_isLane : MethodName := ⟨RX4, "isLane", "(I)Z"⟩
abbrev cX4_isDigit : ByteArray := prog_1_method_53_code
def yX4_isDigit : MethodName := ⟨RX4, "isDigit", "(I)Z"⟩
abbrev cX4_hasBit : ByteArray := prog_1_method_54_code
def yX4_hasBit : MethodName := ⟨RX4, "hasBit", "(II)Z"⟩
def RX5 : String := "ColdOathsModel"
def TX5 : u_T := fun k => match k with
  | 0 => ("ColdOathsModel", "fault", "I", false)
  | 1 => ("ColdOathsModel", "trace", "I", false)
  | 2 => ("ColdOathsModel", "sorts", "[I", true)
  | 3 => ("ColdOathsModel", "sheetLong", "[I", true)
  | 4 => ("ColdOathsModel", "cells", "[I", true)
  | 5 => ("ColdOathsModel", "hours", "I", false)
  | 6 => ("ColdOathsModel", "swearers", "I", false)
  | 7 => ("ColdOathsModel", "oaths", "I", false)
  | 8 => ("ColdOathsModel", "stoveAt", "I", false)
  | 9 => ("ColdOathsModel", "heat", "I", false)
  | 10 => ("ColdOathsModel", "frost", "[I", true)
  | 11 => ("ColdOathsModel", "kind", "[I", true)
  | 12 => ("ColdOathsModel", "coat", "[I", true)
  | 13 => ("ColdOathsModel", "byWhom", "[I", true)
  | 14 => ("ColdOathsModel", "toWhom", "[I", true)
  | 15 => ("ColdOathsModel", "when", "[I", true)
  | 16 => ("ColdOathsModel", "at", "I", false)
  | 17 => ("ColdOathsModel", "readHours", "I", false)
  | 18 => ("ColdOathsModel", "readSwearers", "I", false)
  | 19 => ("ColdOathsModel", "readOaths", "I", false)
  | 20 => ("ColdOathsModel", "readFrost", "[I", true)
  | 21 => ("ColdOathsModel", "readSwearer", "[I", true)
  | 22 => ("ColdOathsModel", "readOath", "[I", true)
  | 23 => ("ColdOathsModel", "kept", "[I", true)
  | 24 => ("ColdOathsModel", "readings", "I", false)
  | 25 => ("ColdOathsModel", "readWho", "[I", true)
  | 26 => ("ColdOathsModel", "readWhen", "[I", true)
  | _ => ("ColdOathsModel", "readCold", "[I", true)
def tyX5 : Nat → FieldType := fun k => match k with
  | 0 => .int
  | 1 => .int
  | 2 => .array .int
  | 3 => .array .int
  | 4 => .array .int
  | 5 => .int
  | 6 => .int
  | 7 => .int
  | 8 => .int
  | 9 => .int
  | 10 => .array .int
  | 11 => .array .int
  | 12 => .array .int
  | 13 => .array .int
  | 14 => .array .int
  | 15 => .array .int
  | 16 => .int
  | 17 => .int
  | 18 => .int
  | 19 => .int
  | 20 => .array .int
  | 21 => .array .int
  | 22 => .array .int
  | 23 => .array .int
  | 24 => .int
  | 25 => .array .int
  | 26 => .array .int
  | _ => .array .int
abbrev wsX50 : List Cond := u_ws RX5 TX5 28
theorem nmX5 : ∀ a, a < 28 → ∀ b, b < 28 → a ≠ b → (TX5 a).2.1 ≠ (TX5 b).2.1 := by decide +kernel
theorem tyX5_ok : ∀ k, k < 28 → parseFieldDescriptor (TX5 k).2.2.1 = some (tyX5 k) := by decide +kernel
abbrev cX5_init : ByteArray := prog_7_method_1_code
def yX5_init : MethodName := ⟨RX5, "<init>", "()V"⟩
abbrev cX5_fails : ByteArray := prog_7_method_3_code
def yX5_fails : MethodName := ⟨RX5, "fails", "(I)I"⟩
abbrev cX5_lost : ByteArray := prog_7_method_4_code
def yX5_lost : MethodName := ⟨RX5, "lost", "(I)J"⟩
abbrev cX5_within : ByteArray := prog_7_method_5_code
def yX5_within : MethodName := ⟨RX5, "within", "(III)Z"⟩
abbrev cX5_isSheet : ByteArray := prog_7_method_6_code
def yX5_isSheet : MethodName := ⟨RX5, "isSheet", "(I)Z"⟩
abbrev cX5_isSort : ByteArray := prog_7_method_7_code
def yX5_isSort : MethodName := ⟨RX5, "isSort", "(I)Z"⟩
abbrev cX5_against : ByteArray := prog_7_method_8_code
def yX5_against : MethodName := ⟨RX5, "against", "(IIII)I"⟩
abbrev cX5_isHour : ByteArray := prog_7_method_9_code
def yX5_isHour : MethodName := ⟨RX5, "isHour", "(I)Z"⟩
abbrev cX5_isSwearer : ByteArray := prog_7_method_10_code
def yX5_isSwearer : MethodName := ⟨RX5, "isSwearer", "(I)Z"⟩
abbrev cX5_isOath : ByteArray := prog_7_method_11_code
def yX5_isOath : MethodName := ⟨RX5, "isOath", "(I)Z"⟩
abbrev cX5_isOf : ByteArray := prog_7_method_12_code
def yX5_isOf : MethodName := ⟨RX5, "isOf", "(II)Z"⟩
abbrev cX5_size : ByteArray := prog_7_method_13_code
def yX5_size : MethodName := ⟨RX5, "size", "(I)I"⟩
abbrev cX5_digit : ByteArray := prog_7_method_14_code
def yX5_digit : MethodName := ⟨RX5, "digit", "(II)I"⟩
abbrev cX5_isSign : ByteArray := prog_7_method_15_code
def yX5_isSign : MethodName := ⟨RX5, "isSign", "(II)Z"⟩
abbrev cX5_day : ByteArray := prog_7_method_16_code
def yX5_day : MethodName := ⟨RX5, "day", "(IIII)I"⟩
abbrev cX5_takeDay : ByteArray := prog_7_method_17_code
def yX5_takeDay : MethodName := ⟨RX5, "takeDay", "()V"⟩
abbrev cX5_readDay : ByteArray := prog_7_method_18_code
def yX5_readDay : MethodName := ⟨RX5, "readDay", "(I)Z"⟩
abbrev cX5_readSwearerNext : ByteArray := prog_7_method_19_code
def yX5_readSwearerNext : MethodName := ⟨RX5, "readSwearerNext", "(I)Z"⟩
abbrev cX5_readOathNext : ByteArray := prog_7_method_20_code
def yX5_readOathNext : MethodName := ⟨RX5, "readOathNext", "(I)Z"⟩
abbrev cX5_warmthOf : ByteArray := prog_7_method_21_code
def yX5_warmthOf : MethodName := ⟨RX5, "warmthOf", "(I)I"⟩
abbrev cX5_chillOf : ByteArray := prog_7_method_22_code
def yX5_chillOf : MethodName := ⟨RX5, "chillOf", "(II)I"⟩
abbrev cX5_isCold : ByteArray := prog_7_method_23_code
def yX5_isCold : MethodName := ⟨RX5, "isCold", "(II)Z"⟩
abbrev cX5_coldHours : ByteArray := prog_7_method_24_code
def yX5_coldHours : MethodName := ⟨RX5, "coldHours", "(I)I"⟩
abbrev cX5_binds : ByteArray := prog_7_method_25_code
def yX5_binds : MethodName := ⟨RX5, "binds", "(I)Z"⟩
abbrev cX5_whichBind : ByteArray := prog_7_method_26_code
def yX5_whichBind : MethodName := ⟨RX5, "whichBind", "()I"⟩
abbrev cX5_swornBy : ByteArray := prog_7_method_27_code
def yX5_swornBy : MethodName := ⟨RX5, "swornBy", "(I)I"⟩
abbrev cX5_whoCold : ByteArray := prog_7_method_28_code
def yX5_whoCold : MethodName := ⟨RX5, "whoCold", "(I)I"⟩
abbrev cX5_ofSwearer : ByteArray := prog_7_method_29_code
def yX5_ofSwearer : MethodName := ⟨RX5, "ofSwearer", "(II)I"⟩
abbrev cX5_ofOath : ByteArray := prog_7_method_30_code
def yX5_ofOath : MethodName := ⟨RX5, "ofOath", "(II)I"⟩
abbrev cX5_ofHour : ByteArray := prog_7_method_31_code
def yX5_ofHour : MethodName := ⟨RX5, "ofHour", "(II)I"⟩
abbrev cX5_chill : ByteArray := prog_7_method_32_code
def yX5_chill : MethodName := ⟨RX5, "chill", "(II)I"⟩
abbrev cX5_coat : ByteArray := prog_7_method_33_code
def yX5_coat : MethodName := ⟨RX5, "coat", "(II)I"⟩
abbrev cX5_frost : ByteArray := prog_7_method_34_code
def yX5_frost : MethodName := ⟨RX5, "frost", "(II)I"⟩
abbrev cX5_swear : ByteArray := prog_7_method_35_code
def yX5_swear : MethodName := ⟨RX5, "swear", "(III)I"⟩
abbrev cX5_letOff : ByteArray := prog_7_method_36_code
def yX5_letOff : MethodName := ⟨RX5, "letOff", "(I)V"⟩
abbrev cX5_release : ByteArray := prog_7_method_37_code
def yX5_release : MethodName := ⟨RX5, "release", "(I)I"⟩
abbrev cX5_stove : ByteArray := prog_7_method_38_code
def yX5_stove : MethodName := ⟨RX5, "stove", "(II)I"⟩
abbrev cX5_keep : ByteArray := prog_7_method_39_code
def yX5_keep : MethodName := ⟨RX5, "keep", "()V"⟩
abbrev cX5_putBack : ByteArray := prog_7_method_40_code
def yX5_putBack : MethodName := ⟨RX5, "putBack", "()V"⟩
abbrev cX5_does : ByteArray := prog_7_method_41_code
def yX5_does : MethodName := ⟨RX5, "does", "(II)Z"⟩
abbrev cX5_isPair : ByteArray := prog_7_method_42_code
def yX5_isPair : MethodName := ⟨RX5, "isPair", "(II)Z"⟩
abbrev cX5_goCase : ByteArray := prog_7_method_43_code
def yX5_goCase : MethodName := ⟨RX5, "goCase", "(II)I"⟩
abbrev cX5_trial : ByteArray := prog_7_method_44_code
def yX5_trial : MethodName := ⟨RX5, "trial", "(IIIII)I"⟩
abbrev cX5_tellCase : ByteArray := prog_7_method_45_code
def yX5_tellCase : MethodName := ⟨RX5, "tellCase", "(I)I"⟩
abbrev cX5_boundBy : ByteArray := prog_7_method_46_code
def yX5_boundBy : MethodName := ⟨RX5, "boundBy", "(II)I"⟩
abbrev cX5_boundOf : ByteArray := prog_7_method_47_code
def yX5_boundOf : MethodName := ⟨RX5, "boundOf", "(III)I"⟩
abbrev cX5_bound : ByteArray := prog_7_method_48_code
def yX5_bound : MethodName := ⟨RX5, "bound", "(II)I"⟩
abbrev cX5_areThere : ByteArray := prog_7_method_49_code
def yX5_areThere : MethodName := ⟨RX5, "areThere", "(I)Z"⟩
abbrev cX5_together : ByteArray := prog_7_method_50_code
def yX5_together : MethodName := ⟨RX5, "together", "(I)I"⟩
abbrev cX5_coated : ByteArray := prog_7_method_51_code
def yX5_coated : MethodName := ⟨RX5, "coated", "(I)I"⟩
abbrev cX5_anyRound : ByteArray := prog_7_method_52_code
def yX5_anyRound : MethodName := ⟨RX5, "anyRound", "(I)Z"⟩
abbrev cX5_leastLetGo : ByteArray := prog_7_method_53_code
def yX5_leastLetGo : MethodName := ⟨RX5, "leastLetGo", "()I"⟩
abbrev cX5_leastOfSize : ByteArray := prog_7_method_54_code
def yX5_leastOfSize : MethodName := ⟨RX5, "leastOfSize", "(II)I"⟩
abbrev cX5_letgo : ByteArray := prog_7_method_55_code
def yX5_letgo : MethodName := ⟨RX5, "letgo", "(I)I"⟩
abbrev cX5_stoves : ByteArray := prog_7_method_56_code
def yX5_stoves : MethodName := ⟨RX5, "stoves", "(II)I"⟩
abbrev cX5_reading : ByteArray := prog_7_method_57_code
def yX5_reading : MethodName := ⟨RX5, "reading", "(III)I"⟩
abbrev cX5_back : ByteArray := prog_7_method_58_code
def yX5_back : MethodName := ⟨RX5, "back", "(I)I"⟩
abbrev cX5_areSo : ByteArray := prog_7_method_59_code
def yX5_areSo : MethodName := ⟨RX5, "areSo", "()Z"⟩
abbrev cX5_coats : ByteArray := prog_7_method_60_code
def yX5_coats : MethodName := ⟨RX5, "coats", "(I)I"⟩
abbrev cX5_kinds : ByteArray := prog_7_method_61_code
def yX5_kinds : MethodName := ⟨RX5, "kinds", "(I)I"⟩
abbrev cX5_frosts : ByteArray := prog_7_method_62_code
def yX5_frosts : MethodName := ⟨RX5, "frosts", "(I)I"⟩
abbrev cX5_inLeastTerms : ByteArray := prog_7_method_63_code
def yX5_inLeastTerms : MethodName := ⟨RX5, "inLeastTerms", "(JJI)J"⟩
abbrev cX5_odds : ByteArray := prog_7_method_64_code
def yX5_odds : MethodName := ⟨RX5, "odds", "(III)J"⟩
abbrev cX5_sheet : ByteArray := prog_7_method_65_code
def yX5_sheet : MethodName := ⟨RX5, "sheet", "(III)I"⟩
abbrev cX5_lose : ByteArray := prog_7_method_66_code
def yX5_lose : MethodName := ⟨RX5, "lose", "(I)I"⟩
abbrev cX5_put : ByteArray := prog_7_method_67_code
def yX5_put : MethodName := ⟨RX5, "put", "(III)I"⟩
abbrev cX5_cell : ByteArray := prog_7_method_68_code
def yX5_cell : MethodName := ⟨RX5, "cell", "(III)J"⟩
abbrev cX5_copy : ByteArray := prog_7_method_69_code
def yX5_copy : MethodName := ⟨RX5, "copy", "(IIIII)I"⟩
abbrev cX5_begins : ByteArray := prog_7_method_70_code
def yX5_begins : MethodName := ⟨RX5, "begins", "(I)V"⟩
abbrev cX5_tell : ByteArray := prog_7_method_71_code
def yX5_tell : MethodName := ⟨RX5, "tell", "(I)I"⟩
abbrev cX5_pinch : ByteArray := prog_7_method_72_code
def yX5_pinch : MethodName := ⟨RX5, "pinch", "(I)I"⟩
abbrev cX5_as : ByteArray := prog_7_method_73_code
def yX5_as : MethodName := ⟨RX5, "as", "(II)I"⟩
abbrev cX5_trace : ByteArray := prog_7_method_74_code
def yX5_trace : MethodName := ⟨RX5, "trace", "()I"⟩
abbrev cX5_fault : ByteArray := prog_7_method_75_code
def yX5_fault : MethodName := ⟨RX5, "fault", "()I"⟩
abbrev cX5_many : ByteArray := prog_7_method_76_code
def yX5_many : MethodName := ⟨RX5, "many", "(I)I"⟩
def RJ6 : String := "java/lang/Integer"
def TJ6 : u_T := fun k => match k with
  | _ => ("", "", "", false)
def tyJ6 : Nat → FieldType := fun k => match k with
  | _ => .int
abbrev wsJ60 : List Cond := u_ws RJ6 TJ6 0
theorem nmJ6 : ∀ a, a < 0 → ∀ b, b < 0 → a ≠ b → (TJ6 a).2.1 ≠ (TJ6 b).2.1 := by decide +kernel
theorem tyJ6_ok : ∀ k, k < 0 → parseFieldDescriptor (TJ6 k).2.2.1 = some (tyJ6 k) := by decide +kernel
abbrev cJ6_bitCount_0f7a4 : ByteArray := prog_8_method_49_code
def yJ6_bitCount_0f7a4 : MethodName := ⟨RJ6, "bitCount", "(I)I"⟩
def RJ10 : String := "java/lang/System"
def TJ10 : u_T := fun k => match k with
  | _ => ("", "", "", false)
def tyJ10 : Nat → FieldType := fun k => match k with
  | _ => .int
abbrev wsJ100 : List Cond := u_ws RJ10 TJ10 0
theorem nmJ10 : ∀ a, a < 0 → ∀ b, b < 0 → a ≠ b → (TJ10 a).2.1 ≠ (TJ10 b).2.1 := by decide +kernel
theorem tyJ10_ok : ∀ k, k < 0 → parseFieldDescriptor (TJ10 k).2.2.1 = some (tyJ10 k) := by decide +kernel
def RJ7 : String := "java/util/Arrays"
def TJ7 : u_T := fun k => match k with
  | _ => ("", "", "", false)
def tyJ7 : Nat → FieldType := fun k => match k with
  | _ => .int
abbrev wsJ70 : List Cond := u_ws RJ7 TJ7 0
theorem nmJ7 : ∀ a, a < 0 → ∀ b, b < 0 → a ≠ b → (TJ7 a).2.1 ≠ (TJ7 b).2.1 := by decide +kernel
theorem tyJ7_ok : ∀ k, k < 0 → parseFieldDescriptor (TJ7 k).2.2.1 = some (tyJ7 k) := by decide +kernel
abbrev cJ7_fill_53178 : ByteArray := prog_10_method_103_code
def yJ7_fill_53178 : MethodName := ⟨RJ7, "fill", "([II)V"⟩
def RL : String := "ColdOathsLaw"
abbrev cL_law : ByteArray := code
def yL_law : MethodName := ⟨RL, "law", "([I)Z"⟩
abbrev vwCl : List vw_C := [(RX0, TX0, 11), (RX1, TX1, 4), (RX2, TX2, 4), (RX3, TX3, 4), (RX4, TX4, 7), (RX5, TX5, 28)]
end
section
theorem dX0_init_0 : decode cX0_init 0 = .ok (.aload_n 0, 1) := by decide +kernel
theorem dX0_init_1 : decode cX0_init 1 = .ok (.invokespecial 3, 3) := by decide +kernel
theorem dX0_init_4 : decode cX0_init 4 = .ok (.aload_n 0, 1) := by decide +kernel
theorem dX0_init_5 : decode cX0_init 5 = .ok (.bipush (-9), 2) := by decide +kernel
theorem dX0_init_7 : decode cX0_init 7 = .ok (.putfield 9, 3) := by decide +kernel
theorem dX0_init_10 : decode cX0_init 10 = .ok (.aload_n 0, 1) := by decide +kernel
theorem dX0_init_11 : decode cX0_init 11 = .ok (.bipush 6, 2) := by decide +kernel
theorem dX0_init_13 : decode cX0_init 13 = .ok (.newarray .int, 2) := by decide +kernel
theorem dX0_init_15 : decode cX0_init 15 = .ok (.putfield 15, 3) := by decide +kernel
theorem dX0_init_18 : decode cX0_init 18 = .ok (.aload_n 0, 1) := by decide +kernel
theorem dX0_init_19 : decode cX0_init 19 = .ok (.iconst 4, 1) := by decide +kernel
theorem dX0_init_20 : decode cX0_init 20 = .ok (.newarray .int, 2) := by decide +kernel
theorem dX0_init_22 : decode cX0_init 22 = .ok (.putfield 19, 3) := by decide +kernel
theorem dX0_init_25 : decode cX0_init 25 = .ok (.aload_n 0, 1) := by decide +kernel
theorem dX0_init_26 : decode cX0_init 26 = .ok (.iconst 4, 1) := by decide +kernel
theorem dX0_init_27 : decode cX0_init 27 = .ok (.newarray .int, 2) := by decide +kernel
theorem dX0_init_29 : decode cX0_init 29 = .ok (.putfield 22, 3) := by decide +kernel
theorem dX0_init_32 : decode cX0_init 32 = .ok (.aload_n 0, 1) := by decide +kernel
theorem dX0_init_33 : decode cX0_init 33 = .ok (.bipush 6, 2) := by decide +kernel
theorem dX0_init_35 : decode cX0_init 35 = .ok (.newarray .int, 2) := by decide +kernel
theorem dX0_init_37 : decode cX0_init 37 = .ok (.putfield 25, 3) := by decide +kernel
theorem dX0_init_40 : decode cX0_init 40 = .ok (.aload_n 0, 1) := by decide +kernel
theorem dX0_init_41 : decode cX0_init 41 = .ok (.bipush 6, 2) := by decide +kernel
theorem dX0_init_43 : decode cX0_init 43 = .ok (.newarray .int, 2) := by decide +kernel
theorem dX0_init_45 : decode cX0_init 45 = .ok (.putfield 28, 3) := by decide +kernel
theorem dX0_init_48 : decode cX0_init 48 = .ok (.aload_n 0, 1) := by decide +kernel
theorem dX0_init_49 : decode cX0_init 49 = .ok (.bipush 6, 2) := by decide +kernel
theorem dX0_init_51 : decode cX0_init 51 = .ok (.newarray .int, 2) := by decide +kernel
theorem dX0_init_53 : decode cX0_init 53 = .ok (.putfield 31, 3) := by decide +kernel
theorem dX0_init_56 : decode cX0_init 56 = .ok (.return_, 1) := by decide +kernel
theorem dX0_clear_0 : decode cX0_clear 0 = .ok (.aload_n 0, 1) := by decide +kernel
theorem dX0_clear_1 : decode cX0_clear 1 = .ok (.iconst 0, 1) := by decide +kernel
theorem dX0_clear_2 : decode cX0_clear 2 = .ok (.putfield 34, 3) := by decide +kernel
theorem dX0_clear_5 : decode cX0_clear 5 = .ok (.aload_n 0, 1) := by decide +kernel
theorem dX0_clear_6 : decode cX0_clear 6 = .ok (.iconst 0, 1) := by decide +kernel
theorem dX0_clear_7 : decode cX0_clear 7 = .ok (.putfield 37, 3) := by decide +kernel
theorem dX0_clear_10 : decode cX0_clear 10 = .ok (.aload_n 0, 1) := by decide +kernel
theorem dX0_clear_11 : decode cX0_clear 11 = .ok (.iconst 0, 1) := by decide +kernel
theorem dX0_clear_12 : decode cX0_clear 12 = .ok (.putfield 40, 3) := by decide +kernel
theorem dX0_clear_15 : decode cX0_clear 15 = .ok (.aload_n 0, 1) := by decide +kernel
theorem dX0_clear_16 : decode cX0_clear 16 = .ok (.bipush (-9), 2) := by decide +kernel
theorem dX0_clear_18 : decode cX0_clear 18 = .ok (.iconst 0, 1) := by decide +kernel
theorem dX0_clear_19 : decode cX0_clear 19 = .ok (.invokevirtual 43, 3) := by decide +kernel
theorem dX0_clear_22 : decode cX0_clear 22 = .ok (.return_, 1) := by decide +kernel
theorem dX0_become_0 : decode cX0_become 0 = .ok (.aload_n 0, 1) := by decide +kernel
theorem dX0_become_1 : decode cX0_become 1 = .ok (.aload_n 1, 1) := by decide +kernel
theorem dX0_become_2 : decode cX0_become 2 = .ok (.getfield 34, 3) := by decide +kernel
theorem dX0_become_5 : decode cX0_become 5 = .ok (.putfield 34, 3) := by decide +kernel
theorem dX0_become_8 : decode cX0_become 8 = .ok (.aload_n 0, 1) := by decide +kernel
theorem dX0_become_9 : decode cX0_become 9 = .ok (.aload_n 1, 1) := by decide +kernel
theorem dX0_become_10 : decode cX0_become 10 = .ok (.getfield 37, 3) := by decide +kernel
theorem dX0_become_13 : decode cX0_become 13 = .ok (.putfield 37, 3) := by decide +kernel
theorem dX0_become_16 : decode cX0_become 16 = .ok (.aload_n 0, 1) := by decide +kernel
theorem dX0_become_17 : decode cX0_become 17 = .ok (.aload_n 1, 1) := by decide +kernel
theorem dX0_become_18 : decode cX0_become 18 = .ok (.getfield 40, 3) := by decide +kernel
theorem dX0_become_21 : decode cX0_become 21 = .ok (.putfield 40, 3) := by decide +kernel
theorem dX0_become_24 : decode cX0_become 24 = .ok (.aload_n 0, 1) := by decide +kernel
theorem dX0_become_25 : decode cX0_become 25 = .ok (.aload_n 1, 1) := by decide +kernel
theorem dX0_become_26 : decode cX0_become 26 = .ok (.getfield 9, 3) := by decide +kernel
theorem dX0_become_29 : decode cX0_become 29 = .ok (.aload_n 1, 1) := by decide +kernel
theorem dX0_become_30 : decode cX0_become 30 = .ok (.getfield 47, 3) := by decide +kernel
theorem dX0_become_33 : decode cX0_become 33 = .ok (.invokevirtual 43, 3) := by decide +kernel
theorem dX0_become_36 : decode cX0_become 36 = .ok (.aload_n 1, 1) := by decide +kernel
theorem dX0_become_37 : decode cX0_become 37 = .ok (.getfield 15, 3) := by decide +kernel
theorem dX0_become_40 : decode cX0_become 40 = .ok (.iconst 0, 1) := by decide +kernel
theorem dX0_become_41 : decode cX0_become 41 = .ok (.aload_n 0, 1) := by decide +kernel
theorem dX0_become_42 : decode cX0_become 42 = .ok (.getfield 15, 3) := by decide +kernel
theorem dX0_become_45 : decode cX0_become 45 = .ok (.iconst 0, 1) := by decide +kernel
theorem dX0_become_46 : decode cX0_become 46 = .ok (.bipush 6, 2) := by decide +kernel
theorem dX0_become_48 : decode cX0_become 48 = .ok (.invokestatic 50, 3) := by decide +kernel
theorem dX0_become_51 : decode cX0_become 51 = .ok (.aload_n 1, 1) := by decide +kernel
theorem dX0_become_52 : decode cX0_become 52 = .ok (.getfield 19, 3) := by decide +kernel
theorem dX0_become_55 : decode cX0_become 55 = .ok (.iconst 0, 1) := by decide +kernel
theorem dX0_become_56 : decode cX0_become 56 = .ok (.aload_n 0, 1) := by decide +kernel
theorem dX0_become_57 : decode cX0_become 57 = .ok (.getfield 19, 3) := by decide +kernel
theorem dX0_become_60 : decode cX0_become 60 = .ok (.iconst 0, 1) := by decide +kernel
theorem dX0_become_61 : decode cX0_become 61 = .ok (.iconst 4, 1) := by decide +kernel
theorem dX0_become_62 : decode cX0_become 62 = .ok (.invokestatic 50, 3) := by decide +kernel
theorem dX0_become_65 : decode cX0_become 65 = .ok (.aload_n 1, 1) := by decide +kernel
theorem dX0_become_66 : decode cX0_become 66 = .ok (.getfield 22, 3) := by decide +kernel
theorem dX0_become_69 : decode cX0_become 69 = .ok (.iconst 0, 1) := by decide +kernel
theorem dX0_become_70 : decode cX0_become 70 = .ok (.aload_n 0, 1) := by decide +kernel
theorem dX0_become_71 : decode cX0_become 71 = .ok (.getfield 22, 3) := by decide +kernel
theorem dX0_become_74 : decode cX0_become 74 = .ok (.iconst 0, 1) := by decide +kernel
theorem dX0_become_75 : decode cX0_become 75 = .ok (.iconst 4, 1) := by decide +kernel
theorem dX0_become_76 : decode cX0_become 76 = .ok (.invokestatic 50, 3) := by decide +kernel
theorem dX0_become_79 : decode cX0_become 79 = .ok (.aload_n 1, 1) := by decide +kernel
theorem dX0_become_80 : decode cX0_become 80 = .ok (.getfield 25, 3) := by decide +kernel
theorem dX0_become_83 : decode cX0_become 83 = .ok (.iconst 0, 1) := by decide +kernel
theorem dX0_become_84 : decode cX0_become 84 = .ok (.aload_n 0, 1) := by decide +kernel
theorem dX0_become_85 : decode cX0_become 85 = .ok (.getfield 25, 3) := by decide +kernel
theorem dX0_become_88 : decode cX0_become 88 = .ok (.iconst 0, 1) := by decide +kernel
theorem dX0_become_89 : decode cX0_become 89 = .ok (.bipush 6, 2) := by decide +kernel
theorem dX0_become_91 : decode cX0_become 91 = .ok (.invokestatic 50, 3) := by decide +kernel
theorem dX0_become_94 : decode cX0_become 94 = .ok (.aload_n 1, 1) := by decide +kernel
theorem dX0_become_95 : decode cX0_become 95 = .ok (.getfield 28, 3) := by decide +kernel
theorem dX0_become_98 : decode cX0_become 98 = .ok (.iconst 0, 1) := by decide +kernel
theorem dX0_become_99 : decode cX0_become 99 = .ok (.aload_n 0, 1) := by decide +kernel
theorem dX0_become_100 : decode cX0_become 100 = .ok (.getfield 28, 3) := by decide +kernel
theorem dX0_become_103 : decode cX0_become 103 = .ok (.iconst 0, 1) := by decide +kernel
theorem dX0_become_104 : decode cX0_become 104 = .ok (.bipush 6, 2) := by decide +kernel
theorem dX0_become_106 : decode cX0_become 106 = .ok (.invokestatic 50, 3) := by decide +kernel
theorem dX0_become_109 : decode cX0_become 109 = .ok (.aload_n 1, 1) := by decide +kernel
theorem dX0_become_110 : decode cX0_become 110 = .ok (.getfield 31, 3) := by decide +kernel
theorem dX0_become_113 : decode cX0_become 113 = .ok (.iconst 0, 1) := by decide +kernel
theorem dX0_become_114 : decode cX0_become 114 = .ok (.aload_n 0, 1) := by decide +kernel
theorem dX0_become_115 : decode cX0_become 115 = .ok (.getfield 31, 3) := by decide +kernel
theorem dX0_become_118 : decode cX0_become 118 = .ok (.iconst 0, 1) := by decide +kernel
theorem dX0_become_119 : decode cX0_become 119 = .ok (.bipush 6, 2) := by decide +kernel
theorem dX0_become_121 : decode cX0_become 121 = .ok (.invokestatic 50, 3) := by decide +kernel
theorem dX0_become_124 : decode cX0_become 124 = .ok (.return_, 1) := by decide +kernel
theorem dX0_hasHour_0 : decode cX0_hasHour 0 = .ok (.iload_n 1, 1) := by decide +kernel
theorem dX0_hasHour_1 : decode cX0_hasHour 1 = .ok (.ifCond .lt 15, 3) := by decide +kernel
theorem dX0_hasHour_4 : decode cX0_hasHour 4 = .ok (.iload_n 1, 1) := by decide +kernel
theorem dX0_hasHour_5 : decode cX0_hasHour 5 = .ok (.aload_n 0, 1) := by decide +kernel
theorem dX0_hasHour_6 : decode cX0_hasHour 6 = .ok (.getfield 34, 3) := by decide +kernel
theorem dX0_hasHour_9 : decode cX0_hasHour 9 = .ok (.if_icmp .ge 7, 3) := by decide +kernel
theorem dX0_hasHour_12 : decode cX0_hasHour 12 = .ok (.iconst 1, 1) := by decide +kernel
theorem dX0_hasHour_13 : decode cX0_hasHour 13 = .ok (.goto 4, 3) := by decide +kernel
theorem dX0_hasHour_16 : decode cX0_hasHour 16 = .ok (.iconst 0, 1) := by decide +kernel
theorem dX0_hasHour_17 : decode cX0_hasHour 17 = .ok (.ireturn, 1) := by decide +kernel
theorem dX0_hasSwearer_0 : decode cX0_hasSwearer 0 = .ok (.iload_n 1, 1) := by decide +kernel
theorem dX0_hasSwearer_1 : decode cX0_hasSwearer 1 = .ok (.ifCond .lt 15, 3) := by decide +kernel
theorem dX0_hasSwearer_4 : decode cX0_hasSwearer 4 = .ok (.iload_n 1, 1) := by decide +kernel
theorem dX0_hasSwearer_5 : decode cX0_hasSwearer 5 = .ok (.aload_n 0, 1) := by decide +kernel
theorem dX0_hasSwearer_6 : decode cX0_hasSwearer 6 = .ok (.getfield 37, 3) := by decide +kernel
theorem dX0_hasSwearer_9 : decode cX0_hasSwearer 9 = .ok (.if_icmp .ge 7, 3) := by decide +kernel
theorem dX0_hasSwearer_12 : decode cX0_hasSwearer 12 = .ok (.iconst 1, 1) := by decide +kernel
theorem dX0_hasSwearer_13 : decode cX0_hasSwearer 13 = .ok (.goto 4, 3) := by decide +kernel
theorem dX0_hasSwearer_16 : decode cX0_hasSwearer 16 = .ok (.iconst 0, 1) := by decide +kernel
theorem dX0_hasSwearer_17 : decode cX0_hasSwearer 17 = .ok (.ireturn, 1) := by decide +kernel
theorem dX0_hasOath_0 : decode cX0_hasOath 0 = .ok (.iload_n 1, 1) := by decide +kernel
theorem dX0_hasOath_1 : decode cX0_hasOath 1 = .ok (.ifCond .lt 15, 3) := by decide +kernel
theorem dX0_hasOath_4 : decode cX0_hasOath 4 = .ok (.iload_n 1, 1) := by decide +kernel
theorem dX0_hasOath_5 : decode cX0_hasOath 5 = .ok (.aload_n 0, 1) := by decide +kernel
theorem dX0_hasOath_6 : decode cX0_hasOath 6 = .ok (.getfield 40, 3) := by decide +kernel
theorem dX0_hasOath_9 : decode cX0_hasOath 9 = .ok (.if_icmp .ge 7, 3) := by decide +kernel
theorem dX0_hasOath_12 : decode cX0_hasOath 12 = .ok (.iconst 1, 1) := by decide +kernel
theorem dX0_hasOath_13 : decode cX0_hasOath 13 = .ok (.goto 4, 3) := by decide +kernel
theorem dX0_hasOath_16 : decode cX0_hasOath 16 = .ok (.iconst 0, 1) := by decide +kernel
theorem dX0_hasOath_17 : decode cX0_hasOath 17 = .ok (.ireturn, 1) := by decide +kernel
theorem dX0_addHour_0 : decode cX0_addHour 0 = .ok (.aload_n 0, 1) := by decide +kernel
theorem dX0_addHour_1 : decode cX0_addHour 1 = .ok (.getfield 34, 3) := by decide +kernel
theorem dX0_addHour_4 : decode cX0_addHour 4 = .ok (.bipush 6, 2) := by decide +kernel
theorem dX0_addHour_6 : decode cX0_addHour 6 = .ok (.if_icmp .ge 23, 3) := by decide +kernel
theorem dX0_addHour_9 : decode cX0_addHour 9 = .ok (.aload_n 0, 1) := by decide +kernel
theorem dX0_addHour_10 : decode cX0_addHour 10 = .ok (.getfield 15, 3) := by decide +kernel
theorem dX0_addHour_13 : decode cX0_addHour 13 = .ok (.aload_n 0, 1) := by decide +kernel
theorem dX0_addHour_14 : decode cX0_addHour 14 = .ok (.getfield 34, 3) := by decide +kernel
theorem dX0_addHour_17 : decode cX0_addHour 17 = .ok (.iload_n 1, 1) := by decide +kernel
theorem dX0_addHour_18 : decode cX0_addHour 18 = .ok (.iastore, 1) := by decide +kernel
theorem dX0_addHour_19 : decode cX0_addHour 19 = .ok (.aload_n 0, 1) := by decide +kernel
theorem dX0_addHour_20 : decode cX0_addHour 20 = .ok (.dup, 1) := by decide +kernel
theorem dX0_addHour_21 : decode cX0_addHour 21 = .ok (.getfield 34, 3) := by decide +kernel
theorem dX0_addHour_24 : decode cX0_addHour 24 = .ok (.iconst 1, 1) := by decide +kernel
theorem dX0_addHour_25 : decode cX0_addHour 25 = .ok (.iadd, 1) := by decide +kernel
theorem dX0_addHour_26 : decode cX0_addHour 26 = .ok (.putfield 34, 3) := by decide +kernel
theorem dX0_addHour_29 : decode cX0_addHour 29 = .ok (.return_, 1) := by decide +kernel
theorem dX0_addSwearer_0 : decode cX0_addSwearer 0 = .ok (.aload_n 0, 1) := by decide +kernel
theorem dX0_addSwearer_1 : decode cX0_addSwearer 1 = .ok (.getfield 37, 3) := by decide +kernel
theorem dX0_addSwearer_4 : decode cX0_addSwearer 4 = .ok (.iconst 4, 1) := by decide +kernel
theorem dX0_addSwearer_5 : decode cX0_addSwearer 5 = .ok (.if_icmp .ge 33, 3) := by decide +kernel
theorem dX0_addSwearer_8 : decode cX0_addSwearer 8 = .ok (.aload_n 0, 1) := by decide +kernel
theorem dX0_addSwearer_9 : decode cX0_addSwearer 9 = .ok (.getfield 19, 3) := by decide +kernel
theorem dX0_addSwearer_12 : decode cX0_addSwearer 12 = .ok (.aload_n 0, 1) := by decide +kernel
theorem dX0_addSwearer_13 : decode cX0_addSwearer 13 = .ok (.getfield 37, 3) := by decide +kernel
theorem dX0_addSwearer_16 : decode cX0_addSwearer 16 = .ok (.iload_n 1, 1) := by decide +kernel
theorem dX0_addSwearer_17 : decode cX0_addSwearer 17 = .ok (.iastore, 1) := by decide +kernel
theorem dX0_addSwearer_18 : decode cX0_addSwearer 18 = .ok (.aload_n 0, 1) := by decide +kernel
theorem dX0_addSwearer_19 : decode cX0_addSwearer 19 = .ok (.getfield 22, 3) := by decide +kernel
theorem dX0_addSwearer_22 : decode cX0_addSwearer 22 = .ok (.aload_n 0, 1) := by decide +kernel
theorem dX0_addSwearer_23 : decode cX0_addSwearer 23 = .ok (.getfield 37, 3) := by decide +kernel
theorem dX0_addSwearer_26 : decode cX0_addSwearer 26 = .ok (.iload_n 2, 1) := by decide +kernel
theorem dX0_addSwearer_27 : decode cX0_addSwearer 27 = .ok (.iastore, 1) := by decide +kernel
theorem dX0_addSwearer_28 : decode cX0_addSwearer 28 = .ok (.aload_n 0, 1) := by decide +kernel
theorem dX0_addSwearer_29 : decode cX0_addSwearer 29 = .ok (.dup, 1) := by decide +kernel
theorem dX0_addSwearer_30 : decode cX0_addSwearer 30 = .ok (.getfield 37, 3) := by decide +kernel
theorem dX0_addSwearer_33 : decode cX0_addSwearer 33 = .ok (.iconst 1, 1) := by decide +kernel
theorem dX0_addSwearer_34 : decode cX0_addSwearer 34 = .ok (.iadd, 1) := by decide +kernel
theorem dX0_addSwearer_35 : decode cX0_addSwearer 35 = .ok (.putfield 37, 3) := by decide +kernel
theorem dX0_addSwearer_38 : decode cX0_addSwearer 38 = .ok (.return_, 1) := by decide +kernel
theorem dX0_addOath_0 : decode cX0_addOath 0 = .ok (.aload_n 0, 1) := by decide +kernel
theorem dX0_addOath_1 : decode cX0_addOath 1 = .ok (.getfield 40, 3) := by decide +kernel
theorem dX0_addOath_4 : decode cX0_addOath 4 = .ok (.bipush 6, 2) := by decide +kernel
theorem dX0_addOath_6 : decode cX0_addOath 6 = .ok (.if_icmp .ge 43, 3) := by decide +kernel
theorem dX0_addOath_9 : decode cX0_addOath 9 = .ok (.aload_n 0, 1) := by decide +kernel
theorem dX0_addOath_10 : decode cX0_addOath 10 = .ok (.getfield 25, 3) := by decide +kernel
theorem dX0_addOath_13 : decode cX0_addOath 13 = .ok (.aload_n 0, 1) := by decide +kernel
theorem dX0_addOath_14 : decode cX0_addOath 14 = .ok (.getfield 40, 3) := by decide +kernel
theorem dX0_addOath_17 : decode cX0_addOath 17 = .ok (.iload_n 1, 1) := by decide +kernel
theorem dX0_addOath_18 : decode cX0_addOath 18 = .ok (.iastore, 1) := by decide +kernel
theorem dX0_addOath_19 : decode cX0_addOath 19 = .ok (.aload_n 0, 1) := by decide +kernel
theorem dX0_addOath_20 : decode cX0_addOath 20 = .ok (.getfield 28, 3) := by decide +kernel
theorem dX0_addOath_23 : decode cX0_addOath 23 = .ok (.aload_n 0, 1) := by decide +kernel
theorem dX0_addOath_24 : decode cX0_addOath 24 = .ok (.getfield 40, 3) := by decide +kernel
theorem dX0_addOath_27 : decode cX0_addOath 27 = .ok (.iload_n 2, 1) := by decide +kernel
theorem dX0_addOath_28 : decode cX0_addOath 28 = .ok (.iastore, 1) := by decide +kernel
theorem dX0_addOath_29 : decode cX0_addOath 29 = .ok (.aload_n 0, 1) := by decide +kernel
theorem dX0_addOath_30 : decode cX0_addOath 30 = .ok (.getfield 31, 3) := by decide +kernel
theorem dX0_addOath_33 : decode cX0_addOath 33 = .ok (.aload_n 0, 1) := by decide +kernel
theorem dX0_addOath_34 : decode cX0_addOath 34 = .ok (.getfield 40, 3) := by decide +kernel
theorem dX0_addOath_37 : decode cX0_addOath 37 = .ok (.iload_n 3, 1) := by decide +kernel
theorem dX0_addOath_38 : decode cX0_addOath 38 = .ok (.iastore, 1) := by decide +kernel
theorem dX0_addOath_39 : decode cX0_addOath 39 = .ok (.aload_n 0, 1) := by decide +kernel
theorem dX0_addOath_40 : decode cX0_addOath 40 = .ok (.dup, 1) := by decide +kernel
theorem dX0_addOath_41 : decode cX0_addOath 41 = .ok (.getfield 40, 3) := by decide +kernel
theorem dX0_addOath_44 : decode cX0_addOath 44 = .ok (.iconst 1, 1) := by decide +kernel
theorem dX0_addOath_45 : decode cX0_addOath 45 = .ok (.iadd, 1) := by decide +kernel
theorem dX0_addOath_46 : decode cX0_addOath 46 = .ok (.putfield 40, 3) := by decide +kernel
theorem dX0_addOath_49 : decode cX0_addOath 49 = .ok (.return_, 1) := by decide +kernel
theorem dX0_dropOath_0 : decode cX0_dropOath 0 = .ok (.aload_n 0, 1) := by decide +kernel
theorem dX0_dropOath_1 : decode cX0_dropOath 1 = .ok (.iload_n 1, 1) := by decide +kernel
theorem dX0_dropOath_2 : decode cX0_dropOath 2 = .ok (.invokevirtual 56, 3) := by decide +kernel
theorem dX0_dropOath_5 : decode cX0_dropOath 5 = .ok (.ifCond .ne 4, 3) := by decide +kernel
theorem dX0_dropOath_8 : decode cX0_dropOath 8 = .ok (.return_, 1) := by decide +kernel
theorem dX0_dropOath_9 : decode cX0_dropOath 9 = .ok (.iload_n 1, 1) := by decide +kernel
theorem dX0_dropOath_10 : decode cX0_dropOath 10 = .ok (.iconst 1, 1) := by decide +kernel
theorem dX0_dropOath_11 : decode cX0_dropOath 11 = .ok (.iadd, 1) := by decide +kernel
theorem dX0_dropOath_12 : decode cX0_dropOath 12 = .ok (.istore_n 2, 1) := by decide +kernel
theorem dX0_dropOath_13 : decode cX0_dropOath 13 = .ok (.iload_n 2, 1) := by decide +kernel
theorem dX0_dropOath_14 : decode cX0_dropOath 14 = .ok (.aload_n 0, 1) := by decide +kernel
theorem dX0_dropOath_15 : decode cX0_dropOath 15 = .ok (.getfield 40, 3) := by decide +kernel
theorem dX0_dropOath_18 : decode cX0_dropOath 18 = .ok (.if_icmp .ge 51, 3) := by decide +kernel
theorem dX0_dropOath_21 : decode cX0_dropOath 21 = .ok (.aload_n 0, 1) := by decide +kernel
theorem dX0_dropOath_22 : decode cX0_dropOath 22 = .ok (.getfield 25, 3) := by decide +kernel
theorem dX0_dropOath_25 : decode cX0_dropOath 25 = .ok (.iload_n 2, 1) := by decide +kernel
theorem dX0_dropOath_26 : decode cX0_dropOath 26 = .ok (.iconst 1, 1) := by decide +kernel
theorem dX0_dropOath_27 : decode cX0_dropOath 27 = .ok (.isub, 1) := by decide +kernel
theorem dX0_dropOath_28 : decode cX0_dropOath 28 = .ok (.aload_n 0, 1) := by decide +kernel
theorem dX0_dropOath_29 : decode cX0_dropOath 29 = .ok (.getfield 25, 3) := by decide +kernel
theorem dX0_dropOath_32 : decode cX0_dropOath 32 = .ok (.iload_n 2, 1) := by decide +kernel
theorem dX0_dropOath_33 : decode cX0_dropOath 33 = .ok (.iaload, 1) := by decide +kernel
theorem dX0_dropOath_34 : decode cX0_dropOath 34 = .ok (.iastore, 1) := by decide +kernel
theorem dX0_dropOath_35 : decode cX0_dropOath 35 = .ok (.aload_n 0, 1) := by decide +kernel
theorem dX0_dropOath_36 : decode cX0_dropOath 36 = .ok (.getfield 28, 3) := by decide +kernel
theorem dX0_dropOath_39 : decode cX0_dropOath 39 = .ok (.iload_n 2, 1) := by decide +kernel
theorem dX0_dropOath_40 : decode cX0_dropOath 40 = .ok (.iconst 1, 1) := by decide +kernel
theorem dX0_dropOath_41 : decode cX0_dropOath 41 = .ok (.isub, 1) := by decide +kernel
theorem dX0_dropOath_42 : decode cX0_dropOath 42 = .ok (.aload_n 0, 1) := by decide +kernel
theorem dX0_dropOath_43 : decode cX0_dropOath 43 = .ok (.getfield 28, 3) := by decide +kernel
theorem dX0_dropOath_46 : decode cX0_dropOath 46 = .ok (.iload_n 2, 1) := by decide +kernel
theorem dX0_dropOath_47 : decode cX0_dropOath 47 = .ok (.iaload, 1) := by decide +kernel
theorem dX0_dropOath_48 : decode cX0_dropOath 48 = .ok (.iastore, 1) := by decide +kernel
theorem dX0_dropOath_49 : decode cX0_dropOath 49 = .ok (.aload_n 0, 1) := by decide +kernel
theorem dX0_dropOath_50 : decode cX0_dropOath 50 = .ok (.getfield 31, 3) := by decide +kernel
theorem dX0_dropOath_53 : decode cX0_dropOath 53 = .ok (.iload_n 2, 1) := by decide +kernel
theorem dX0_dropOath_54 : decode cX0_dropOath 54 = .ok (.iconst 1, 1) := by decide +kernel
theorem dX0_dropOath_55 : decode cX0_dropOath 55 = .ok (.isub, 1) := by decide +kernel
theorem dX0_dropOath_56 : decode cX0_dropOath 56 = .ok (.aload_n 0, 1) := by decide +kernel
theorem dX0_dropOath_57 : decode cX0_dropOath 57 = .ok (.getfield 31, 3) := by decide +kernel
theorem dX0_dropOath_60 : decode cX0_dropOath 60 = .ok (.iload_n 2, 1) := by decide +kernel
theorem dX0_dropOath_61 : decode cX0_dropOath 61 = .ok (.iaload, 1) := by decide +kernel
theorem dX0_dropOath_62 : decode cX0_dropOath 62 = .ok (.iastore, 1) := by decide +kernel
theorem dX0_dropOath_63 : decode cX0_dropOath 63 = .ok (.iinc 2 1, 3) := by decide +kernel
theorem dX0_dropOath_66 : decode cX0_dropOath 66 = .ok (.goto (-53), 3) := by decide +kernel
theorem dX0_dropOath_69 : decode cX0_dropOath 69 = .ok (.aload_n 0, 1) := by decide +kernel
theorem dX0_dropOath_70 : decode cX0_dropOath 70 = .ok (.dup, 1) := by decide +kernel
theorem dX0_dropOath_71 : decode cX0_dropOath 71 = .ok (.getfield 40, 3) := by decide +kernel
theorem dX0_dropOath_74 : decode cX0_dropOath 74 = .ok (.iconst 1, 1) := by decide +kernel
theorem dX0_dropOath_75 : decode cX0_dropOath 75 = .ok (.isub, 1) := by decide +kernel
theorem dX0_dropOath_76 : decode cX0_dropOath 76 = .ok (.putfield 40, 3) := by decide +kernel
theorem dX0_dropOath_79 : decode cX0_dropOath 79 = .ok (.return_, 1) := by decide +kernel
theorem dX0_putStove_0 : decode cX0_putStove 0 = .ok (.aload_n 0, 1) := by decide +kernel
theorem dX0_putStove_1 : decode cX0_putStove 1 = .ok (.iload_n 1, 1) := by decide +kernel
theorem dX0_putStove_2 : decode cX0_putStove 2 = .ok (.putfield 9, 3) := by decide +kernel
theorem dX0_putStove_5 : decode cX0_putStove 5 = .ok (.aload_n 0, 1) := by decide +kernel
theorem dX0_putStove_6 : decode cX0_putStove 6 = .ok (.iload_n 2, 1) := by decide +kernel
theorem dX0_putStove_7 : decode cX0_putStove 7 = .ok (.putfield 47, 3) := by decide +kernel
theorem dX0_putStove_10 : decode cX0_putStove 10 = .ok (.return_, 1) := by decide +kernel
theorem dX0_takesAct_0 : decode cX0_takesAct 0 = .ok (.iload_n 2, 1) := by decide +kernel
theorem dX0_takesAct_1 : decode cX0_takesAct 1 = .ok (.bipush 17, 2) := by decide +kernel
theorem dX0_takesAct_3 : decode cX0_takesAct 3 = .ok (.if_icmp .ne 12, 3) := by decide +kernel
theorem dX0_takesAct_6 : decode cX0_takesAct 6 = .ok (.aload_n 0, 1) := by decide +kernel
theorem dX0_takesAct_7 : decode cX0_takesAct 7 = .ok (.bipush (-9), 2) := by decide +kernel
theorem dX0_takesAct_9 : decode cX0_takesAct 9 = .ok (.iconst 0, 1) := by decide +kernel
theorem dX0_takesAct_10 : decode cX0_takesAct 10 = .ok (.invokevirtual 43, 3) := by decide +kernel
theorem dX0_takesAct_13 : decode cX0_takesAct 13 = .ok (.iconst 1, 1) := by decide +kernel
theorem dX0_takesAct_14 : decode cX0_takesAct 14 = .ok (.ireturn, 1) := by decide +kernel
theorem dX0_takesAct_15 : decode cX0_takesAct 15 = .ok (.iload_n 2, 1) := by decide +kernel
theorem dX0_takesAct_16 : decode cX0_takesAct 16 = .ok (.bipush 11, 2) := by decide +kernel
theorem dX0_takesAct_18 : decode cX0_takesAct 18 = .ok (.if_icmp .lt 13, 3) := by decide +kernel
theorem dX0_takesAct_21 : decode cX0_takesAct 21 = .ok (.aload_n 0, 1) := by decide +kernel
theorem dX0_takesAct_22 : decode cX0_takesAct 22 = .ok (.iload_n 2, 1) := by decide +kernel
theorem dX0_takesAct_23 : decode cX0_takesAct 23 = .ok (.bipush 11, 2) := by decide +kernel
theorem dX0_takesAct_25 : decode cX0_takesAct 25 = .ok (.isub, 1) := by decide +kernel
theorem dX0_takesAct_26 : decode cX0_takesAct 26 = .ok (.iload_n 1, 1) := by decide +kernel
theorem dX0_takesAct_27 : decode cX0_takesAct 27 = .ok (.invokevirtual 60, 3) := by decide +kernel
theorem dX0_takesAct_30 : decode cX0_takesAct 30 = .ok (.ireturn, 1) := by decide +kernel
theorem dX0_takesAct_31 : decode cX0_takesAct 31 = .ok (.iload_n 2, 1) := by decide +kernel
theorem dX0_takesAct_32 : decode cX0_takesAct 32 = .ok (.bipush 10, 2) := by decide +kernel
theorem dX0_takesAct_34 : decode cX0_takesAct 34 = .ok (.if_icmp .ne 16, 3) := by decide +kernel
theorem dX0_takesAct_37 : decode cX0_takesAct 37 = .ok (.aload_n 0, 1) := by decide +kernel
theorem dX0_takesAct_38 : decode cX0_takesAct 38 = .ok (.iload_n 1, 1) := by decide +kernel
theorem dX0_takesAct_39 : decode cX0_takesAct 39 = .ok (.invokevirtual 56, 3) := by decide +kernel
theorem dX0_takesAct_42 : decode cX0_takesAct 42 = .ok (.istore_n 3, 1) := by decide +kernel
theorem dX0_takesAct_43 : decode cX0_takesAct 43 = .ok (.aload_n 0, 1) := by decide +kernel
theorem dX0_takesAct_44 : decode cX0_takesAct 44 = .ok (.iload_n 1, 1) := by decide +kernel
theorem dX0_takesAct_45 : decode cX0_takesAct 45 = .ok (.invokevirtual 64, 3) := by decide +kernel
theorem dX0_takesAct_48 : decode cX0_takesAct 48 = .ok (.iload_n 3, 1) := by decide +kernel
theorem dX0_takesAct_49 : decode cX0_takesAct 49 = .ok (.ireturn, 1) := by decide +kernel
theorem dX0_takesAct_50 : decode cX0_takesAct 50 = .ok (.iload_n 2, 1) := by decide +kernel
theorem dX0_takesAct_51 : decode cX0_takesAct 51 = .ok (.iconst 4, 1) := by decide +kernel
theorem dX0_takesAct_52 : decode cX0_takesAct 52 = .ok (.if_icmp .lt 12, 3) := by decide +kernel
theorem dX0_takesAct_55 : decode cX0_takesAct 55 = .ok (.aload_n 0, 1) := by decide +kernel
theorem dX0_takesAct_56 : decode cX0_takesAct 56 = .ok (.iload_n 2, 1) := by decide +kernel
theorem dX0_takesAct_57 : decode cX0_takesAct 57 = .ok (.iconst 4, 1) := by decide +kernel
theorem dX0_takesAct_58 : decode cX0_takesAct 58 = .ok (.isub, 1) := by decide +kernel
theorem dX0_takesAct_59 : decode cX0_takesAct 59 = .ok (.iload_n 1, 1) := by decide +kernel
theorem dX0_takesAct_60 : decode cX0_takesAct 60 = .ok (.invokevirtual 68, 3) := by decide +kernel
theorem dX0_takesAct_63 : decode cX0_takesAct 63 = .ok (.ireturn, 1) := by decide +kernel
theorem dX0_takesAct_64 : decode cX0_takesAct 64 = .ok (.aload_n 0, 1) := by decide +kernel
theorem dX0_takesAct_65 : decode cX0_takesAct 65 = .ok (.iload_n 2, 1) := by decide +kernel
theorem dX0_takesAct_66 : decode cX0_takesAct 66 = .ok (.iload_n 1, 1) := by decide +kernel
theorem dX0_takesAct_67 : decode cX0_takesAct 67 = .ok (.invokevirtual 71, 3) := by decide +kernel
theorem dX0_takesAct_70 : decode cX0_takesAct 70 = .ok (.ireturn, 1) := by decide +kernel
theorem dX0_takesStove_0 : decode cX0_takesStove 0 = .ok (.aload_n 0, 1) := by decide +kernel
theorem dX0_takesStove_1 : decode cX0_takesStove 1 = .ok (.iload_n 1, 1) := by decide +kernel
theorem dX0_takesStove_2 : decode cX0_takesStove 2 = .ok (.invokevirtual 74, 3) := by decide +kernel
theorem dX0_takesStove_5 : decode cX0_takesStove 5 = .ok (.ifCond .ne 5, 3) := by decide +kernel
theorem dX0_takesStove_8 : decode cX0_takesStove 8 = .ok (.iconst 0, 1) := by decide +kernel
theorem dX0_takesStove_9 : decode cX0_takesStove 9 = .ok (.ireturn, 1) := by decide +kernel
theorem dX0_takesStove_10 : decode cX0_takesStove 10 = .ok (.aload_n 0, 1) := by decide +kernel
theorem dX0_takesStove_11 : decode cX0_takesStove 11 = .ok (.iload_n 1, 1) := by decide +kernel
theorem dX0_takesStove_12 : decode cX0_takesStove 12 = .ok (.iload_n 2, 1) := by decide +kernel
theorem dX0_takesStove_13 : decode cX0_takesStove 13 = .ok (.invokevirtual 43, 3) := by decide +kernel
theorem dX0_takesStove_16 : decode cX0_takesStove 16 = .ok (.iconst 1, 1) := by decide +kernel
theorem dX0_takesStove_17 : decode cX0_takesStove 17 = .ok (.ireturn, 1) := by decide +kernel
theorem dX0_takesFrost_0 : decode cX0_takesFrost 0 = .ok (.aload_n 0, 1) := by decide +kernel
theorem dX0_takesFrost_1 : decode cX0_takesFrost 1 = .ok (.iload_n 1, 1) := by decide +kernel
theorem dX0_takesFrost_2 : decode cX0_takesFrost 2 = .ok (.invokevirtual 74, 3) := by decide +kernel
theorem dX0_takesFrost_5 : decode cX0_takesFrost 5 = .ok (.ifCond .ne 5, 3) := by decide +kernel
theorem dX0_takesFrost_8 : decode cX0_takesFrost 8 = .ok (.iconst 0, 1) := by decide +kernel
theorem dX0_takesFrost_9 : decode cX0_takesFrost 9 = .ok (.ireturn, 1) := by decide +kernel
theorem dX0_takesFrost_10 : decode cX0_takesFrost 10 = .ok (.aload_n 0, 1) := by decide +kernel
theorem dX0_takesFrost_11 : decode cX0_takesFrost 11 = .ok (.getfield 15, 3) := by decide +kernel
theorem dX0_takesFrost_14 : decode cX0_takesFrost 14 = .ok (.iload_n 1, 1) := by decide +kernel
theorem dX0_takesFrost_15 : decode cX0_takesFrost 15 = .ok (.iload_n 2, 1) := by decide +kernel
theorem dX0_takesFrost_16 : decode cX0_takesFrost 16 = .ok (.iastore, 1) := by decide +kernel
theorem dX0_takesFrost_17 : decode cX0_takesFrost 17 = .ok (.iconst 1, 1) := by decide +kernel
theorem dX0_takesFrost_18 : decode cX0_takesFrost 18 = .ok (.ireturn, 1) := by decide +kernel
theorem dX0_takesCoat_0 : decode cX0_takesCoat 0 = .ok (.aload_n 0, 1) := by decide +kernel
theorem dX0_takesCoat_1 : decode cX0_takesCoat 1 = .ok (.iload_n 1, 1) := by decide +kernel
theorem dX0_takesCoat_2 : decode cX0_takesCoat 2 = .ok (.invokevirtual 77, 3) := by decide +kernel
theorem dX0_takesCoat_5 : decode cX0_takesCoat 5 = .ok (.ifCond .ne 5, 3) := by decide +kernel
theorem dX0_takesCoat_8 : decode cX0_takesCoat 8 = .ok (.iconst 0, 1) := by decide +kernel
theorem dX0_takesCoat_9 : decode cX0_takesCoat 9 = .ok (.ireturn, 1) := by decide +kernel
theorem dX0_takesCoat_10 : decode cX0_takesCoat 10 = .ok (.aload_n 0, 1) := by decide +kernel
theorem dX0_takesCoat_11 : decode cX0_takesCoat 11 = .ok (.getfield 22, 3) := by decide +kernel
theorem dX0_takesCoat_14 : decode cX0_takesCoat 14 = .ok (.iload_n 1, 1) := by decide +kernel
theorem dX0_takesCoat_15 : decode cX0_takesCoat 15 = .ok (.iload_n 2, 1) := by decide +kernel
theorem dX0_takesCoat_16 : decode cX0_takesCoat 16 = .ok (.iastore, 1) := by decide +kernel
theorem dX0_takesCoat_17 : decode cX0_takesCoat 17 = .ok (.iconst 1, 1) := by decide +kernel
theorem dX0_takesCoat_18 : decode cX0_takesCoat 18 = .ok (.ireturn, 1) := by decide +kernel
theorem dX0_warmth_0 : decode cX0_warmth 0 = .ok (.aload_n 0, 1) := by decide +kernel
theorem dX0_warmth_1 : decode cX0_warmth 1 = .ok (.getfield 19, 3) := by decide +kernel
theorem dX0_warmth_4 : decode cX0_warmth 4 = .ok (.iload_n 1, 1) := by decide +kernel
theorem dX0_warmth_5 : decode cX0_warmth 5 = .ok (.iaload, 1) := by decide +kernel
theorem dX0_warmth_6 : decode cX0_warmth 6 = .ok (.lookupswitch 44 #[(1, 35), (2, 26)], 26) := by decide +kernel
theorem dX0_warmth_32 : decode cX0_warmth 32 = .ok (.iconst 2, 1) := by decide +kernel
theorem dX0_warmth_33 : decode cX0_warmth 33 = .ok (.aload_n 0, 1) := by decide +kernel
theorem dX0_warmth_34 : decode cX0_warmth 34 = .ok (.getfield 22, 3) := by decide +kernel
theorem dX0_warmth_37 : decode cX0_warmth 37 = .ok (.iload_n 1, 1) := by decide +kernel
theorem dX0_warmth_38 : decode cX0_warmth 38 = .ok (.iaload, 1) := by decide +kernel
theorem dX0_warmth_39 : decode cX0_warmth 39 = .ok (.imul, 1) := by decide +kernel
theorem dX0_warmth_40 : decode cX0_warmth 40 = .ok (.ireturn, 1) := by decide +kernel
theorem dX0_warmth_41 : decode cX0_warmth 41 = .ok (.aload_n 0, 1) := by decide +kernel
theorem dX0_warmth_42 : decode cX0_warmth 42 = .ok (.getfield 22, 3) := by decide +kernel
theorem dX0_warmth_45 : decode cX0_warmth 45 = .ok (.iload_n 1, 1) := by decide +kernel
theorem dX0_warmth_46 : decode cX0_warmth 46 = .ok (.iaload, 1) := by decide +kernel
theorem dX0_warmth_47 : decode cX0_warmth 47 = .ok (.iconst 1, 1) := by decide +kernel
theorem dX0_warmth_48 : decode cX0_warmth 48 = .ok (.iadd, 1) := by decide +kernel
theorem dX0_warmth_49 : decode cX0_warmth 49 = .ok (.ireturn, 1) := by decide +kernel
theorem dX0_warmth_50 : decode cX0_warmth 50 = .ok (.aload_n 0, 1) := by decide +kernel
theorem dX0_warmth_51 : decode cX0_warmth 51 = .ok (.getfield 22, 3) := by decide +kernel
theorem dX0_warmth_54 : decode cX0_warmth 54 = .ok (.iload_n 1, 1) := by decide +kernel
theorem dX0_warmth_55 : decode cX0_warmth 55 = .ok (.iaload, 1) := by decide +kernel
theorem dX0_warmth_56 : decode cX0_warmth 56 = .ok (.ireturn, 1) := by decide +kernel
theorem dX0_chillOf_0 : decode cX0_chillOf 0 = .ok (.aload_n 0, 1) := by decide +kernel
theorem dX0_chillOf_1 : decode cX0_chillOf 1 = .ok (.getfield 9, 3) := by decide +kernel
theorem dX0_chillOf_4 : decode cX0_chillOf 4 = .ok (.iload_n 2, 1) := by decide +kernel
theorem dX0_chillOf_5 : decode cX0_chillOf 5 = .ok (.if_icmp .ne 10, 3) := by decide +kernel
theorem dX0_chillOf_8 : decode cX0_chillOf 8 = .ok (.aload_n 0, 1) := by decide +kernel
theorem dX0_chillOf_9 : decode cX0_chillOf 9 = .ok (.getfield 47, 3) := by decide +kernel
theorem dX0_chillOf_12 : decode cX0_chillOf 12 = .ok (.goto 4, 3) := by decide +kernel
theorem dX0_chillOf_15 : decode cX0_chillOf 15 = .ok (.iconst 0, 1) := by decide +kernel
theorem dX0_chillOf_16 : decode cX0_chillOf 16 = .ok (.istore_n 3, 1) := by decide +kernel
theorem dX0_chillOf_17 : decode cX0_chillOf 17 = .ok (.aload_n 0, 1) := by decide +kernel
theorem dX0_chillOf_18 : decode cX0_chillOf 18 = .ok (.getfield 15, 3) := by decide +kernel
theorem dX0_chillOf_21 : decode cX0_chillOf 21 = .ok (.iload_n 2, 1) := by decide +kernel
theorem dX0_chillOf_22 : decode cX0_chillOf 22 = .ok (.iaload, 1) := by decide +kernel
theorem dX0_chillOf_23 : decode cX0_chillOf 23 = .ok (.iload_n 3, 1) := by decide +kernel
theorem dX0_chillOf_24 : decode cX0_chillOf 24 = .ok (.isub, 1) := by decide +kernel
theorem dX0_chillOf_25 : decode cX0_chillOf 25 = .ok (.aload_n 0, 1) := by decide +kernel
theorem dX0_chillOf_26 : decode cX0_chillOf 26 = .ok (.iload_n 1, 1) := by decide +kernel
theorem dX0_chillOf_27 : decode cX0_chillOf 27 = .ok (.invokevirtual 80, 3) := by decide +kernel
theorem dX0_chillOf_30 : decode cX0_chillOf 30 = .ok (.isub, 1) := by decide +kernel
theorem dX0_chillOf_31 : decode cX0_chillOf 31 = .ok (.ireturn, 1) := by decide +kernel
theorem dX0_isCold_0 : decode cX0_isCold 0 = .ok (.aload_n 0, 1) := by decide +kernel
theorem dX0_isCold_1 : decode cX0_isCold 1 = .ok (.iload_n 1, 1) := by decide +kernel
theorem dX0_isCold_2 : decode cX0_isCold 2 = .ok (.iload_n 2, 1) := by decide +kernel
theorem dX0_isCold_3 : decode cX0_isCold 3 = .ok (.invokevirtual 84, 3) := by decide +kernel
theorem dX0_isCold_6 : decode cX0_isCold 6 = .ok (.ifCond .le 7, 3) := by decide +kernel
theorem dX0_isCold_9 : decode cX0_isCold 9 = .ok (.iconst 1, 1) := by decide +kernel
theorem dX0_isCold_10 : decode cX0_isCold 10 = .ok (.goto 4, 3) := by decide +kernel
theorem dX0_isCold_13 : decode cX0_isCold 13 = .ok (.iconst 0, 1) := by decide +kernel
theorem dX0_isCold_14 : decode cX0_isCold 14 = .ok (.ireturn, 1) := by decide +kernel
theorem dX0_binds_0 : decode cX0_binds 0 = .ok (.aload_n 0, 1) := by decide +kernel
theorem dX0_binds_1 : decode cX0_binds 1 = .ok (.aload_n 0, 1) := by decide +kernel
theorem dX0_binds_2 : decode cX0_binds 2 = .ok (.getfield 25, 3) := by decide +kernel
theorem dX0_binds_5 : decode cX0_binds 5 = .ok (.iload_n 1, 1) := by decide +kernel
theorem dX0_binds_6 : decode cX0_binds 6 = .ok (.iaload, 1) := by decide +kernel
theorem dX0_binds_7 : decode cX0_binds 7 = .ok (.aload_n 0, 1) := by decide +kernel
theorem dX0_binds_8 : decode cX0_binds 8 = .ok (.getfield 31, 3) := by decide +kernel
theorem dX0_binds_11 : decode cX0_binds 11 = .ok (.iload_n 1, 1) := by decide +kernel
theorem dX0_binds_12 : decode cX0_binds 12 = .ok (.iaload, 1) := by decide +kernel
theorem dX0_binds_13 : decode cX0_binds 13 = .ok (.invokevirtual 84, 3) := by decide +kernel
theorem dX0_binds_16 : decode cX0_binds 16 = .ok (.ifCond .le 7, 3) := by decide +kernel
theorem dX0_binds_19 : decode cX0_binds 19 = .ok (.iconst 1, 1) := by decide +kernel
theorem dX0_binds_20 : decode cX0_binds 20 = .ok (.goto 4, 3) := by decide +kernel
theorem dX0_binds_23 : decode cX0_binds 23 = .ok (.iconst 0, 1) := by decide +kernel
theorem dX0_binds_24 : decode cX0_binds 24 = .ok (.ireturn, 1) := by decide +kernel
theorem dX0_coldHours_0 : decode cX0_coldHours 0 = .ok (.iconst 0, 1) := by decide +kernel
theorem dX0_coldHours_1 : decode cX0_coldHours 1 = .ok (.istore_n 2, 1) := by decide +kernel
theorem dX0_coldHours_2 : decode cX0_coldHours 2 = .ok (.iconst 0, 1) := by decide +kernel
theorem dX0_coldHours_3 : decode cX0_coldHours 3 = .ok (.istore_n 3, 1) := by decide +kernel
theorem dX0_coldHours_4 : decode cX0_coldHours 4 = .ok (.iload_n 3, 1) := by decide +kernel
theorem dX0_coldHours_5 : decode cX0_coldHours 5 = .ok (.aload_n 0, 1) := by decide +kernel
theorem dX0_coldHours_6 : decode cX0_coldHours 6 = .ok (.getfield 34, 3) := by decide +kernel
theorem dX0_coldHours_9 : decode cX0_coldHours 9 = .ok (.if_icmp .ge 28, 3) := by decide +kernel
theorem dX0_coldHours_12 : decode cX0_coldHours 12 = .ok (.iload_n 2, 1) := by decide +kernel
theorem dX0_coldHours_13 : decode cX0_coldHours 13 = .ok (.aload_n 0, 1) := by decide +kernel
theorem dX0_coldHours_14 : decode cX0_coldHours 14 = .ok (.iload_n 1, 1) := by decide +kernel
theorem dX0_coldHours_15 : decode cX0_coldHours 15 = .ok (.iload_n 3, 1) := by decide +kernel
theorem dX0_coldHours_16 : decode cX0_coldHours 16 = .ok (.invokevirtual 88, 3) := by decide +kernel
theorem dX0_coldHours_19 : decode cX0_coldHours 19 = .ok (.ifCond .eq 9, 3) := by decide +kernel
theorem dX0_coldHours_22 : decode cX0_coldHours 22 = .ok (.iconst 1, 1) := by decide +kernel
theorem dX0_coldHours_23 : decode cX0_coldHours 23 = .ok (.iload_n 3, 1) := by decide +kernel
theorem dX0_coldHours_24 : decode cX0_coldHours 24 = .ok (.ishl, 1) := by decide +kernel
theorem dX0_coldHours_25 : decode cX0_coldHours 25 = .ok (.goto 4, 3) := by decide +kernel
theorem dX0_coldHours_28 : decode cX0_coldHours 28 = .ok (.iconst 0, 1) := by decide +kernel
theorem dX0_coldHours_29 : decode cX0_coldHours 29 = .ok (.ior, 1) := by decide +kernel
theorem dX0_coldHours_30 : decode cX0_coldHours 30 = .ok (.istore_n 2, 1) := by decide +kernel
theorem dX0_coldHours_31 : decode cX0_coldHours 31 = .ok (.iinc 3 1, 3) := by decide +kernel
theorem dX0_coldHours_34 : decode cX0_coldHours 34 = .ok (.goto (-30), 3) := by decide +kernel
theorem dX0_coldHours_37 : decode cX0_coldHours 37 = .ok (.iload_n 2, 1) := by decide +kernel
theorem dX0_coldHours_38 : decode cX0_coldHours 38 = .ok (.ireturn, 1) := by decide +kernel
theorem dX0_coldSwearers_0 : decode cX0_coldSwearers 0 = .ok (.iconst 0, 1) := by decide +kernel
theorem dX0_coldSwearers_1 : decode cX0_coldSwearers 1 = .ok (.istore_n 2, 1) := by decide +kernel
theorem dX0_coldSwearers_2 : decode cX0_coldSwearers 2 = .ok (.iconst 0, 1) := by decide +kernel
theorem dX0_coldSwearers_3 : decode cX0_coldSwearers 3 = .ok (.istore_n 3, 1) := by decide +kernel
theorem dX0_coldSwearers_4 : decode cX0_coldSwearers 4 = .ok (.iload_n 3, 1) := by decide +kernel
theorem dX0_coldSwearers_5 : decode cX0_coldSwearers 5 = .ok (.aload_n 0, 1) := by decide +kernel
theorem dX0_coldSwearers_6 : decode cX0_coldSwearers 6 = .ok (.getfield 37, 3) := by decide +kernel
theorem dX0_coldSwearers_9 : decode cX0_coldSwearers 9 = .ok (.if_icmp .ge 28, 3) := by decide +kernel
theorem dX0_coldSwearers_12 : decode cX0_coldSwearers 12 = .ok (.iload_n 2, 1) := by decide +kernel
theorem dX0_coldSwearers_13 : decode cX0_coldSwearers 13 = .ok (.aload_n 0, 1) := by decide +kernel
theorem dX0_coldSwearers_14 : decode cX0_coldSwearers 14 = .ok (.iload_n 3, 1) := by decide +kernel
theorem dX0_coldSwearers_15 : decode cX0_coldSwearers 15 = .ok (.iload_n 1, 1) := by decide +kernel
theorem dX0_coldSwearers_16 : decode cX0_coldSwearers 16 = .ok (.invokevirtual 88, 3) := by decide +kernel
theorem dX0_coldSwearers_19 : decode cX0_coldSwearers 19 = .ok (.ifCond .eq 9, 3) := by decide +kernel
theorem dX0_coldSwearers_22 : decode cX0_coldSwearers 22 = .ok (.iconst 1, 1) := by decide +kernel
theorem dX0_coldSwearers_23 : decode cX0_coldSwearers 23 = .ok (.iload_n 3, 1) := by decide +kernel
theorem dX0_coldSwearers_24 : decode cX0_coldSwearers 24 = .ok (.ishl, 1) := by decide +kernel
theorem dX0_coldSwearers_25 : decode cX0_coldSwearers 25 = .ok (.goto 4, 3) := by decide +kernel
theorem dX0_coldSwearers_28 : decode cX0_coldSwearers 28 = .ok (.iconst 0, 1) := by decide +kernel
theorem dX0_coldSwearers_29 : decode cX0_coldSwearers 29 = .ok (.ior, 1) := by decide +kernel
theorem dX0_coldSwearers_30 : decode cX0_coldSwearers 30 = .ok (.istore_n 2, 1) := by decide +kernel
theorem dX0_coldSwearers_31 : decode cX0_coldSwearers 31 = .ok (.iinc 3 1, 3) := by decide +kernel
theorem dX0_coldSwearers_34 : decode cX0_coldSwearers 34 = .ok (.goto (-30), 3) := by decide +kernel
theorem dX0_coldSwearers_37 : decode cX0_coldSwearers 37 = .ok (.iload_n 2, 1) := by decide +kernel
theorem dX0_coldSwearers_38 : decode cX0_coldSwearers 38 = .ok (.ireturn, 1) := by decide +kernel
theorem dX0_timesCold_0 : decode cX0_timesCold 0 = .ok (.iconst 0, 1) := by decide +kernel
theorem dX0_timesCold_1 : decode cX0_timesCold 1 = .ok (.istore_n 1, 1) := by decide +kernel
theorem dX0_timesCold_2 : decode cX0_timesCold 2 = .ok (.iconst 0, 1) := by decide +kernel
theorem dX0_timesCold_3 : decode cX0_timesCold 3 = .ok (.istore_n 2, 1) := by decide +kernel
theorem dX0_timesCold_4 : decode cX0_timesCold 4 = .ok (.iload_n 2, 1) := by decide +kernel
theorem dX0_timesCold_5 : decode cX0_timesCold 5 = .ok (.aload_n 0, 1) := by decide +kernel
theorem dX0_timesCold_6 : decode cX0_timesCold 6 = .ok (.getfield 37, 3) := by decide +kernel
theorem dX0_timesCold_9 : decode cX0_timesCold 9 = .ok (.if_icmp .ge 20, 3) := by decide +kernel
theorem dX0_timesCold_12 : decode cX0_timesCold 12 = .ok (.iload_n 1, 1) := by decide +kernel
theorem dX0_timesCold_13 : decode cX0_timesCold 13 = .ok (.aload_n 0, 1) := by decide +kernel
theorem dX0_timesCold_14 : decode cX0_timesCold 14 = .ok (.iload_n 2, 1) := by decide +kernel
theorem dX0_timesCold_15 : decode cX0_timesCold 15 = .ok (.invokevirtual 91, 3) := by decide +kernel
theorem dX0_timesCold_18 : decode cX0_timesCold 18 = .ok (.invokestatic 94, 3) := by decide +kernel
theorem dX0_timesCold_21 : decode cX0_timesCold 21 = .ok (.iadd, 1) := by decide +kernel
theorem dX0_timesCold_22 : decode cX0_timesCold 22 = .ok (.istore_n 1, 1) := by decide +kernel
theorem dX0_timesCold_23 : decode cX0_timesCold 23 = .ok (.iinc 2 1, 3) := by decide +kernel
theorem dX0_timesCold_26 : decode cX0_timesCold 26 = .ok (.goto (-22), 3) := by decide +kernel
theorem dX0_timesCold_29 : decode cX0_timesCold 29 = .ok (.iload_n 1, 1) := by decide +kernel
theorem dX0_timesCold_30 : decode cX0_timesCold 30 = .ok (.ireturn, 1) := by decide +kernel
theorem dX0_allOaths_0 : decode cX0_allOaths 0 = .ok (.iconst 1, 1) := by decide +kernel
theorem dX0_allOaths_1 : decode cX0_allOaths 1 = .ok (.aload_n 0, 1) := by decide +kernel
theorem dX0_allOaths_2 : decode cX0_allOaths 2 = .ok (.getfield 40, 3) := by decide +kernel
theorem dX0_allOaths_5 : decode cX0_allOaths 5 = .ok (.ishl, 1) := by decide +kernel
theorem dX0_allOaths_6 : decode cX0_allOaths 6 = .ok (.iconst 1, 1) := by decide +kernel
theorem dX0_allOaths_7 : decode cX0_allOaths 7 = .ok (.isub, 1) := by decide +kernel
theorem dX0_allOaths_8 : decode cX0_allOaths 8 = .ok (.ireturn, 1) := by decide +kernel
theorem dX0_oathsBy_0 : decode cX0_oathsBy 0 = .ok (.iconst 0, 1) := by decide +kernel
theorem dX0_oathsBy_1 : decode cX0_oathsBy 1 = .ok (.istore_n 2, 1) := by decide +kernel
theorem dX0_oathsBy_2 : decode cX0_oathsBy 2 = .ok (.iconst 0, 1) := by decide +kernel
theorem dX0_oathsBy_3 : decode cX0_oathsBy 3 = .ok (.istore_n 3, 1) := by decide +kernel
theorem dX0_oathsBy_4 : decode cX0_oathsBy 4 = .ok (.iload_n 3, 1) := by decide +kernel
theorem dX0_oathsBy_5 : decode cX0_oathsBy 5 = .ok (.aload_n 0, 1) := by decide +kernel
theorem dX0_oathsBy_6 : decode cX0_oathsBy 6 = .ok (.getfield 40, 3) := by decide +kernel
theorem dX0_oathsBy_9 : decode cX0_oathsBy 9 = .ok (.if_icmp .ge 29, 3) := by decide +kernel
theorem dX0_oathsBy_12 : decode cX0_oathsBy 12 = .ok (.iload_n 2, 1) := by decide +kernel
theorem dX0_oathsBy_13 : decode cX0_oathsBy 13 = .ok (.aload_n 0, 1) := by decide +kernel
theorem dX0_oathsBy_14 : decode cX0_oathsBy 14 = .ok (.getfield 25, 3) := by decide +kernel
theorem dX0_oathsBy_17 : decode cX0_oathsBy 17 = .ok (.iload_n 3, 1) := by decide +kernel
theorem dX0_oathsBy_18 : decode cX0_oathsBy 18 = .ok (.iaload, 1) := by decide +kernel
theorem dX0_oathsBy_19 : decode cX0_oathsBy 19 = .ok (.iload_n 1, 1) := by decide +kernel
theorem dX0_oathsBy_20 : decode cX0_oathsBy 20 = .ok (.if_icmp .ne 9, 3) := by decide +kernel
theorem dX0_oathsBy_23 : decode cX0_oathsBy 23 = .ok (.iconst 1, 1) := by decide +kernel
theorem dX0_oathsBy_24 : decode cX0_oathsBy 24 = .ok (.iload_n 3, 1) := by decide +kernel
theorem dX0_oathsBy_25 : decode cX0_oathsBy 25 = .ok (.ishl, 1) := by decide +kernel
theorem dX0_oathsBy_26 : decode cX0_oathsBy 26 = .ok (.goto 4, 3) := by decide +kernel
theorem dX0_oathsBy_29 : decode cX0_oathsBy 29 = .ok (.iconst 0, 1) := by decide +kernel
theorem dX0_oathsBy_30 : decode cX0_oathsBy 30 = .ok (.ior, 1) := by decide +kernel
theorem dX0_oathsBy_31 : decode cX0_oathsBy 31 = .ok (.istore_n 2, 1) := by decide +kernel
theorem dX0_oathsBy_32 : decode cX0_oathsBy 32 = .ok (.iinc 3 1, 3) := by decide +kernel
theorem dX0_oathsBy_35 : decode cX0_oathsBy 35 = .ok (.goto (-31), 3) := by decide +kernel
theorem dX0_oathsBy_38 : decode cX0_oathsBy 38 = .ok (.iload_n 2, 1) := by decide +kernel
theorem dX0_oathsBy_39 : decode cX0_oathsBy 39 = .ok (.ireturn, 1) := by decide +kernel
theorem dX0_bindingOaths_0 : decode cX0_bindingOaths 0 = .ok (.iconst 0, 1) := by decide +kernel
theorem dX0_bindingOaths_1 : decode cX0_bindingOaths 1 = .ok (.istore_n 1, 1) := by decide +kernel
theorem dX0_bindingOaths_2 : decode cX0_bindingOaths 2 = .ok (.iconst 0, 1) := by decide +kernel
theorem dX0_bindingOaths_3 : decode cX0_bindingOaths 3 = .ok (.istore_n 2, 1) := by decide +kernel
theorem dX0_bindingOaths_4 : decode cX0_bindingOaths 4 = .ok (.iload_n 2, 1) := by decide +kernel
theorem dX0_bindingOaths_5 : decode cX0_bindingOaths 5 = .ok (.aload_n 0, 1) := by decide +kernel
theorem dX0_bindingOaths_6 : decode cX0_bindingOaths 6 = .ok (.getfield 40, 3) := by decide +kernel
theorem dX0_bindingOaths_9 : decode cX0_bindingOaths 9 = .ok (.if_icmp .ge 27, 3) := by decide +kernel
theorem dX0_bindingOaths_12 : decode cX0_bindingOaths 12 = .ok (.iload_n 1, 1) := by decide +kernel
theorem dX0_bindingOaths_13 : decode cX0_bindingOaths 13 = .ok (.aload_n 0, 1) := by decide +kernel
theorem dX0_bindingOaths_14 : decode cX0_bindingOaths 14 = .ok (.iload_n 2, 1) := by decide +kernel
theorem dX0_bindingOaths_15 : decode cX0_bindingOaths 15 = .ok (.invokevirtual 99, 3) := by decide +kernel
theorem dX0_bindingOaths_18 : decode cX0_bindingOaths 18 = .ok (.ifCond .eq 9, 3) := by decide +kernel
theorem dX0_bindingOaths_21 : decode cX0_bindingOaths 21 = .ok (.iconst 1, 1) := by decide +kernel
theorem dX0_bindingOaths_22 : decode cX0_bindingOaths 22 = .ok (.iload_n 2, 1) := by decide +kernel
theorem dX0_bindingOaths_23 : decode cX0_bindingOaths 23 = .ok (.ishl, 1) := by decide +kernel
theorem dX0_bindingOaths_24 : decode cX0_bindingOaths 24 = .ok (.goto 4, 3) := by decide +kernel
theorem dX0_bindingOaths_27 : decode cX0_bindingOaths 27 = .ok (.iconst 0, 1) := by decide +kernel
theorem dX0_bindingOaths_28 : decode cX0_bindingOaths 28 = .ok (.ior, 1) := by decide +kernel
theorem dX0_bindingOaths_29 : decode cX0_bindingOaths 29 = .ok (.istore_n 1, 1) := by decide +kernel
theorem dX0_bindingOaths_30 : decode cX0_bindingOaths 30 = .ok (.iinc 2 1, 3) := by decide +kernel
theorem dX0_bindingOaths_33 : decode cX0_bindingOaths 33 = .ok (.goto (-29), 3) := by decide +kernel
theorem dX0_bindingOaths_36 : decode cX0_bindingOaths 36 = .ok (.iload_n 1, 1) := by decide +kernel
theorem dX0_bindingOaths_37 : decode cX0_bindingOaths 37 = .ok (.ireturn, 1) := by decide +kernel
theorem dX0_leastRow_0 : decode cX0_leastRow 0 = .ok (.aload_n 0, 1) := by decide +kernel
theorem dX0_leastRow_1 : decode cX0_leastRow 1 = .ok (.invokevirtual 102, 3) := by decide +kernel
theorem dX0_leastRow_4 : decode cX0_leastRow 4 = .ok (.istore_n 3, 1) := by decide +kernel
theorem dX0_leastRow_5 : decode cX0_leastRow 5 = .ok (.iconst 1, 1) := by decide +kernel
theorem dX0_leastRow_6 : decode cX0_leastRow 6 = .ok (.iload_n 1, 1) := by decide +kernel
theorem dX0_leastRow_7 : decode cX0_leastRow 7 = .ok (.ishl, 1) := by decide +kernel
theorem dX0_leastRow_8 : decode cX0_leastRow 8 = .ok (.istore 4, 2) := by decide +kernel
theorem dX0_leastRow_10 : decode cX0_leastRow 10 = .ok (.iconst 1, 1) := by decide +kernel
theorem dX0_leastRow_11 : decode cX0_leastRow 11 = .ok (.istore 5, 2) := by decide +kernel
theorem dX0_leastRow_13 : decode cX0_leastRow 13 = .ok (.iload 5, 2) := by decide +kernel
theorem dX0_leastRow_15 : decode cX0_leastRow 15 = .ok (.aload_n 0, 1) := by decide +kernel
theorem dX0_leastRow_16 : decode cX0_leastRow 16 = .ok (.getfield 37, 3) := by decide +kernel
theorem dX0_leastRow_19 : decode cX0_leastRow 19 = .ok (.if_icmp .gt 30, 3) := by decide +kernel
theorem dX0_leastRow_22 : decode cX0_leastRow 22 = .ok (.aload_n 0, 1) := by decide +kernel
theorem dX0_leastRow_23 : decode cX0_leastRow 23 = .ok (.iload 4, 2) := by decide +kernel
theorem dX0_leastRow_25 : decode cX0_leastRow 25 = .ok (.iload_n 3, 1) := by decide +kernel
theorem dX0_leastRow_26 : decode cX0_leastRow 26 = .ok (.invokevirtual 106, 3) := by decide +kernel
theorem dX0_leastRow_29 : decode cX0_leastRow 29 = .ok (.istore 4, 2) := by decide +kernel
theorem dX0_leastRow_31 : decode cX0_leastRow 31 = .ok (.iload 4, 2) := by decide +kernel
theorem dX0_leastRow_33 : decode cX0_leastRow 33 = .ok (.iload_n 2, 1) := by decide +kernel
theorem dX0_leastRow_34 : decode cX0_leastRow 34 = .ok (.invokestatic 109, 3) := by decide +kernel
theorem dX0_leastRow_37 : decode cX0_leastRow 37 = .ok (.ifCond .eq 6, 3) := by decide +kernel
theorem dX0_leastRow_40 : decode cX0_leastRow 40 = .ok (.iload 5, 2) := by decide +kernel
theorem dX0_leastRow_42 : decode cX0_leastRow 42 = .ok (.ireturn, 1) := by decide +kernel
theorem dX0_leastRow_43 : decode cX0_leastRow 43 = .ok (.iinc 5 1, 3) := by decide +kernel
theorem dX0_leastRow_46 : decode cX0_leastRow 46 = .ok (.goto (-33), 3) := by decide +kernel
theorem dX0_leastRow_49 : decode cX0_leastRow 49 = .ok (.bipush (-9), 2) := by decide +kernel
theorem dX0_leastRow_51 : decode cX0_leastRow 51 = .ok (.ireturn, 1) := by decide +kernel
theorem dX0_swornToBy_0 : decode cX0_swornToBy 0 = .ok (.iconst 0, 1) := by decide +kernel
theorem dX0_swornToBy_1 : decode cX0_swornToBy 1 = .ok (.istore_n 3, 1) := by decide +kernel
theorem dX0_swornToBy_2 : decode cX0_swornToBy 2 = .ok (.iconst 0, 1) := by decide +kernel
theorem dX0_swornToBy_3 : decode cX0_swornToBy 3 = .ok (.istore 4, 2) := by decide +kernel
theorem dX0_swornToBy_5 : decode cX0_swornToBy 5 = .ok (.iload 4, 2) := by decide +kernel
theorem dX0_swornToBy_7 : decode cX0_swornToBy 7 = .ok (.aload_n 0, 1) := by decide +kernel
theorem dX0_swornToBy_8 : decode cX0_swornToBy 8 = .ok (.getfield 40, 3) := by decide +kernel
theorem dX0_swornToBy_11 : decode cX0_swornToBy 11 = .ok (.if_icmp .ge 44, 3) := by decide +kernel
theorem dX0_swornToBy_14 : decode cX0_swornToBy 14 = .ok (.iload_n 2, 1) := by decide +kernel
theorem dX0_swornToBy_15 : decode cX0_swornToBy 15 = .ok (.iload 4, 2) := by decide +kernel
theorem dX0_swornToBy_17 : decode cX0_swornToBy 17 = .ok (.invokestatic 109, 3) := by decide +kernel
theorem dX0_swornToBy_20 : decode cX0_swornToBy 20 = .ok (.ifCond .eq 29, 3) := by decide +kernel
theorem dX0_swornToBy_23 : decode cX0_swornToBy 23 = .ok (.iload_n 1, 1) := by decide +kernel
theorem dX0_swornToBy_24 : decode cX0_swornToBy 24 = .ok (.aload_n 0, 1) := by decide +kernel
theorem dX0_swornToBy_25 : decode cX0_swornToBy 25 = .ok (.getfield 25, 3) := by decide +kernel
theorem dX0_swornToBy_28 : decode cX0_swornToBy 28 = .ok (.iload 4, 2) := by decide +kernel
theorem dX0_swornToBy_30 : decode cX0_swornToBy 30 = .ok (.iaload, 1) := by decide +kernel
theorem dX0_swornToBy_31 : decode cX0_swornToBy 31 = .ok (.invokestatic 109, 3) := by decide +kernel
theorem dX0_swornToBy_34 : decode cX0_swornToBy 34 = .ok (.ifCond .eq 15, 3) := by decide +kernel
theorem dX0_swornToBy_37 : decode cX0_swornToBy 37 = .ok (.iload_n 3, 1) := by decide +kernel
theorem dX0_swornToBy_38 : decode cX0_swornToBy 38 = .ok (.iconst 1, 1) := by decide +kernel
theorem dX0_swornToBy_39 : decode cX0_swornToBy 39 = .ok (.aload_n 0, 1) := by decide +kernel
theorem dX0_swornToBy_40 : decode cX0_swornToBy 40 = .ok (.getfield 28, 3) := by decide +kernel
theorem dX0_swornToBy_43 : decode cX0_swornToBy 43 = .ok (.iload 4, 2) := by decide +kernel
theorem dX0_swornToBy_45 : decode cX0_swornToBy 45 = .ok (.iaload, 1) := by decide +kernel
theorem dX0_swornToBy_46 : decode cX0_swornToBy 46 = .ok (.ishl, 1) := by decide +kernel
theorem dX0_swornToBy_47 : decode cX0_swornToBy 47 = .ok (.ior, 1) := by decide +kernel
theorem dX0_swornToBy_48 : decode cX0_swornToBy 48 = .ok (.istore_n 3, 1) := by decide +kernel
theorem dX0_swornToBy_49 : decode cX0_swornToBy 49 = .ok (.iinc 4 1, 3) := by decide +kernel
theorem dX0_swornToBy_52 : decode cX0_swornToBy 52 = .ok (.goto (-47), 3) := by decide +kernel
theorem dX0_swornToBy_55 : decode cX0_swornToBy 55 = .ok (.iload_n 3, 1) := by decide +kernel
theorem dX0_swornToBy_56 : decode cX0_swornToBy 56 = .ok (.ireturn, 1) := by decide +kernel
theorem dX0_leastToLetGo_0 : decode cX0_leastToLetGo 0 = .ok (.aload_n 0, 1) := by decide +kernel
theorem dX0_leastToLetGo_1 : decode cX0_leastToLetGo 1 = .ok (.invokevirtual 102, 3) := by decide +kernel
theorem dX0_leastToLetGo_4 : decode cX0_leastToLetGo 4 = .ok (.istore_n 1, 1) := by decide +kernel
theorem dX0_leastToLetGo_5 : decode cX0_leastToLetGo 5 = .ok (.iload_n 1, 1) := by decide +kernel
theorem dX0_leastToLetGo_6 : decode cX0_leastToLetGo 6 = .ok (.istore_n 2, 1) := by decide +kernel
theorem dX0_leastToLetGo_7 : decode cX0_leastToLetGo 7 = .ok (.iconst 0, 1) := by decide +kernel
theorem dX0_leastToLetGo_8 : decode cX0_leastToLetGo 8 = .ok (.istore_n 3, 1) := by decide +kernel
theorem dX0_leastToLetGo_9 : decode cX0_leastToLetGo 9 = .ok (.iload_n 3, 1) := by decide +kernel
theorem dX0_leastToLetGo_10 : decode cX0_leastToLetGo 10 = .ok (.iconst 1, 1) := by decide +kernel
theorem dX0_leastToLetGo_11 : decode cX0_leastToLetGo 11 = .ok (.aload_n 0, 1) := by decide +kernel
theorem dX0_leastToLetGo_12 : decode cX0_leastToLetGo 12 = .ok (.getfield 40, 3) := by decide +kernel
theorem dX0_leastToLetGo_15 : decode cX0_leastToLetGo 15 = .ok (.ishl, 1) := by decide +kernel
theorem dX0_leastToLetGo_16 : decode cX0_leastToLetGo 16 = .ok (.if_icmp .ge 54, 3) := by decide +kernel
theorem dX0_leastToLetGo_19 : decode cX0_leastToLetGo 19 = .ok (.iload_n 3, 1) := by decide +kernel
theorem dX0_leastToLetGo_20 : decode cX0_leastToLetGo 20 = .ok (.invokestatic 94, 3) := by decide +kernel
theorem dX0_leastToLetGo_23 : decode cX0_leastToLetGo 23 = .ok (.iload_n 2, 1) := by decide +kernel
theorem dX0_leastToLetGo_24 : decode cX0_leastToLetGo 24 = .ok (.invokestatic 94, 3) := by decide +kernel
theorem dX0_leastToLetGo_27 : decode cX0_leastToLetGo 27 = .ok (.if_icmp .ge 7, 3) := by decide +kernel
theorem dX0_leastToLetGo_30 : decode cX0_leastToLetGo 30 = .ok (.iconst 1, 1) := by decide +kernel
theorem dX0_leastToLetGo_31 : decode cX0_leastToLetGo 31 = .ok (.goto 4, 3) := by decide +kernel
theorem dX0_leastToLetGo_34 : decode cX0_leastToLetGo 34 = .ok (.iconst 0, 1) := by decide +kernel
theorem dX0_leastToLetGo_35 : decode cX0_leastToLetGo 35 = .ok (.istore 4, 2) := by decide +kernel
theorem dX0_leastToLetGo_37 : decode cX0_leastToLetGo 37 = .ok (.iload 4, 2) := by decide +kernel
theorem dX0_leastToLetGo_39 : decode cX0_leastToLetGo 39 = .ok (.ifCond .eq 25, 3) := by decide +kernel
theorem dX0_leastToLetGo_42 : decode cX0_leastToLetGo 42 = .ok (.iload_n 3, 1) := by decide +kernel
theorem dX0_leastToLetGo_43 : decode cX0_leastToLetGo 43 = .ok (.iload_n 1, 1) := by decide +kernel
theorem dX0_leastToLetGo_44 : decode cX0_leastToLetGo 44 = .ok (.iconst (-1), 1) := by decide +kernel
theorem dX0_leastToLetGo_45 : decode cX0_leastToLetGo 45 = .ok (.ixor, 1) := by decide +kernel
theorem dX0_leastToLetGo_46 : decode cX0_leastToLetGo 46 = .ok (.iand, 1) := by decide +kernel
theorem dX0_leastToLetGo_47 : decode cX0_leastToLetGo 47 = .ok (.ifCond .ne 17, 3) := by decide +kernel
theorem dX0_leastToLetGo_50 : decode cX0_leastToLetGo 50 = .ok (.aload_n 0, 1) := by decide +kernel
theorem dX0_leastToLetGo_51 : decode cX0_leastToLetGo 51 = .ok (.iload_n 1, 1) := by decide +kernel
theorem dX0_leastToLetGo_52 : decode cX0_leastToLetGo 52 = .ok (.iload_n 3, 1) := by decide +kernel
theorem dX0_leastToLetGo_53 : decode cX0_leastToLetGo 53 = .ok (.iconst (-1), 1) := by decide +kernel
theorem dX0_leastToLetGo_54 : decode cX0_leastToLetGo 54 = .ok (.ixor, 1) := by decide +kernel
theorem dX0_leastToLetGo_55 : decode cX0_leastToLetGo 55 = .ok (.iand, 1) := by decide +kernel
theorem dX0_leastToLetGo_56 : decode cX0_leastToLetGo 56 = .ok (.invokevirtual 112, 3) := by decide +kernel
theorem dX0_leastToLetGo_59 : decode cX0_leastToLetGo 59 = .ok (.ifCond .ne 5, 3) := by decide +kernel
theorem dX0_leastToLetGo_62 : decode cX0_leastToLetGo 62 = .ok (.iload_n 3, 1) := by decide +kernel
theorem dX0_leastToLetGo_63 : decode cX0_leastToLetGo 63 = .ok (.istore_n 2, 1) := by decide +kernel
theorem dX0_leastToLetGo_64 : decode cX0_leastToLetGo 64 = .ok (.iinc 3 1, 3) := by decide +kernel
theorem dX0_leastToLetGo_67 : decode cX0_leastToLetGo 67 = .ok (.goto (-58), 3) := by decide +kernel
theorem dX0_leastToLetGo_70 : decode cX0_leastToLetGo 70 = .ok (.iload_n 2, 1) := by decide +kernel
theorem dX0_leastToLetGo_71 : decode cX0_leastToLetGo 71 = .ok (.ireturn, 1) := by decide +kernel
theorem dX0_hasRing_0 : decode cX0_hasRing 0 = .ok (.iconst 1, 1) := by decide +kernel
theorem dX0_hasRing_1 : decode cX0_hasRing 1 = .ok (.aload_n 0, 1) := by decide +kernel
theorem dX0_hasRing_2 : decode cX0_hasRing 2 = .ok (.getfield 37, 3) := by decide +kernel
theorem dX0_hasRing_5 : decode cX0_hasRing 5 = .ok (.ishl, 1) := by decide +kernel
theorem dX0_hasRing_6 : decode cX0_hasRing 6 = .ok (.iconst 1, 1) := by decide +kernel
theorem dX0_hasRing_7 : decode cX0_hasRing 7 = .ok (.isub, 1) := by decide +kernel
theorem dX0_hasRing_8 : decode cX0_hasRing 8 = .ok (.istore_n 2, 1) := by decide +kernel
theorem dX0_hasRing_9 : decode cX0_hasRing 9 = .ok (.iconst 0, 1) := by decide +kernel
theorem dX0_hasRing_10 : decode cX0_hasRing 10 = .ok (.istore_n 3, 1) := by decide +kernel
theorem dX0_hasRing_11 : decode cX0_hasRing 11 = .ok (.iload_n 3, 1) := by decide +kernel
theorem dX0_hasRing_12 : decode cX0_hasRing 12 = .ok (.aload_n 0, 1) := by decide +kernel
theorem dX0_hasRing_13 : decode cX0_hasRing 13 = .ok (.getfield 37, 3) := by decide +kernel
theorem dX0_hasRing_16 : decode cX0_hasRing 16 = .ok (.if_icmp .ge 16, 3) := by decide +kernel
theorem dX0_hasRing_19 : decode cX0_hasRing 19 = .ok (.aload_n 0, 1) := by decide +kernel
theorem dX0_hasRing_20 : decode cX0_hasRing 20 = .ok (.iload_n 2, 1) := by decide +kernel
theorem dX0_hasRing_21 : decode cX0_hasRing 21 = .ok (.iload_n 1, 1) := by decide +kernel
theorem dX0_hasRing_22 : decode cX0_hasRing 22 = .ok (.invokevirtual 115, 3) := by decide +kernel
theorem dX0_hasRing_25 : decode cX0_hasRing 25 = .ok (.istore_n 2, 1) := by decide +kernel
theorem dX0_hasRing_26 : decode cX0_hasRing 26 = .ok (.iinc 3 1, 3) := by decide +kernel
theorem dX0_hasRing_29 : decode cX0_hasRing 29 = .ok (.goto (-18), 3) := by decide +kernel
theorem dX0_hasRing_32 : decode cX0_hasRing 32 = .ok (.iload_n 2, 1) := by decide +kernel
theorem dX0_hasRing_33 : decode cX0_hasRing 33 = .ok (.ifCond .eq 7, 3) := by decide +kernel
theorem dX0_hasRing_36 : decode cX0_hasRing 36 = .ok (.iconst 1, 1) := by decide +kernel
theorem dX0_hasRing_37 : decode cX0_hasRing 37 = .ok (.goto 4, 3) := by decide +kernel
theorem dX0_hasRing_40 : decode cX0_hasRing 40 = .ok (.iconst 0, 1) := by decide +kernel
theorem dX0_hasRing_41 : decode cX0_hasRing 41 = .ok (.ireturn, 1) := by decide +kernel
theorem dX0_swearingWithin_0 : decode cX0_swearingWithin 0 = .ok (.iconst 0, 1) := by decide +kernel
theorem dX0_swearingWithin_1 : decode cX0_swearingWithin 1 = .ok (.istore_n 3, 1) := by decide +kernel
theorem dX0_swearingWithin_2 : decode cX0_swearingWithin 2 = .ok (.iconst 0, 1) := by decide +kernel
theorem dX0_swearingWithin_3 : decode cX0_swearingWithin 3 = .ok (.istore 4, 2) := by decide +kernel
theorem dX0_swearingWithin_5 : decode cX0_swearingWithin 5 = .ok (.iload 4, 2) := by decide +kernel
theorem dX0_swearingWithin_7 : decode cX0_swearingWithin 7 = .ok (.aload_n 0, 1) := by decide +kernel
theorem dX0_swearingWithin_8 : decode cX0_swearingWithin 8 = .ok (.getfield 40, 3) := by decide +kernel
theorem dX0_swearingWithin_11 : decode cX0_swearingWithin 11 = .ok (.if_icmp .ge 58, 3) := by decide +kernel
theorem dX0_swearingWithin_14 : decode cX0_swearingWithin 14 = .ok (.iload_n 2, 1) := by decide +kernel
theorem dX0_swearingWithin_15 : decode cX0_swearingWithin 15 = .ok (.iload 4, 2) := by decide +kernel
theorem dX0_swearingWithin_17 : decode cX0_swearingWithin 17 = .ok (.invokestatic 109, 3) := by decide +kernel
theorem dX0_swearingWithin_20 : decode cX0_swearingWithin 20 = .ok (.ifCond .eq 43, 3) := by decide +kernel
theorem dX0_swearingWithin_23 : decode cX0_swearingWithin 23 = .ok (.iload_n 1, 1) := by decide +kernel
theorem dX0_swearingWithin_24 : decode cX0_swearingWithin 24 = .ok (.aload_n 0, 1) := by decide +kernel
theorem dX0_swearingWithin_25 : decode cX0_swearingWithin 25 = .ok (.getfield 25, 3) := by decide +kernel
theorem dX0_swearingWithin_28 : decode cX0_swearingWithin 28 = .ok (.iload 4, 2) := by decide +kernel
theorem dX0_swearingWithin_30 : decode cX0_swearingWithin 30 = .ok (.iaload, 1) := by decide +kernel
theorem dX0_swearingWithin_31 : decode cX0_swearingWithin 31 = .ok (.invokestatic 109, 3) := by decide +kernel
theorem dX0_swearingWithin_34 : decode cX0_swearingWithin 34 = .ok (.ifCond .eq 29, 3) := by decide +kernel
theorem dX0_swearingWithin_37 : decode cX0_swearingWithin 37 = .ok (.iload_n 1, 1) := by decide +kernel
theorem dX0_swearingWithin_38 : decode cX0_swearingWithin 38 = .ok (.aload_n 0, 1) := by decide +kernel
theorem dX0_swearingWithin_39 : decode cX0_swearingWithin 39 = .ok (.getfield 28, 3) := by decide +kernel
theorem dX0_swearingWithin_42 : decode cX0_swearingWithin 42 = .ok (.iload 4, 2) := by decide +kernel
theorem dX0_swearingWithin_44 : decode cX0_swearingWithin 44 = .ok (.iaload, 1) := by decide +kernel
theorem dX0_swearingWithin_45 : decode cX0_swearingWithin 45 = .ok (.invokestatic 109, 3) := by decide +kernel
theorem dX0_swearingWithin_48 : decode cX0_swearingWithin 48 = .ok (.ifCond .eq 15, 3) := by decide +kernel
theorem dX0_swearingWithin_51 : decode cX0_swearingWithin 51 = .ok (.iload_n 3, 1) := by decide +kernel
theorem dX0_swearingWithin_52 : decode cX0_swearingWithin 52 = .ok (.iconst 1, 1) := by decide +kernel
theorem dX0_swearingWithin_53 : decode cX0_swearingWithin 53 = .ok (.aload_n 0, 1) := by decide +kernel
theorem dX0_swearingWithin_54 : decode cX0_swearingWithin 54 = .ok (.getfield 25, 3) := by decide +kernel
theorem dX0_swearingWithin_57 : decode cX0_swearingWithin 57 = .ok (.iload 4, 2) := by decide +kernel
theorem dX0_swearingWithin_59 : decode cX0_swearingWithin 59 = .ok (.iaload, 1) := by decide +kernel
theorem dX0_swearingWithin_60 : decode cX0_swearingWithin 60 = .ok (.ishl, 1) := by decide +kernel
theorem dX0_swearingWithin_61 : decode cX0_swearingWithin 61 = .ok (.ior, 1) := by decide +kernel
theorem dX0_swearingWithin_62 : decode cX0_swearingWithin 62 = .ok (.istore_n 3, 1) := by decide +kernel
theorem dX0_swearingWithin_63 : decode cX0_swearingWithin 63 = .ok (.iinc 4 1, 3) := by decide +kernel
theorem dX0_swearingWithin_66 : decode cX0_swearingWithin 66 = .ok (.goto (-61), 3) := by decide +kernel
theorem dX0_swearingWithin_69 : decode cX0_swearingWithin 69 = .ok (.iload_n 3, 1) := by decide +kernel
theorem dX0_swearingWithin_70 : decode cX0_swearingWithin 70 = .ok (.ireturn, 1) := by decide +kernel
theorem dX1_init_0 : decode cX1_init 0 = .ok (.aload_n 0, 1) := by decide +kernel
theorem dX1_init_1 : decode cX1_init 1 = .ok (.invokespecial 3, 3) := by decide +kernel
theorem dX1_init_4 : decode cX1_init 4 = .ok (.return_, 1) := by decide +kernel
theorem dX1_open_0 : decode cX1_open 0 = .ok (.aload_n 0, 1) := by decide +kernel
theorem dX1_open_1 : decode cX1_open 1 = .ok (.aload_n 1, 1) := by decide +kernel
theorem dX1_open_2 : decode cX1_open 2 = .ok (.putfield 9, 3) := by decide +kernel
theorem dX1_open_5 : decode cX1_open 5 = .ok (.aload_n 0, 1) := by decide +kernel
theorem dX1_open_6 : decode cX1_open 6 = .ok (.iload_n 2, 1) := by decide +kernel
theorem dX1_open_7 : decode cX1_open 7 = .ok (.putfield 15, 3) := by decide +kernel
theorem dX1_open_10 : decode cX1_open 10 = .ok (.aload_n 0, 1) := by decide +kernel
theorem dX1_open_11 : decode cX1_open 11 = .ok (.iload_n 3, 1) := by decide +kernel
theorem dX1_open_12 : decode cX1_open 12 = .ok (.putfield 19, 3) := by decide +kernel
theorem dX1_open_15 : decode cX1_open 15 = .ok (.aload_n 0, 1) := by decide +kernel
theorem dX1_open_16 : decode cX1_open 16 = .ok (.iconst 0, 1) := by decide +kernel
theorem dX1_open_17 : decode cX1_open 17 = .ok (.putfield 22, 3) := by decide +kernel
theorem dX1_open_20 : decode cX1_open 20 = .ok (.return_, 1) := by decide +kernel
theorem dX1_reads_0 : decode cX1_reads 0 = .ok (.aload_n 1, 1) := by decide +kernel
theorem dX1_reads_1 : decode cX1_reads 1 = .ok (.invokevirtual 25, 3) := by decide +kernel
theorem dX1_reads_4 : decode cX1_reads 4 = .ok (.aload_n 0, 1) := by decide +kernel
theorem dX1_reads_5 : decode cX1_reads 5 = .ok (.bipush 111, 2) := by decide +kernel
theorem dX1_reads_7 : decode cX1_reads 7 = .ok (.invokevirtual 30, 3) := by decide +kernel
theorem dX1_reads_10 : decode cX1_reads 10 = .ok (.ifCond .eq 42, 3) := by decide +kernel
theorem dX1_reads_13 : decode cX1_reads 13 = .ok (.aload_n 0, 1) := by decide +kernel
theorem dX1_reads_14 : decode cX1_reads 14 = .ok (.aload_n 1, 1) := by decide +kernel
theorem dX1_reads_15 : decode cX1_reads 15 = .ok (.invokevirtual 34, 3) := by decide +kernel
theorem dX1_reads_18 : decode cX1_reads 18 = .ok (.ifCond .eq 34, 3) := by decide +kernel
theorem dX1_reads_21 : decode cX1_reads 21 = .ok (.aload_n 0, 1) := by decide +kernel
theorem dX1_reads_22 : decode cX1_reads 22 = .ok (.aload_n 1, 1) := by decide +kernel
theorem dX1_reads_23 : decode cX1_reads 23 = .ok (.invokevirtual 38, 3) := by decide +kernel
theorem dX1_reads_26 : decode cX1_reads 26 = .ok (.ifCond .eq 26, 3) := by decide +kernel
theorem dX1_reads_29 : decode cX1_reads 29 = .ok (.aload_n 0, 1) := by decide +kernel
theorem dX1_reads_30 : decode cX1_reads 30 = .ok (.aload_n 1, 1) := by decide +kernel
theorem dX1_reads_31 : decode cX1_reads 31 = .ok (.invokevirtual 41, 3) := by decide +kernel
theorem dX1_reads_34 : decode cX1_reads 34 = .ok (.ifCond .eq 18, 3) := by decide +kernel
theorem dX1_reads_37 : decode cX1_reads 37 = .ok (.aload_n 0, 1) := by decide +kernel
theorem dX1_reads_38 : decode cX1_reads 38 = .ok (.getfield 22, 3) := by decide +kernel
theorem dX1_reads_41 : decode cX1_reads 41 = .ok (.aload_n 0, 1) := by decide +kernel
theorem dX1_reads_42 : decode cX1_reads 42 = .ok (.getfield 19, 3) := by decide +kernel
theorem dX1_reads_45 : decode cX1_reads 45 = .ok (.if_icmp .ne 7, 3) := by decide +kernel
theorem dX1_reads_48 : decode cX1_reads 48 = .ok (.iconst 1, 1) := by decide +kernel
theorem dX1_reads_49 : decode cX1_reads 49 = .ok (.goto 4, 3) := by decide +kernel
theorem dX1_reads_52 : decode cX1_reads 52 = .ok (.iconst 0, 1) := by decide +kernel
theorem dX1_reads_53 : decode cX1_reads 53 = .ok (.ireturn, 1) := by decide +kernel
theorem dX1_readsHours_0 : decode cX1_readsHours 0 = .ok (.iconst 0, 1) := by decide +kernel
theorem dX1_readsHours_1 : decode cX1_readsHours 1 = .ok (.istore_n 2, 1) := by decide +kernel
theorem dX1_readsHours_2 : decode cX1_readsHours 2 = .ok (.iload_n 2, 1) := by decide +kernel
theorem dX1_readsHours_3 : decode cX1_readsHours 3 = .ok (.bipush 6, 2) := by decide +kernel
theorem dX1_readsHours_5 : decode cX1_readsHours 5 = .ok (.if_icmp .ge 30, 3) := by decide +kernel
theorem dX1_readsHours_8 : decode cX1_readsHours 8 = .ok (.aload_n 0, 1) := by decide +kernel
theorem dX1_readsHours_9 : decode cX1_readsHours 9 = .ok (.bipush 10, 2) := by decide +kernel
theorem dX1_readsHours_11 : decode cX1_readsHours 11 = .ok (.bipush (-9), 2) := by decide +kernel
theorem dX1_readsHours_13 : decode cX1_readsHours 13 = .ok (.invokevirtual 44, 3) := by decide +kernel
theorem dX1_readsHours_16 : decode cX1_readsHours 16 = .ok (.istore_n 3, 1) := by decide +kernel
theorem dX1_readsHours_17 : decode cX1_readsHours 17 = .ok (.iload_n 3, 1) := by decide +kernel
theorem dX1_readsHours_18 : decode cX1_readsHours 18 = .ok (.ifCond .ge 6, 3) := by decide +kernel
theorem dX1_readsHours_21 : decode cX1_readsHours 21 = .ok (.goto 14, 3) := by decide +kernel
theorem dX1_readsHours_24 : decode cX1_readsHours 24 = .ok (.aload_n 1, 1) := by decide +kernel
theorem dX1_readsHours_25 : decode cX1_readsHours 25 = .ok (.iload_n 3, 1) := by decide +kernel
theorem dX1_readsHours_26 : decode cX1_readsHours 26 = .ok (.invokevirtual 48, 3) := by decide +kernel
theorem dX1_readsHours_29 : decode cX1_readsHours 29 = .ok (.iinc 2 1, 3) := by decide +kernel
theorem dX1_readsHours_32 : decode cX1_readsHours 32 = .ok (.goto (-30), 3) := by decide +kernel
theorem dX1_readsHours_35 : decode cX1_readsHours 35 = .ok (.aload_n 1, 1) := by decide +kernel
theorem dX1_readsHours_36 : decode cX1_readsHours 36 = .ok (.getfield 52, 3) := by decide +kernel
theorem dX1_readsHours_39 : decode cX1_readsHours 39 = .ok (.ifCond .le 7, 3) := by decide +kernel
theorem dX1_readsHours_42 : decode cX1_readsHours 42 = .ok (.iconst 1, 1) := by decide +kernel
theorem dX1_readsHours_43 : decode cX1_readsHours 43 = .ok (.goto 4, 3) := by decide +kernel
theorem dX1_readsHours_46 : decode cX1_readsHours 46 = .ok (.iconst 0, 1) := by decide +kernel
theorem dX1_readsHours_47 : decode cX1_readsHours 47 = .ok (.ireturn, 1) := by decide +kernel
theorem dX1_readsSwearers_0 : decode cX1_readsSwearers 0 = .ok (.iconst 0, 1) := by decide +kernel
theorem dX1_readsSwearers_1 : decode cX1_readsSwearers 1 = .ok (.istore_n 2, 1) := by decide +kernel
theorem dX1_readsSwearers_2 : decode cX1_readsSwearers 2 = .ok (.iload_n 2, 1) := by decide +kernel
theorem dX1_readsSwearers_3 : decode cX1_readsSwearers 3 = .ok (.iconst 4, 1) := by decide +kernel
theorem dX1_readsSwearers_4 : decode cX1_readsSwearers 4 = .ok (.if_icmp .ge 53, 3) := by decide +kernel
theorem dX1_readsSwearers_7 : decode cX1_readsSwearers 7 = .ok (.aload_n 0, 1) := by decide +kernel
theorem dX1_readsSwearers_8 : decode cX1_readsSwearers 8 = .ok (.bipush 59, 2) := by decide +kernel
theorem dX1_readsSwearers_10 : decode cX1_readsSwearers 10 = .ok (.invokevirtual 30, 3) := by decide +kernel
theorem dX1_readsSwearers_13 : decode cX1_readsSwearers 13 = .ok (.ifCond .eq 44, 3) := by decide +kernel
theorem dX1_readsSwearers_16 : decode cX1_readsSwearers 16 = .ok (.aload_n 0, 1) := by decide +kernel
theorem dX1_readsSwearers_17 : decode cX1_readsSwearers 17 = .ok (.invokevirtual 55, 3) := by decide +kernel
theorem dX1_readsSwearers_20 : decode cX1_readsSwearers 20 = .ok (.istore_n 3, 1) := by decide +kernel
theorem dX1_readsSwearers_21 : decode cX1_readsSwearers 21 = .ok (.iload_n 3, 1) := by decide +kernel
theorem dX1_readsSwearers_22 : decode cX1_readsSwearers 22 = .ok (.ifCond .ge 5, 3) := by decide +kernel
theorem dX1_readsSwearers_25 : decode cX1_readsSwearers 25 = .ok (.iconst 0, 1) := by decide +kernel
theorem dX1_readsSwearers_26 : decode cX1_readsSwearers 26 = .ok (.ireturn, 1) := by decide +kernel
theorem dX1_readsSwearers_27 : decode cX1_readsSwearers 27 = .ok (.aload_n 0, 1) := by decide +kernel
theorem dX1_readsSwearers_28 : decode cX1_readsSwearers 28 = .ok (.bipush 10, 2) := by decide +kernel
theorem dX1_readsSwearers_30 : decode cX1_readsSwearers 30 = .ok (.bipush (-9), 2) := by decide +kernel
theorem dX1_readsSwearers_32 : decode cX1_readsSwearers 32 = .ok (.invokevirtual 44, 3) := by decide +kernel
theorem dX1_readsSwearers_35 : decode cX1_readsSwearers 35 = .ok (.istore 4, 2) := by decide +kernel
theorem dX1_readsSwearers_37 : decode cX1_readsSwearers 37 = .ok (.iload 4, 2) := by decide +kernel
theorem dX1_readsSwearers_39 : decode cX1_readsSwearers 39 = .ok (.ifCond .ge 5, 3) := by decide +kernel
theorem dX1_readsSwearers_42 : decode cX1_readsSwearers 42 = .ok (.iconst 0, 1) := by decide +kernel
theorem dX1_readsSwearers_43 : decode cX1_readsSwearers 43 = .ok (.ireturn, 1) := by decide +kernel
theorem dX1_readsSwearers_44 : decode cX1_readsSwearers 44 = .ok (.aload_n 1, 1) := by decide +kernel
theorem dX1_readsSwearers_45 : decode cX1_readsSwearers 45 = .ok (.iload_n 3, 1) := by decide +kernel
theorem dX1_readsSwearers_46 : decode cX1_readsSwearers 46 = .ok (.iload 4, 2) := by decide +kernel
theorem dX1_readsSwearers_48 : decode cX1_readsSwearers 48 = .ok (.invokevirtual 59, 3) := by decide +kernel
theorem dX1_readsSwearers_51 : decode cX1_readsSwearers 51 = .ok (.iinc 2 1, 3) := by decide +kernel
theorem dX1_readsSwearers_54 : decode cX1_readsSwearers 54 = .ok (.goto (-52), 3) := by decide +kernel
theorem dX1_readsSwearers_57 : decode cX1_readsSwearers 57 = .ok (.aload_n 1, 1) := by decide +kernel
theorem dX1_readsSwearers_58 : decode cX1_readsSwearers 58 = .ok (.getfield 63, 3) := by decide +kernel
theorem dX1_readsSwearers_61 : decode cX1_readsSwearers 61 = .ok (.ifCond .le 7, 3) := by decide +kernel
theorem dX1_readsSwearers_64 : decode cX1_readsSwearers 64 = .ok (.iconst 1, 1) := by decide +kernel
theorem dX1_readsSwearers_65 : decode cX1_readsSwearers 65 = .ok (.goto 4, 3) := by decide +kernel
theorem dX1_readsSwearers_68 : decode cX1_readsSwearers 68 = .ok (.iconst 0, 1) := by decide +kernel
theorem dX1_readsSwearers_69 : decode cX1_readsSwearers 69 = .ok (.ireturn, 1) := by decide +kernel
theorem dX1_readsOaths_0 : decode cX1_readsOaths 0 = .ok (.iconst 0, 1) := by decide +kernel
theorem dX1_readsOaths_1 : decode cX1_readsOaths 1 = .ok (.istore_n 2, 1) := by decide +kernel
theorem dX1_readsOaths_2 : decode cX1_readsOaths 2 = .ok (.iload_n 2, 1) := by decide +kernel
theorem dX1_readsOaths_3 : decode cX1_readsOaths 3 = .ok (.bipush 6, 2) := by decide +kernel
theorem dX1_readsOaths_5 : decode cX1_readsOaths 5 = .ok (.if_icmp .ge 81, 3) := by decide +kernel
theorem dX1_readsOaths_8 : decode cX1_readsOaths 8 = .ok (.aload_n 0, 1) := by decide +kernel
theorem dX1_readsOaths_9 : decode cX1_readsOaths 9 = .ok (.bipush 44, 2) := by decide +kernel
theorem dX1_readsOaths_11 : decode cX1_readsOaths 11 = .ok (.invokevirtual 30, 3) := by decide +kernel
theorem dX1_readsOaths_14 : decode cX1_readsOaths 14 = .ok (.ifCond .eq 72, 3) := by decide +kernel
theorem dX1_readsOaths_17 : decode cX1_readsOaths 17 = .ok (.aload_n 0, 1) := by decide +kernel
theorem dX1_readsOaths_18 : decode cX1_readsOaths 18 = .ok (.aload_n 1, 1) := by decide +kernel
theorem dX1_readsOaths_19 : decode cX1_readsOaths 19 = .ok (.getfield 63, 3) := by decide +kernel
theorem dX1_readsOaths_22 : decode cX1_readsOaths 22 = .ok (.bipush (-9), 2) := by decide +kernel
theorem dX1_readsOaths_24 : decode cX1_readsOaths 24 = .ok (.invokevirtual 44, 3) := by decide +kernel
theorem dX1_readsOaths_27 : decode cX1_readsOaths 27 = .ok (.istore_n 3, 1) := by decide +kernel
theorem dX1_readsOaths_28 : decode cX1_readsOaths 28 = .ok (.iload_n 3, 1) := by decide +kernel
theorem dX1_readsOaths_29 : decode cX1_readsOaths 29 = .ok (.ifCond .ge 5, 3) := by decide +kernel
theorem dX1_readsOaths_32 : decode cX1_readsOaths 32 = .ok (.iconst 0, 1) := by decide +kernel
theorem dX1_readsOaths_33 : decode cX1_readsOaths 33 = .ok (.ireturn, 1) := by decide +kernel
theorem dX1_readsOaths_34 : decode cX1_readsOaths 34 = .ok (.aload_n 0, 1) := by decide +kernel
theorem dX1_readsOaths_35 : decode cX1_readsOaths 35 = .ok (.aload_n 1, 1) := by decide +kernel
theorem dX1_readsOaths_36 : decode cX1_readsOaths 36 = .ok (.getfield 63, 3) := by decide +kernel
theorem dX1_readsOaths_39 : decode cX1_readsOaths 39 = .ok (.iload_n 3, 1) := by decide +kernel
theorem dX1_readsOaths_40 : decode cX1_readsOaths 40 = .ok (.invokevirtual 44, 3) := by decide +kernel
theorem dX1_readsOaths_43 : decode cX1_readsOaths 43 = .ok (.istore 4, 2) := by decide +kernel
theorem dX1_readsOaths_45 : decode cX1_readsOaths 45 = .ok (.iload 4, 2) := by decide +kernel
theorem dX1_readsOaths_47 : decode cX1_readsOaths 47 = .ok (.ifCond .ge 5, 3) := by decide +kernel
theorem dX1_readsOaths_50 : decode cX1_readsOaths 50 = .ok (.iconst 0, 1) := by decide +kernel
theorem dX1_readsOaths_51 : decode cX1_readsOaths 51 = .ok (.ireturn, 1) := by decide +kernel
theorem dX1_readsOaths_52 : decode cX1_readsOaths 52 = .ok (.aload_n 0, 1) := by decide +kernel
theorem dX1_readsOaths_53 : decode cX1_readsOaths 53 = .ok (.aload_n 1, 1) := by decide +kernel
theorem dX1_readsOaths_54 : decode cX1_readsOaths 54 = .ok (.getfield 52, 3) := by decide +kernel
theorem dX1_readsOaths_57 : decode cX1_readsOaths 57 = .ok (.bipush (-9), 2) := by decide +kernel
theorem dX1_readsOaths_59 : decode cX1_readsOaths 59 = .ok (.invokevirtual 44, 3) := by decide +kernel
theorem dX1_readsOaths_62 : decode cX1_readsOaths 62 = .ok (.istore 5, 2) := by decide +kernel
theorem dX1_readsOaths_64 : decode cX1_readsOaths 64 = .ok (.iload 5, 2) := by decide +kernel
theorem dX1_readsOaths_66 : decode cX1_readsOaths 66 = .ok (.ifCond .ge 5, 3) := by decide +kernel
theorem dX1_readsOaths_69 : decode cX1_readsOaths 69 = .ok (.iconst 0, 1) := by decide +kernel
theorem dX1_readsOaths_70 : decode cX1_readsOaths 70 = .ok (.ireturn, 1) := by decide +kernel
theorem dX1_readsOaths_71 : decode cX1_readsOaths 71 = .ok (.aload_n 1, 1) := by decide +kernel
theorem dX1_readsOaths_72 : decode cX1_readsOaths 72 = .ok (.iload_n 3, 1) := by decide +kernel
theorem dX1_readsOaths_73 : decode cX1_readsOaths 73 = .ok (.iload 4, 2) := by decide +kernel
theorem dX1_readsOaths_75 : decode cX1_readsOaths 75 = .ok (.iload 5, 2) := by decide +kernel
theorem dX1_readsOaths_77 : decode cX1_readsOaths 77 = .ok (.invokevirtual 66, 3) := by decide +kernel
theorem dX1_readsOaths_80 : decode cX1_readsOaths 80 = .ok (.iinc 2 1, 3) := by decide +kernel
theorem dX1_readsOaths_83 : decode cX1_readsOaths 83 = .ok (.goto (-81), 3) := by decide +kernel
theorem dX1_readsOaths_86 : decode cX1_readsOaths 86 = .ok (.iconst 1, 1) := by decide +kernel
theorem dX1_readsOaths_87 : decode cX1_readsOaths 87 = .ok (.ireturn, 1) := by decide +kernel
theorem dX1_kindLetter_0 : decode cX1_kindLetter 0 = .ok (.aload_n 0, 1) := by decide +kernel
theorem dX1_kindLetter_1 : decode cX1_kindLetter 1 = .ok (.bipush 112, 2) := by decide +kernel
theorem dX1_kindLetter_3 : decode cX1_kindLetter 3 = .ok (.invokevirtual 30, 3) := by decide +kernel
theorem dX1_kindLetter_6 : decode cX1_kindLetter 6 = .ok (.ifCond .eq 5, 3) := by decide +kernel
theorem dX1_kindLetter_9 : decode cX1_kindLetter 9 = .ok (.iconst 0, 1) := by decide +kernel
theorem dX1_kindLetter_10 : decode cX1_kindLetter 10 = .ok (.ireturn, 1) := by decide +kernel
theorem dX1_kindLetter_11 : decode cX1_kindLetter 11 = .ok (.aload_n 0, 1) := by decide +kernel
theorem dX1_kindLetter_12 : decode cX1_kindLetter 12 = .ok (.bipush 98, 2) := by decide +kernel
theorem dX1_kindLetter_14 : decode cX1_kindLetter 14 = .ok (.invokevirtual 30, 3) := by decide +kernel
theorem dX1_kindLetter_17 : decode cX1_kindLetter 17 = .ok (.ifCond .eq 5, 3) := by decide +kernel
theorem dX1_kindLetter_20 : decode cX1_kindLetter 20 = .ok (.iconst 1, 1) := by decide +kernel
theorem dX1_kindLetter_21 : decode cX1_kindLetter 21 = .ok (.ireturn, 1) := by decide +kernel
theorem dX1_kindLetter_22 : decode cX1_kindLetter 22 = .ok (.aload_n 0, 1) := by decide +kernel
theorem dX1_kindLetter_23 : decode cX1_kindLetter 23 = .ok (.bipush 100, 2) := by decide +kernel
theorem dX1_kindLetter_25 : decode cX1_kindLetter 25 = .ok (.invokevirtual 30, 3) := by decide +kernel
theorem dX1_kindLetter_28 : decode cX1_kindLetter 28 = .ok (.ifCond .eq 7, 3) := by decide +kernel
theorem dX1_kindLetter_31 : decode cX1_kindLetter 31 = .ok (.iconst 2, 1) := by decide +kernel
theorem dX1_kindLetter_32 : decode cX1_kindLetter 32 = .ok (.goto 5, 3) := by decide +kernel
theorem dX1_kindLetter_35 : decode cX1_kindLetter 35 = .ok (.bipush (-9), 2) := by decide +kernel
theorem dX1_kindLetter_37 : decode cX1_kindLetter 37 = .ok (.ireturn, 1) := by decide +kernel
theorem dX1_passes_0 : decode cX1_passes 0 = .ok (.aload_n 0, 1) := by decide +kernel
theorem dX1_passes_1 : decode cX1_passes 1 = .ok (.invokevirtual 70, 3) := by decide +kernel
theorem dX1_passes_4 : decode cX1_passes 4 = .ok (.ifCond .ne 23, 3) := by decide +kernel
theorem dX1_passes_7 : decode cX1_passes 7 = .ok (.aload_n 0, 1) := by decide +kernel
theorem dX1_passes_8 : decode cX1_passes 8 = .ok (.getfield 9, 3) := by decide +kernel
theorem dX1_passes_11 : decode cX1_passes 11 = .ok (.aload_n 0, 1) := by decide +kernel
theorem dX1_passes_12 : decode cX1_passes 12 = .ok (.getfield 15, 3) := by decide +kernel
theorem dX1_passes_15 : decode cX1_passes 15 = .ok (.aload_n 0, 1) := by decide +kernel
theorem dX1_passes_16 : decode cX1_passes 16 = .ok (.getfield 22, 3) := by decide +kernel
theorem dX1_passes_19 : decode cX1_passes 19 = .ok (.iadd, 1) := by decide +kernel
theorem dX1_passes_20 : decode cX1_passes 20 = .ok (.invokevirtual 74, 3) := by decide +kernel
theorem dX1_passes_23 : decode cX1_passes 23 = .ok (.iload_n 1, 1) := by decide +kernel
theorem dX1_passes_24 : decode cX1_passes 24 = .ok (.if_icmp .eq 5, 3) := by decide +kernel
theorem dX1_passes_27 : decode cX1_passes 27 = .ok (.iconst 0, 1) := by decide +kernel
theorem dX1_passes_28 : decode cX1_passes 28 = .ok (.ireturn, 1) := by decide +kernel
theorem dX1_passes_29 : decode cX1_passes 29 = .ok (.aload_n 0, 1) := by decide +kernel
theorem dX1_passes_30 : decode cX1_passes 30 = .ok (.dup, 1) := by decide +kernel
theorem dX1_passes_31 : decode cX1_passes 31 = .ok (.getfield 22, 3) := by decide +kernel
theorem dX1_passes_34 : decode cX1_passes 34 = .ok (.iconst 1, 1) := by decide +kernel
theorem dX1_passes_35 : decode cX1_passes 35 = .ok (.iadd, 1) := by decide +kernel
theorem dX1_passes_36 : decode cX1_passes 36 = .ok (.putfield 22, 3) := by decide +kernel
theorem dX1_passes_39 : decode cX1_passes 39 = .ok (.iconst 1, 1) := by decide +kernel
theorem dX1_passes_40 : decode cX1_passes 40 = .ok (.ireturn, 1) := by decide +kernel
theorem dX1_digitBelow_0 : decode cX1_digitBelow 0 = .ok (.aload_n 0, 1) := by decide +kernel
theorem dX1_digitBelow_1 : decode cX1_digitBelow 1 = .ok (.invokevirtual 70, 3) := by decide +kernel
theorem dX1_digitBelow_4 : decode cX1_digitBelow 4 = .ok (.ifCond .eq 6, 3) := by decide +kernel
theorem dX1_digitBelow_7 : decode cX1_digitBelow 7 = .ok (.bipush (-9), 2) := by decide +kernel
theorem dX1_digitBelow_9 : decode cX1_digitBelow 9 = .ok (.ireturn, 1) := by decide +kernel
theorem dX1_digitBelow_10 : decode cX1_digitBelow 10 = .ok (.aload_n 0, 1) := by decide +kernel
theorem dX1_digitBelow_11 : decode cX1_digitBelow 11 = .ok (.getfield 9, 3) := by decide +kernel
theorem dX1_digitBelow_14 : decode cX1_digitBelow 14 = .ok (.aload_n 0, 1) := by decide +kernel
theorem dX1_digitBelow_15 : decode cX1_digitBelow 15 = .ok (.getfield 15, 3) := by decide +kernel
theorem dX1_digitBelow_18 : decode cX1_digitBelow 18 = .ok (.aload_n 0, 1) := by decide +kernel
theorem dX1_digitBelow_19 : decode cX1_digitBelow 19 = .ok (.getfield 22, 3) := by decide +kernel
theorem dX1_digitBelow_22 : decode cX1_digitBelow 22 = .ok (.iadd, 1) := by decide +kernel
theorem dX1_digitBelow_23 : decode cX1_digitBelow 23 = .ok (.invokevirtual 74, 3) := by decide +kernel
theorem dX1_digitBelow_26 : decode cX1_digitBelow 26 = .ok (.istore_n 3, 1) := by decide +kernel
theorem dX1_digitBelow_27 : decode cX1_digitBelow 27 = .ok (.iload_n 3, 1) := by decide +kernel
theorem dX1_digitBelow_28 : decode cX1_digitBelow 28 = .ok (.bipush 48, 2) := by decide +kernel
theorem dX1_digitBelow_30 : decode cX1_digitBelow 30 = .ok (.if_icmp .lt 19, 3) := by decide +kernel
theorem dX1_digitBelow_33 : decode cX1_digitBelow 33 = .ok (.iload_n 3, 1) := by decide +kernel
theorem dX1_digitBelow_34 : decode cX1_digitBelow 34 = .ok (.bipush 48, 2) := by decide +kernel
theorem dX1_digitBelow_36 : decode cX1_digitBelow 36 = .ok (.iload_n 1, 1) := by decide +kernel
theorem dX1_digitBelow_37 : decode cX1_digitBelow 37 = .ok (.iadd, 1) := by decide +kernel
theorem dX1_digitBelow_38 : decode cX1_digitBelow 38 = .ok (.if_icmp .ge 11, 3) := by decide +kernel
theorem dX1_digitBelow_41 : decode cX1_digitBelow 41 = .ok (.iload_n 3, 1) := by decide +kernel
theorem dX1_digitBelow_42 : decode cX1_digitBelow 42 = .ok (.bipush 48, 2) := by decide +kernel
theorem dX1_digitBelow_44 : decode cX1_digitBelow 44 = .ok (.iload_n 2, 1) := by decide +kernel
theorem dX1_digitBelow_45 : decode cX1_digitBelow 45 = .ok (.iadd, 1) := by decide +kernel
theorem dX1_digitBelow_46 : decode cX1_digitBelow 46 = .ok (.if_icmp .ne 6, 3) := by decide +kernel
theorem dX1_digitBelow_49 : decode cX1_digitBelow 49 = .ok (.bipush (-9), 2) := by decide +kernel
theorem dX1_digitBelow_51 : decode cX1_digitBelow 51 = .ok (.ireturn, 1) := by decide +kernel
theorem dX1_digitBelow_52 : decode cX1_digitBelow 52 = .ok (.aload_n 0, 1) := by decide +kernel
theorem dX1_digitBelow_53 : decode cX1_digitBelow 53 = .ok (.dup, 1) := by decide +kernel
theorem dX1_digitBelow_54 : decode cX1_digitBelow 54 = .ok (.getfield 22, 3) := by decide +kernel
theorem dX1_digitBelow_57 : decode cX1_digitBelow 57 = .ok (.iconst 1, 1) := by decide +kernel
theorem dX1_digitBelow_58 : decode cX1_digitBelow 58 = .ok (.iadd, 1) := by decide +kernel
theorem dX1_digitBelow_59 : decode cX1_digitBelow 59 = .ok (.putfield 22, 3) := by decide +kernel
theorem dX1_digitBelow_62 : decode cX1_digitBelow 62 = .ok (.iload_n 3, 1) := by decide +kernel
theorem dX1_digitBelow_63 : decode cX1_digitBelow 63 = .ok (.bipush 48, 2) := by decide +kernel
theorem dX1_digitBelow_65 : decode cX1_digitBelow 65 = .ok (.isub, 1) := by decide +kernel
theorem dX1_digitBelow_66 : decode cX1_digitBelow 66 = .ok (.ireturn, 1) := by decide +kernel
theorem dX1_isAtEnd_0 : decode cX1_isAtEnd 0 = .ok (.aload_n 0, 1) := by decide +kernel
theorem dX1_isAtEnd_1 : decode cX1_isAtEnd 1 = .ok (.getfield 9, 3) := by decide +kernel
theorem dX1_isAtEnd_4 : decode cX1_isAtEnd 4 = .ok (.ifnull 14, 3) := by decide +kernel
theorem dX1_isAtEnd_7 : decode cX1_isAtEnd 7 = .ok (.aload_n 0, 1) := by decide +kernel
theorem dX1_isAtEnd_8 : decode cX1_isAtEnd 8 = .ok (.getfield 22, 3) := by decide +kernel
theorem dX1_isAtEnd_11 : decode cX1_isAtEnd 11 = .ok (.aload_n 0, 1) := by decide +kernel
theorem dX1_isAtEnd_12 : decode cX1_isAtEnd 12 = .ok (.getfield 19, 3) := by decide +kernel
theorem dX1_isAtEnd_15 : decode cX1_isAtEnd 15 = .ok (.if_icmp .lt 7, 3) := by decide +kernel
theorem dX1_isAtEnd_18 : decode cX1_isAtEnd 18 = .ok (.iconst 1, 1) := by decide +kernel
theorem dX1_isAtEnd_19 : decode cX1_isAtEnd 19 = .ok (.goto 4, 3) := by decide +kernel
theorem dX1_isAtEnd_22 : decode cX1_isAtEnd 22 = .ok (.iconst 0, 1) := by decide +kernel
theorem dX1_isAtEnd_23 : decode cX1_isAtEnd 23 = .ok (.ireturn, 1) := by decide +kernel
theorem dX2_init_0 : decode cX2_init 0 = .ok (.aload_n 0, 1) := by decide +kernel
theorem dX2_init_1 : decode cX2_init 1 = .ok (.invokespecial 3, 3) := by decide +kernel
theorem dX2_init_4 : decode cX2_init 4 = .ok (.aload_n 0, 1) := by decide +kernel
theorem dX2_init_5 : decode cX2_init 5 = .ok (.bipush 8, 2) := by decide +kernel
theorem dX2_init_7 : decode cX2_init 7 = .ok (.newarray .int, 2) := by decide +kernel
theorem dX2_init_9 : decode cX2_init 9 = .ok (.putfield 9, 3) := by decide +kernel
theorem dX2_init_12 : decode cX2_init 12 = .ok (.aload_n 0, 1) := by decide +kernel
theorem dX2_init_13 : decode cX2_init 13 = .ok (.bipush 8, 2) := by decide +kernel
theorem dX2_init_15 : decode cX2_init 15 = .ok (.newarray .int, 2) := by decide +kernel
theorem dX2_init_17 : decode cX2_init 17 = .ok (.putfield 15, 3) := by decide +kernel
theorem dX2_init_20 : decode cX2_init 20 = .ok (.aload_n 0, 1) := by decide +kernel
theorem dX2_init_21 : decode cX2_init 21 = .ok (.bipush 8, 2) := by decide +kernel
theorem dX2_init_23 : decode cX2_init 23 = .ok (.newarray .boolean, 2) := by decide +kernel
theorem dX2_init_25 : decode cX2_init 25 = .ok (.putfield 18, 3) := by decide +kernel
theorem dX2_init_28 : decode cX2_init 28 = .ok (.return_, 1) := by decide +kernel
theorem dX2_add_0 : decode cX2_add 0 = .ok (.aload_n 0, 1) := by decide +kernel
theorem dX2_add_1 : decode cX2_add 1 = .ok (.getfield 22, 3) := by decide +kernel
theorem dX2_add_4 : decode cX2_add 4 = .ok (.bipush 8, 2) := by decide +kernel
theorem dX2_add_6 : decode cX2_add 6 = .ok (.if_icmp .ge 43, 3) := by decide +kernel
theorem dX2_add_9 : decode cX2_add 9 = .ok (.aload_n 0, 1) := by decide +kernel
theorem dX2_add_10 : decode cX2_add 10 = .ok (.getfield 9, 3) := by decide +kernel
theorem dX2_add_13 : decode cX2_add 13 = .ok (.aload_n 0, 1) := by decide +kernel
theorem dX2_add_14 : decode cX2_add 14 = .ok (.getfield 22, 3) := by decide +kernel
theorem dX2_add_17 : decode cX2_add 17 = .ok (.iload_n 1, 1) := by decide +kernel
theorem dX2_add_18 : decode cX2_add 18 = .ok (.iastore, 1) := by decide +kernel
theorem dX2_add_19 : decode cX2_add 19 = .ok (.aload_n 0, 1) := by decide +kernel
theorem dX2_add_20 : decode cX2_add 20 = .ok (.getfield 15, 3) := by decide +kernel
theorem dX2_add_23 : decode cX2_add 23 = .ok (.aload_n 0, 1) := by decide +kernel
theorem dX2_add_24 : decode cX2_add 24 = .ok (.getfield 22, 3) := by decide +kernel
theorem dX2_add_27 : decode cX2_add 27 = .ok (.iload_n 2, 1) := by decide +kernel
theorem dX2_add_28 : decode cX2_add 28 = .ok (.iastore, 1) := by decide +kernel
theorem dX2_add_29 : decode cX2_add 29 = .ok (.aload_n 0, 1) := by decide +kernel
theorem dX2_add_30 : decode cX2_add 30 = .ok (.getfield 18, 3) := by decide +kernel
theorem dX2_add_33 : decode cX2_add 33 = .ok (.aload_n 0, 1) := by decide +kernel
theorem dX2_add_34 : decode cX2_add 34 = .ok (.getfield 22, 3) := by decide +kernel
theorem dX2_add_37 : decode cX2_add 37 = .ok (.iload_n 3, 1) := by decide +kernel
theorem dX2_add_38 : decode cX2_add 38 = .ok (.bastore, 1) := by decide +kernel
theorem dX2_add_39 : decode cX2_add 39 = .ok (.aload_n 0, 1) := by decide +kernel
theorem dX2_add_40 : decode cX2_add 40 = .ok (.dup, 1) := by decide +kernel
theorem dX2_add_41 : decode cX2_add 41 = .ok (.getfield 22, 3) := by decide +kernel
theorem dX2_add_44 : decode cX2_add 44 = .ok (.iconst 1, 1) := by decide +kernel
theorem dX2_add_45 : decode cX2_add 45 = .ok (.iadd, 1) := by decide +kernel
theorem dX2_add_46 : decode cX2_add 46 = .ok (.putfield 22, 3) := by decide +kernel
theorem dX2_add_49 : decode cX2_add 49 = .ok (.return_, 1) := by decide +kernel
theorem dX2_holdIn_0 : decode cX2_holdIn 0 = .ok (.iconst 0, 1) := by decide +kernel
theorem dX2_holdIn_1 : decode cX2_holdIn 1 = .ok (.istore_n 2, 1) := by decide +kernel
theorem dX2_holdIn_2 : decode cX2_holdIn 2 = .ok (.iload_n 2, 1) := by decide +kernel
theorem dX2_holdIn_3 : decode cX2_holdIn 3 = .ok (.aload_n 0, 1) := by decide +kernel
theorem dX2_holdIn_4 : decode cX2_holdIn 4 = .ok (.getfield 22, 3) := by decide +kernel
theorem dX2_holdIn_7 : decode cX2_holdIn 7 = .ok (.if_icmp .ge 36, 3) := by decide +kernel
theorem dX2_holdIn_10 : decode cX2_holdIn 10 = .ok (.aload_n 1, 1) := by decide +kernel
theorem dX2_holdIn_11 : decode cX2_holdIn 11 = .ok (.aload_n 0, 1) := by decide +kernel
theorem dX2_holdIn_12 : decode cX2_holdIn 12 = .ok (.getfield 9, 3) := by decide +kernel
theorem dX2_holdIn_15 : decode cX2_holdIn 15 = .ok (.iload_n 2, 1) := by decide +kernel
theorem dX2_holdIn_16 : decode cX2_holdIn 16 = .ok (.iaload, 1) := by decide +kernel
theorem dX2_holdIn_17 : decode cX2_holdIn 17 = .ok (.aload_n 0, 1) := by decide +kernel
theorem dX2_holdIn_18 : decode cX2_holdIn 18 = .ok (.getfield 15, 3) := by decide +kernel
theorem dX2_holdIn_21 : decode cX2_holdIn 21 = .ok (.iload_n 2, 1) := by decide +kernel
theorem dX2_holdIn_22 : decode cX2_holdIn 22 = .ok (.iaload, 1) := by decide +kernel
theorem dX2_holdIn_23 : decode cX2_holdIn 23 = .ok (.invokevirtual 26, 3) := by decide +kernel
theorem dX2_holdIn_26 : decode cX2_holdIn 26 = .ok (.aload_n 0, 1) := by decide +kernel
theorem dX2_holdIn_27 : decode cX2_holdIn 27 = .ok (.getfield 18, 3) := by decide +kernel
theorem dX2_holdIn_30 : decode cX2_holdIn 30 = .ok (.iload_n 2, 1) := by decide +kernel
theorem dX2_holdIn_31 : decode cX2_holdIn 31 = .ok (.baload, 1) := by decide +kernel
theorem dX2_holdIn_32 : decode cX2_holdIn 32 = .ok (.if_icmp .eq 5, 3) := by decide +kernel
theorem dX2_holdIn_35 : decode cX2_holdIn 35 = .ok (.iconst 0, 1) := by decide +kernel
theorem dX2_holdIn_36 : decode cX2_holdIn 36 = .ok (.ireturn, 1) := by decide +kernel
theorem dX2_holdIn_37 : decode cX2_holdIn 37 = .ok (.iinc 2 1, 3) := by decide +kernel
theorem dX2_holdIn_40 : decode cX2_holdIn 40 = .ok (.goto (-38), 3) := by decide +kernel
theorem dX2_holdIn_43 : decode cX2_holdIn 43 = .ok (.iconst 1, 1) := by decide +kernel
theorem dX2_holdIn_44 : decode cX2_holdIn 44 = .ok (.ireturn, 1) := by decide +kernel
theorem dX3_init_0 : decode cX3_init 0 = .ok (.aload_n 0, 1) := by decide +kernel
theorem dX3_init_1 : decode cX3_init 1 = .ok (.invokespecial 3, 3) := by decide +kernel
theorem dX3_init_4 : decode cX3_init 4 = .ok (.aload_n 0, 1) := by decide +kernel
theorem dX3_init_5 : decode cX3_init 5 = .ok (.bipush 60, 2) := by decide +kernel
theorem dX3_init_7 : decode cX3_init 7 = .ok (.newarray .int, 2) := by decide +kernel
theorem dX3_init_9 : decode cX3_init 9 = .ok (.putfield 9, 3) := by decide +kernel
theorem dX3_init_12 : decode cX3_init 12 = .ok (.return_, 1) := by decide +kernel
theorem dX3_renew_0 : decode cX3_renew 0 = .ok (.aload_n 0, 1) := by decide +kernel
theorem dX3_renew_1 : decode cX3_renew 1 = .ok (.iconst 1, 1) := by decide +kernel
theorem dX3_renew_2 : decode cX3_renew 2 = .ok (.putfield 15, 3) := by decide +kernel
theorem dX3_renew_5 : decode cX3_renew 5 = .ok (.aload_n 0, 1) := by decide +kernel
theorem dX3_renew_6 : decode cX3_renew 6 = .ok (.iload_n 1, 1) := by decide +kernel
theorem dX3_renew_7 : decode cX3_renew 7 = .ok (.putfield 19, 3) := by decide +kernel
theorem dX3_renew_10 : decode cX3_renew 10 = .ok (.aload_n 0, 1) := by decide +kernel
theorem dX3_renew_11 : decode cX3_renew 11 = .ok (.iload_n 2, 1) := by decide +kernel
theorem dX3_renew_12 : decode cX3_renew 12 = .ok (.putfield 23, 3) := by decide +kernel
theorem dX3_renew_15 : decode cX3_renew 15 = .ok (.aload_n 0, 1) := by decide +kernel
theorem dX3_renew_16 : decode cX3_renew 16 = .ok (.getfield 9, 3) := by decide +kernel
theorem dX3_renew_19 : decode cX3_renew 19 = .ok (.iconst 0, 1) := by decide +kernel
theorem dX3_renew_20 : decode cX3_renew 20 = .ok (.invokestatic 26, 3) := by decide +kernel
theorem dX3_renew_23 : decode cX3_renew 23 = .ok (.return_, 1) := by decide +kernel
theorem dX3_faultAs_0 : decode cX3_faultAs 0 = .ok (.aload_n 0, 1) := by decide +kernel
theorem dX3_faultAs_1 : decode cX3_faultAs 1 = .ok (.getfield 15, 3) := by decide +kernel
theorem dX3_faultAs_4 : decode cX3_faultAs 4 = .ok (.ifCond .ne 5, 3) := by decide +kernel
theorem dX3_faultAs_7 : decode cX3_faultAs 7 = .ok (.iconst 1, 1) := by decide +kernel
theorem dX3_faultAs_8 : decode cX3_faultAs 8 = .ok (.ireturn, 1) := by decide +kernel
theorem dX3_faultAs_9 : decode cX3_faultAs 9 = .ok (.aload_n 0, 1) := by decide +kernel
theorem dX3_faultAs_10 : decode cX3_faultAs 10 = .ok (.getfield 19, 3) := by decide +kernel
theorem dX3_faultAs_13 : decode cX3_faultAs 13 = .ok (.iload_n 1, 1) := by decide +kernel
theorem dX3_faultAs_14 : decode cX3_faultAs 14 = .ok (.if_icmp .ne 7, 3) := by decide +kernel
theorem dX3_faultAs_17 : decode cX3_faultAs 17 = .ok (.iconst 0, 1) := by decide +kernel
theorem dX3_faultAs_18 : decode cX3_faultAs 18 = .ok (.goto 4, 3) := by decide +kernel
theorem dX3_faultAs_21 : decode cX3_faultAs 21 = .ok (.iconst 2, 1) := by decide +kernel
theorem dX3_faultAs_22 : decode cX3_faultAs 22 = .ok (.ireturn, 1) := by decide +kernel
theorem dX3_hasCell_0 : decode cX3_hasCell 0 = .ok (.iload_n 1, 1) := by decide +kernel
theorem dX3_hasCell_1 : decode cX3_hasCell 1 = .ok (.ifCond .lt 15, 3) := by decide +kernel
theorem dX3_hasCell_4 : decode cX3_hasCell 4 = .ok (.iload_n 1, 1) := by decide +kernel
theorem dX3_hasCell_5 : decode cX3_hasCell 5 = .ok (.aload_n 0, 1) := by decide +kernel
theorem dX3_hasCell_6 : decode cX3_hasCell 6 = .ok (.getfield 23, 3) := by decide +kernel
theorem dX3_hasCell_9 : decode cX3_hasCell 9 = .ok (.if_icmp .ge 7, 3) := by decide +kernel
theorem dX3_hasCell_12 : decode cX3_hasCell 12 = .ok (.iconst 1, 1) := by decide +kernel
theorem dX3_hasCell_13 : decode cX3_hasCell 13 = .ok (.goto 4, 3) := by decide +kernel
theorem dX3_hasCell_16 : decode cX3_hasCell 16 = .ok (.iconst 0, 1) := by decide +kernel
theorem dX3_hasCell_17 : decode cX3_hasCell 17 = .ok (.ireturn, 1) := by decide +kernel
theorem dX3_hasCells_0 : decode cX3_hasCells 0 = .ok (.iload_n 1, 1) := by decide +kernel
theorem dX3_hasCells_1 : decode cX3_hasCells 1 = .ok (.ifCond .lt 29, 3) := by decide +kernel
theorem dX3_hasCells_4 : decode cX3_hasCells 4 = .ok (.iload_n 1, 1) := by decide +kernel
theorem dX3_hasCells_5 : decode cX3_hasCells 5 = .ok (.aload_n 0, 1) := by decide +kernel
theorem dX3_hasCells_6 : decode cX3_hasCells 6 = .ok (.getfield 23, 3) := by decide +kernel
theorem dX3_hasCells_9 : decode cX3_hasCells 9 = .ok (.if_icmp .gt 21, 3) := by decide +kernel
theorem dX3_hasCells_12 : decode cX3_hasCells 12 = .ok (.iload_n 2, 1) := by decide +kernel
theorem dX3_hasCells_13 : decode cX3_hasCells 13 = .ok (.ifCond .lt 17, 3) := by decide +kernel
theorem dX3_hasCells_16 : decode cX3_hasCells 16 = .ok (.iload_n 2, 1) := by decide +kernel
theorem dX3_hasCells_17 : decode cX3_hasCells 17 = .ok (.aload_n 0, 1) := by decide +kernel
theorem dX3_hasCells_18 : decode cX3_hasCells 18 = .ok (.getfield 23, 3) := by decide +kernel
theorem dX3_hasCells_21 : decode cX3_hasCells 21 = .ok (.iload_n 1, 1) := by decide +kernel
theorem dX3_hasCells_22 : decode cX3_hasCells 22 = .ok (.isub, 1) := by decide +kernel
theorem dX3_hasCells_23 : decode cX3_hasCells 23 = .ok (.if_icmp .gt 7, 3) := by decide +kernel
theorem dX3_hasCells_26 : decode cX3_hasCells 26 = .ok (.iconst 1, 1) := by decide +kernel
theorem dX3_hasCells_27 : decode cX3_hasCells 27 = .ok (.goto 4, 3) := by decide +kernel
theorem dX3_hasCells_30 : decode cX3_hasCells 30 = .ok (.iconst 0, 1) := by decide +kernel
theorem dX3_hasCells_31 : decode cX3_hasCells 31 = .ok (.ireturn, 1) := by decide +kernel
theorem dX3_at_0 : decode cX3_at 0 = .ok (.aload_n 0, 1) := by decide +kernel
theorem dX3_at_1 : decode cX3_at 1 = .ok (.iload_n 1, 1) := by decide +kernel
theorem dX3_at_2 : decode cX3_at 2 = .ok (.invokevirtual 32, 3) := by decide +kernel
theorem dX3_at_5 : decode cX3_at 5 = .ok (.ifCond .eq 12, 3) := by decide +kernel
theorem dX3_at_8 : decode cX3_at 8 = .ok (.aload_n 0, 1) := by decide +kernel
theorem dX3_at_9 : decode cX3_at 9 = .ok (.getfield 9, 3) := by decide +kernel
theorem dX3_at_12 : decode cX3_at 12 = .ok (.iload_n 1, 1) := by decide +kernel
theorem dX3_at_13 : decode cX3_at 13 = .ok (.iaload, 1) := by decide +kernel
theorem dX3_at_14 : decode cX3_at 14 = .ok (.goto 4, 3) := by decide +kernel
theorem dX3_at_17 : decode cX3_at 17 = .ok (.iconst 0, 1) := by decide +kernel
theorem dX3_at_18 : decode cX3_at 18 = .ok (.ireturn, 1) := by decide +kernel
theorem dX3_store_0 : decode cX3_store 0 = .ok (.aload_n 0, 1) := by decide +kernel
theorem dX3_store_1 : decode cX3_store 1 = .ok (.iload_n 1, 1) := by decide +kernel
theorem dX3_store_2 : decode cX3_store 2 = .ok (.invokevirtual 32, 3) := by decide +kernel
theorem dX3_store_5 : decode cX3_store 5 = .ok (.ifCond .eq 14, 3) := by decide +kernel
theorem dX3_store_8 : decode cX3_store 8 = .ok (.aload_n 0, 1) := by decide +kernel
theorem dX3_store_9 : decode cX3_store 9 = .ok (.getfield 9, 3) := by decide +kernel
theorem dX3_store_12 : decode cX3_store 12 = .ok (.iload_n 1, 1) := by decide +kernel
theorem dX3_store_13 : decode cX3_store 13 = .ok (.aload_n 0, 1) := by decide +kernel
theorem dX3_store_14 : decode cX3_store 14 = .ok (.iload_n 2, 1) := by decide +kernel
theorem dX3_store_15 : decode cX3_store 15 = .ok (.invokevirtual 36, 3) := by decide +kernel
theorem dX3_store_18 : decode cX3_store 18 = .ok (.iastore, 1) := by decide +kernel
theorem dX3_store_19 : decode cX3_store 19 = .ok (.return_, 1) := by decide +kernel
theorem dX3_cutToLane_0 : decode cX3_cutToLane 0 = .ok (.aload_n 0, 1) := by decide +kernel
theorem dX3_cutToLane_1 : decode cX3_cutToLane 1 = .ok (.getfield 19, 3) := by decide +kernel
theorem dX3_cutToLane_4 : decode cX3_cutToLane 4 = .ok (.lookupswitch 34 #[(0, 28), (1, 31)], 28) := by decide +kernel
theorem dX3_cutToLane_32 : decode cX3_cutToLane 32 = .ok (.iload_n 1, 1) := by decide +kernel
theorem dX3_cutToLane_33 : decode cX3_cutToLane 33 = .ok (.i2b, 1) := by decide +kernel
theorem dX3_cutToLane_34 : decode cX3_cutToLane 34 = .ok (.ireturn, 1) := by decide +kernel
theorem dX3_cutToLane_35 : decode cX3_cutToLane 35 = .ok (.iload_n 1, 1) := by decide +kernel
theorem dX3_cutToLane_36 : decode cX3_cutToLane 36 = .ok (.i2s, 1) := by decide +kernel
theorem dX3_cutToLane_37 : decode cX3_cutToLane 37 = .ok (.ireturn, 1) := by decide +kernel
theorem dX3_cutToLane_38 : decode cX3_cutToLane 38 = .ok (.iload_n 1, 1) := by decide +kernel
theorem dX3_cutToLane_39 : decode cX3_cutToLane 39 = .ok (.ireturn, 1) := by decide +kernel
theorem dX4_init_0 : decode cX4_init 0 = .ok (.aload_n 0, 1) := by decide +kernel
theorem dX4_init_1 : decode cX4_init 1 = .ok (.invokespecial 3, 3) := by decide +kernel
theorem dX4_init_4 : decode cX4_init 4 = .ok (.aload_n 0, 1) := by decide +kernel
theorem dX4_init_5 : decode cX4_init 5 = .ok (.iconst 4, 1) := by decide +kernel
theorem dX4_init_6 : decode cX4_init 6 = .ok (.anewarray 11, 3) := by decide +kernel
theorem dX4_init_9 : decode cX4_init 9 = .ok (.putfield 13, 3) := by decide +kernel
theorem dX4_init_12 : decode cX4_init 12 = .ok (.iconst 0, 1) := by decide +kernel
theorem dX4_init_13 : decode cX4_init 13 = .ok (.istore_n 1, 1) := by decide +kernel
theorem dX4_init_14 : decode cX4_init 14 = .ok (.iload_n 1, 1) := by decide +kernel
theorem dX4_init_15 : decode cX4_init 15 = .ok (.iconst 4, 1) := by decide +kernel
theorem dX4_init_16 : decode cX4_init 16 = .ok (.if_icmp .ge 22, 3) := by decide +kernel
theorem dX4_init_19 : decode cX4_init 19 = .ok (.aload_n 0, 1) := by decide +kernel
theorem dX4_init_20 : decode cX4_init 20 = .ok (.getfield 13, 3) := by decide +kernel
theorem dX4_init_23 : decode cX4_init 23 = .ok (.iload_n 1, 1) := by decide +kernel
theorem dX4_init_24 : decode cX4_init 24 = .ok (.new 11, 3) := by decide +kernel
theorem dX4_init_27 : decode cX4_init 27 = .ok (.dup, 1) := by decide +kernel
theorem dX4_init_28 : decode cX4_init 28 = .ok (.invokespecial 17, 3) := by decide +kernel
theorem dX4_init_31 : decode cX4_init 31 = .ok (.aastore, 1) := by decide +kernel
theorem dX4_init_32 : decode cX4_init 32 = .ok (.iinc 1 1, 3) := by decide +kernel
theorem dX4_init_35 : decode cX4_init 35 = .ok (.goto (-21), 3) := by decide +kernel
theorem dX4_init_38 : decode cX4_init 38 = .ok (.aload_n 0, 1) := by decide +kernel
theorem dX4_init_39 : decode cX4_init 39 = .ok (.new 18, 3) := by decide +kernel
theorem dX4_init_42 : decode cX4_init 42 = .ok (.dup, 1) := by decide +kernel
theorem dX4_init_43 : decode cX4_init 43 = .ok (.invokespecial 20, 3) := by decide +kernel
theorem dX4_init_46 : decode cX4_init 46 = .ok (.putfield 21, 3) := by decide +kernel
theorem dX4_init_49 : decode cX4_init 49 = .ok (.aload_n 0, 1) := by decide +kernel
theorem dX4_init_50 : decode cX4_init 50 = .ok (.new 18, 3) := by decide +kernel
theorem dX4_init_53 : decode cX4_init 53 = .ok (.dup, 1) := by decide +kernel
theorem dX4_init_54 : decode cX4_init 54 = .ok (.invokespecial 20, 3) := by decide +kernel
theorem dX4_init_57 : decode cX4_init 57 = .ok (.putfield 25, 3) := by decide +kernel
theorem dX4_init_60 : decode cX4_init 60 = .ok (.aload_n 0, 1) := by decide +kernel
theorem dX4_init_61 : decode cX4_init 61 = .ok (.new 28, 3) := by decide +kernel
theorem dX4_init_64 : decode cX4_init 64 = .ok (.dup, 1) := by decide +kernel
theorem dX4_init_65 : decode cX4_init 65 = .ok (.invokespecial 30, 3) := by decide +kernel
theorem dX4_init_68 : decode cX4_init 68 = .ok (.putfield 31, 3) := by decide +kernel
theorem dX4_init_71 : decode cX4_init 71 = .ok (.aload_n 0, 1) := by decide +kernel
theorem dX4_init_72 : decode cX4_init 72 = .ok (.new 35, 3) := by decide +kernel
theorem dX4_init_75 : decode cX4_init 75 = .ok (.dup, 1) := by decide +kernel
theorem dX4_init_76 : decode cX4_init 76 = .ok (.invokespecial 37, 3) := by decide +kernel
theorem dX4_init_79 : decode cX4_init 79 = .ok (.putfield 38, 3) := by decide +kernel
theorem dX4_init_82 : decode cX4_init 82 = .ok (.return_, 1) := by decide +kernel
theorem dX4_day_0 : decode cX4_day 0 = .ok (.aload_n 0, 1) := by decide +kernel
theorem dX4_day_1 : decode cX4_day 1 = .ok (.iconst 0, 1) := by decide +kernel
theorem dX4_day_2 : decode cX4_day 2 = .ok (.putfield 42, 3) := by decide +kernel
theorem dX4_day_5 : decode cX4_day 5 = .ok (.iload_n 1, 1) := by decide +kernel
theorem dX4_day_6 : decode cX4_day 6 = .ok (.invokestatic 46, 3) := by decide +kernel
theorem dX4_day_9 : decode cX4_day 9 = .ok (.ifCond .ne 5, 3) := by decide +kernel
theorem dX4_day_12 : decode cX4_day 12 = .ok (.iconst (-1), 1) := by decide +kernel
theorem dX4_day_13 : decode cX4_day 13 = .ok (.ireturn, 1) := by decide +kernel
theorem dX4_day_14 : decode cX4_day 14 = .ok (.iload_n 2, 1) := by decide +kernel
theorem dX4_day_15 : decode cX4_day 15 = .ok (.invokestatic 50, 3) := by decide +kernel
theorem dX4_day_18 : decode cX4_day 18 = .ok (.ifCond .ne 6, 3) := by decide +kernel
theorem dX4_day_21 : decode cX4_day 21 = .ok (.bipush (-2), 2) := by decide +kernel
theorem dX4_day_23 : decode cX4_day 23 = .ok (.ireturn, 1) := by decide +kernel
theorem dX4_day_24 : decode cX4_day 24 = .ok (.aload_n 0, 1) := by decide +kernel
theorem dX4_day_25 : decode cX4_day 25 = .ok (.getfield 13, 3) := by decide +kernel
theorem dX4_day_28 : decode cX4_day 28 = .ok (.iload_n 1, 1) := by decide +kernel
theorem dX4_day_29 : decode cX4_day 29 = .ok (.aaload, 1) := by decide +kernel
theorem dX4_day_30 : decode cX4_day 30 = .ok (.astore 5, 2) := by decide +kernel
theorem dX4_day_32 : decode cX4_day 32 = .ok (.aload 5, 2) := by decide +kernel
theorem dX4_day_34 : decode cX4_day 34 = .ok (.iload_n 2, 1) := by decide +kernel
theorem dX4_day_35 : decode cX4_day 35 = .ok (.invokevirtual 53, 3) := by decide +kernel
theorem dX4_day_38 : decode cX4_day 38 = .ok (.istore 6, 2) := by decide +kernel
theorem dX4_day_40 : decode cX4_day 40 = .ok (.iload 6, 2) := by decide +kernel
theorem dX4_day_42 : decode cX4_day 42 = .ok (.ifCond .ne 11, 3) := by decide +kernel
theorem dX4_day_45 : decode cX4_day 45 = .ok (.iload 4, 2) := by decide +kernel
theorem dX4_day_47 : decode cX4_day 47 = .ok (.ifCond .ge 6, 3) := by decide +kernel
theorem dX4_day_50 : decode cX4_day 50 = .ok (.iconst 4, 1) := by decide +kernel
theorem dX4_day_51 : decode cX4_day 51 = .ok (.istore 6, 2) := by decide +kernel
theorem dX4_day_53 : decode cX4_day 53 = .ok (.iload 6, 2) := by decide +kernel
theorem dX4_day_55 : decode cX4_day 55 = .ok (.ifCond .ne 17, 3) := by decide +kernel
theorem dX4_day_58 : decode cX4_day 58 = .ok (.aload 5, 2) := by decide +kernel
theorem dX4_day_60 : decode cX4_day 60 = .ok (.iload_n 3, 1) := by decide +kernel
theorem dX4_day_61 : decode cX4_day 61 = .ok (.iload 4, 2) := by decide +kernel
theorem dX4_day_63 : decode cX4_day 63 = .ok (.invokevirtual 57, 3) := by decide +kernel
theorem dX4_day_66 : decode cX4_day 66 = .ok (.ifCond .ne 6, 3) := by decide +kernel
theorem dX4_day_69 : decode cX4_day 69 = .ok (.iconst 3, 1) := by decide +kernel
theorem dX4_day_70 : decode cX4_day 70 = .ok (.istore 6, 2) := by decide +kernel
theorem dX4_day_72 : decode cX4_day 72 = .ok (.iload 6, 2) := by decide +kernel
theorem dX4_day_74 : decode cX4_day 74 = .ok (.ifCond .eq 10, 3) := by decide +kernel
theorem dX4_day_77 : decode cX4_day 77 = .ok (.aload_n 0, 1) := by decide +kernel
theorem dX4_day_78 : decode cX4_day 78 = .ok (.iload 6, 2) := by decide +kernel
theorem dX4_day_80 : decode cX4_day 80 = .ok (.invokevirtual 61, 3) := by decide +kernel
theorem dX4_day_83 : decode cX4_day 83 = .ok (.ireturn, 1) := by decide +kernel
theorem dX4_day_84 : decode cX4_day 84 = .ok (.aload_n 0, 1) := by decide +kernel
theorem dX4_day_85 : decode cX4_day 85 = .ok (.getfield 31, 3) := by decide +kernel
theorem dX4_day_88 : decode cX4_day 88 = .ok (.aload 5, 2) := by decide +kernel
theorem dX4_day_90 : decode cX4_day 90 = .ok (.iload_n 3, 1) := by decide +kernel
theorem dX4_day_91 : decode cX4_day 91 = .ok (.iload 4, 2) := by decide +kernel
theorem dX4_day_93 : decode cX4_day 93 = .ok (.invokevirtual 64, 3) := by decide +kernel
theorem dX4_day_96 : decode cX4_day 96 = .ok (.aload_n 0, 1) := by decide +kernel
theorem dX4_day_97 : decode cX4_day 97 = .ok (.getfield 31, 3) := by decide +kernel
theorem dX4_day_100 : decode cX4_day 100 = .ok (.aload_n 0, 1) := by decide +kernel
theorem dX4_day_101 : decode cX4_day 101 = .ok (.getfield 25, 3) := by decide +kernel
theorem dX4_day_104 : decode cX4_day 104 = .ok (.invokevirtual 68, 3) := by decide +kernel
theorem dX4_day_107 : decode cX4_day 107 = .ok (.ifCond .ne 14, 3) := by decide +kernel
theorem dX4_day_110 : decode cX4_day 110 = .ok (.bipush (-100), 2) := by decide +kernel
theorem dX4_day_112 : decode cX4_day 112 = .ok (.aload_n 0, 1) := by decide +kernel
theorem dX4_day_113 : decode cX4_day 113 = .ok (.getfield 31, 3) := by decide +kernel
theorem dX4_day_116 : decode cX4_day 116 = .ok (.getfield 72, 3) := by decide +kernel
theorem dX4_day_119 : decode cX4_day 119 = .ok (.isub, 1) := by decide +kernel
theorem dX4_day_120 : decode cX4_day 120 = .ok (.ireturn, 1) := by decide +kernel
theorem dX4_day_121 : decode cX4_day 121 = .ok (.aload_n 0, 1) := by decide +kernel
theorem dX4_day_122 : decode cX4_day 122 = .ok (.getfield 21, 3) := by decide +kernel
theorem dX4_day_125 : decode cX4_day 125 = .ok (.aload_n 0, 1) := by decide +kernel
theorem dX4_day_126 : decode cX4_day 126 = .ok (.getfield 25, 3) := by decide +kernel
theorem dX4_day_129 : decode cX4_day 129 = .ok (.invokevirtual 75, 3) := by decide +kernel
theorem dX4_day_132 : decode cX4_day 132 = .ok (.aload_n 0, 1) := by decide +kernel
theorem dX4_day_133 : decode cX4_day 133 = .ok (.getfield 38, 3) := by decide +kernel
theorem dX4_day_136 : decode cX4_day 136 = .ok (.iconst 0, 1) := by decide +kernel
theorem dX4_day_137 : decode cX4_day 137 = .ok (.putfield 79, 3) := by decide +kernel
theorem dX4_day_140 : decode cX4_day 140 = .ok (.aload_n 0, 1) := by decide +kernel
theorem dX4_day_141 : decode cX4_day 141 = .ok (.getfield 21, 3) := by decide +kernel
theorem dX4_day_144 : decode cX4_day 144 = .ok (.getfield 82, 3) := by decide +kernel
theorem dX4_day_147 : decode cX4_day 147 = .ok (.ireturn, 1) := by decide +kernel
theorem dX4_ofSwearer_0 : decode cX4_ofSwearer 0 = .ok (.aload_n 0, 1) := by decide +kernel
theorem dX4_ofSwearer_1 : decode cX4_ofSwearer 1 = .ok (.getfield 21, 3) := by decide +kernel
theorem dX4_ofSwearer_4 : decode cX4_ofSwearer 4 = .ok (.iload_n 1, 1) := by decide +kernel
theorem dX4_ofSwearer_5 : decode cX4_ofSwearer 5 = .ok (.invokevirtual 85, 3) := by decide +kernel
theorem dX4_ofSwearer_8 : decode cX4_ofSwearer 8 = .ok (.ifCond .ne 5, 3) := by decide +kernel
theorem dX4_ofSwearer_11 : decode cX4_ofSwearer 11 = .ok (.iconst (-1), 1) := by decide +kernel
theorem dX4_ofSwearer_12 : decode cX4_ofSwearer 12 = .ok (.ireturn, 1) := by decide +kernel
theorem dX4_ofSwearer_13 : decode cX4_ofSwearer 13 = .ok (.iload_n 2, 1) := by decide +kernel
theorem dX4_ofSwearer_14 : decode cX4_ofSwearer 14 = .ok (.tableswitch 102 0 5 #[38, 48, 58, 67, 76, 85], 38) := by decide +kernel
theorem dX4_ofSwearer_52 : decode cX4_ofSwearer 52 = .ok (.aload_n 0, 1) := by decide +kernel
theorem dX4_ofSwearer_53 : decode cX4_ofSwearer 53 = .ok (.getfield 21, 3) := by decide +kernel
theorem dX4_ofSwearer_56 : decode cX4_ofSwearer 56 = .ok (.getfield 88, 3) := by decide +kernel
theorem dX4_ofSwearer_59 : decode cX4_ofSwearer 59 = .ok (.iload_n 1, 1) := by decide +kernel
theorem dX4_ofSwearer_60 : decode cX4_ofSwearer 60 = .ok (.iaload, 1) := by decide +kernel
theorem dX4_ofSwearer_61 : decode cX4_ofSwearer 61 = .ok (.ireturn, 1) := by decide +kernel
theorem dX4_ofSwearer_62 : decode cX4_ofSwearer 62 = .ok (.aload_n 0, 1) := by decide +kernel
theorem dX4_ofSwearer_63 : decode cX4_ofSwearer 63 = .ok (.getfield 21, 3) := by decide +kernel
theorem dX4_ofSwearer_66 : decode cX4_ofSwearer 66 = .ok (.getfield 92, 3) := by decide +kernel
theorem dX4_ofSwearer_69 : decode cX4_ofSwearer 69 = .ok (.iload_n 1, 1) := by decide +kernel
theorem dX4_ofSwearer_70 : decode cX4_ofSwearer 70 = .ok (.iaload, 1) := by decide +kernel
theorem dX4_ofSwearer_71 : decode cX4_ofSwearer 71 = .ok (.ireturn, 1) := by decide +kernel
theorem dX4_ofSwearer_72 : decode cX4_ofSwearer 72 = .ok (.aload_n 0, 1) := by decide +kernel
theorem dX4_ofSwearer_73 : decode cX4_ofSwearer 73 = .ok (.getfield 21, 3) := by decide +kernel
theorem dX4_ofSwearer_76 : decode cX4_ofSwearer 76 = .ok (.iload_n 1, 1) := by decide +kernel
theorem dX4_ofSwearer_77 : decode cX4_ofSwearer 77 = .ok (.invokevirtual 95, 3) := by decide +kernel
theorem dX4_ofSwearer_80 : decode cX4_ofSwearer 80 = .ok (.ireturn, 1) := by decide +kernel
theorem dX4_ofSwearer_81 : decode cX4_ofSwearer 81 = .ok (.aload_n 0, 1) := by decide +kernel
theorem dX4_ofSwearer_82 : decode cX4_ofSwearer 82 = .ok (.getfield 21, 3) := by decide +kernel
theorem dX4_ofSwearer_85 : decode cX4_ofSwearer 85 = .ok (.iload_n 1, 1) := by decide +kernel
theorem dX4_ofSwearer_86 : decode cX4_ofSwearer 86 = .ok (.invokevirtual 98, 3) := by decide +kernel
theorem dX4_ofSwearer_89 : decode cX4_ofSwearer 89 = .ok (.ireturn, 1) := by decide +kernel
theorem dX4_ofSwearer_90 : decode cX4_ofSwearer 90 = .ok (.aload_n 0, 1) := by decide +kernel
theorem dX4_ofSwearer_91 : decode cX4_ofSwearer 91 = .ok (.getfield 21, 3) := by decide +kernel
theorem dX4_ofSwearer_94 : decode cX4_ofSwearer 94 = .ok (.iload_n 1, 1) := by decide +kernel
theorem dX4_ofSwearer_95 : decode cX4_ofSwearer 95 = .ok (.invokevirtual 101, 3) := by decide +kernel
theorem dX4_ofSwearer_98 : decode cX4_ofSwearer 98 = .ok (.ireturn, 1) := by decide +kernel
theorem dX4_ofSwearer_99 : decode cX4_ofSwearer 99 = .ok (.aload_n 0, 1) := by decide +kernel
theorem dX4_ofSwearer_100 : decode cX4_ofSwearer 100 = .ok (.getfield 21, 3) := by decide +kernel
theorem dX4_ofSwearer_103 : decode cX4_ofSwearer 103 = .ok (.iload_n 1, 1) := by decide +kernel
theorem dX4_ofSwearer_104 : decode cX4_ofSwearer 104 = .ok (.invokevirtual 101, 3) := by decide +kernel
theorem dX4_ofSwearer_107 : decode cX4_ofSwearer 107 = .ok (.aload_n 0, 1) := by decide +kernel
theorem dX4_ofSwearer_108 : decode cX4_ofSwearer 108 = .ok (.getfield 21, 3) := by decide +kernel
theorem dX4_ofSwearer_111 : decode cX4_ofSwearer 111 = .ok (.invokevirtual 104, 3) := by decide +kernel
theorem dX4_ofSwearer_114 : decode cX4_ofSwearer 114 = .ok (.iand, 1) := by decide +kernel
theorem dX4_ofSwearer_115 : decode cX4_ofSwearer 115 = .ok (.ireturn, 1) := by decide +kernel
theorem dX4_ofSwearer_116 : decode cX4_ofSwearer 116 = .ok (.bipush (-2), 2) := by decide +kernel
theorem dX4_ofSwearer_118 : decode cX4_ofSwearer 118 = .ok (.ireturn, 1) := by decide +kernel
theorem dX4_ofOath_0 : decode cX4_ofOath 0 = .ok (.aload_n 0, 1) := by decide +kernel
theorem dX4_ofOath_1 : decode cX4_ofOath 1 = .ok (.getfield 21, 3) := by decide +kernel
theorem dX4_ofOath_4 : decode cX4_ofOath 4 = .ok (.iload_n 1, 1) := by decide +kernel
theorem dX4_ofOath_5 : decode cX4_ofOath 5 = .ok (.invokevirtual 108, 3) := by decide +kernel
theorem dX4_ofOath_8 : decode cX4_ofOath 8 = .ok (.ifCond .ne 5, 3) := by decide +kernel
theorem dX4_ofOath_11 : decode cX4_ofOath 11 = .ok (.iconst (-1), 1) := by decide +kernel
theorem dX4_ofOath_12 : decode cX4_ofOath 12 = .ok (.ireturn, 1) := by decide +kernel
theorem dX4_ofOath_13 : decode cX4_ofOath 13 = .ok (.iload_n 2, 1) := by decide +kernel
theorem dX4_ofOath_14 : decode cX4_ofOath 14 = .ok (.tableswitch 110 0 4 #[34, 44, 54, 64, 93], 34) := by decide +kernel
theorem dX4_ofOath_48 : decode cX4_ofOath 48 = .ok (.aload_n 0, 1) := by decide +kernel
theorem dX4_ofOath_49 : decode cX4_ofOath 49 = .ok (.getfield 21, 3) := by decide +kernel
theorem dX4_ofOath_52 : decode cX4_ofOath 52 = .ok (.getfield 111, 3) := by decide +kernel
theorem dX4_ofOath_55 : decode cX4_ofOath 55 = .ok (.iload_n 1, 1) := by decide +kernel
theorem dX4_ofOath_56 : decode cX4_ofOath 56 = .ok (.iaload, 1) := by decide +kernel
theorem dX4_ofOath_57 : decode cX4_ofOath 57 = .ok (.ireturn, 1) := by decide +kernel
theorem dX4_ofOath_58 : decode cX4_ofOath 58 = .ok (.aload_n 0, 1) := by decide +kernel
theorem dX4_ofOath_59 : decode cX4_ofOath 59 = .ok (.getfield 21, 3) := by decide +kernel
theorem dX4_ofOath_62 : decode cX4_ofOath 62 = .ok (.getfield 114, 3) := by decide +kernel
theorem dX4_ofOath_65 : decode cX4_ofOath 65 = .ok (.iload_n 1, 1) := by decide +kernel
theorem dX4_ofOath_66 : decode cX4_ofOath 66 = .ok (.iaload, 1) := by decide +kernel
theorem dX4_ofOath_67 : decode cX4_ofOath 67 = .ok (.ireturn, 1) := by decide +kernel
theorem dX4_ofOath_68 : decode cX4_ofOath 68 = .ok (.aload_n 0, 1) := by decide +kernel
theorem dX4_ofOath_69 : decode cX4_ofOath 69 = .ok (.getfield 21, 3) := by decide +kernel
theorem dX4_ofOath_72 : decode cX4_ofOath 72 = .ok (.getfield 117, 3) := by decide +kernel
theorem dX4_ofOath_75 : decode cX4_ofOath 75 = .ok (.iload_n 1, 1) := by decide +kernel
theorem dX4_ofOath_76 : decode cX4_ofOath 76 = .ok (.iaload, 1) := by decide +kernel
theorem dX4_ofOath_77 : decode cX4_ofOath 77 = .ok (.ireturn, 1) := by decide +kernel
theorem dX4_ofOath_78 : decode cX4_ofOath 78 = .ok (.aload_n 0, 1) := by decide +kernel
theorem dX4_ofOath_79 : decode cX4_ofOath 79 = .ok (.getfield 21, 3) := by decide +kernel
theorem dX4_ofOath_82 : decode cX4_ofOath 82 = .ok (.aload_n 0, 1) := by decide +kernel
theorem dX4_ofOath_83 : decode cX4_ofOath 83 = .ok (.getfield 21, 3) := by decide +kernel
theorem dX4_ofOath_86 : decode cX4_ofOath 86 = .ok (.getfield 111, 3) := by decide +kernel
theorem dX4_ofOath_89 : decode cX4_ofOath 89 = .ok (.iload_n 1, 1) := by decide +kernel
theorem dX4_ofOath_90 : decode cX4_ofOath 90 = .ok (.iaload, 1) := by decide +kernel
theorem dX4_ofOath_91 : decode cX4_ofOath 91 = .ok (.aload_n 0, 1) := by decide +kernel
theorem dX4_ofOath_92 : decode cX4_ofOath 92 = .ok (.getfield 21, 3) := by decide +kernel
theorem dX4_ofOath_95 : decode cX4_ofOath 95 = .ok (.getfield 117, 3) := by decide +kernel
theorem dX4_ofOath_98 : decode cX4_ofOath 98 = .ok (.iload_n 1, 1) := by decide +kernel
theorem dX4_ofOath_99 : decode cX4_ofOath 99 = .ok (.iaload, 1) := by decide +kernel
theorem dX4_ofOath_100 : decode cX4_ofOath 100 = .ok (.invokevirtual 120, 3) := by decide +kernel
theorem dX4_ofOath_103 : decode cX4_ofOath 103 = .ok (.bipush 100, 2) := by decide +kernel
theorem dX4_ofOath_105 : decode cX4_ofOath 105 = .ok (.iadd, 1) := by decide +kernel
theorem dX4_ofOath_106 : decode cX4_ofOath 106 = .ok (.ireturn, 1) := by decide +kernel
theorem dX4_ofOath_107 : decode cX4_ofOath 107 = .ok (.aload_n 0, 1) := by decide +kernel
theorem dX4_ofOath_108 : decode cX4_ofOath 108 = .ok (.getfield 21, 3) := by decide +kernel
theorem dX4_ofOath_111 : decode cX4_ofOath 111 = .ok (.iload_n 1, 1) := by decide +kernel
theorem dX4_ofOath_112 : decode cX4_ofOath 112 = .ok (.invokevirtual 124, 3) := by decide +kernel
theorem dX4_ofOath_115 : decode cX4_ofOath 115 = .ok (.ifCond .eq 7, 3) := by decide +kernel
theorem dX4_ofOath_118 : decode cX4_ofOath 118 = .ok (.iconst 1, 1) := by decide +kernel
theorem dX4_ofOath_119 : decode cX4_ofOath 119 = .ok (.goto 4, 3) := by decide +kernel
theorem dX4_ofOath_122 : decode cX4_ofOath 122 = .ok (.iconst 0, 1) := by decide +kernel
theorem dX4_ofOath_123 : decode cX4_ofOath 123 = .ok (.ireturn, 1) := by decide +kernel
theorem dX4_ofOath_124 : decode cX4_ofOath 124 = .ok (.bipush (-2), 2) := by decide +kernel
theorem dX4_ofOath_126 : decode cX4_ofOath 126 = .ok (.ireturn, 1) := by decide +kernel
theorem dX4_ofHour_0 : decode cX4_ofHour 0 = .ok (.aload_n 0, 1) := by decide +kernel
theorem dX4_ofHour_1 : decode cX4_ofHour 1 = .ok (.getfield 21, 3) := by decide +kernel
theorem dX4_ofHour_4 : decode cX4_ofHour 4 = .ok (.iload_n 1, 1) := by decide +kernel
theorem dX4_ofHour_5 : decode cX4_ofHour 5 = .ok (.invokevirtual 127, 3) := by decide +kernel
theorem dX4_ofHour_8 : decode cX4_ofHour 8 = .ok (.ifCond .ne 5, 3) := by decide +kernel
theorem dX4_ofHour_11 : decode cX4_ofHour 11 = .ok (.iconst (-1), 1) := by decide +kernel
theorem dX4_ofHour_12 : decode cX4_ofHour 12 = .ok (.ireturn, 1) := by decide +kernel
theorem dX4_ofHour_13 : decode cX4_ofHour 13 = .ok (.iload_n 2, 1) := by decide +kernel
theorem dX4_ofHour_14 : decode cX4_ofHour 14 = .ok (.tableswitch 69 0 2 #[26, 36, 60], 26) := by decide +kernel
theorem dX4_ofHour_40 : decode cX4_ofHour 40 = .ok (.aload_n 0, 1) := by decide +kernel
theorem dX4_ofHour_41 : decode cX4_ofHour 41 = .ok (.getfield 21, 3) := by decide +kernel
theorem dX4_ofHour_44 : decode cX4_ofHour 44 = .ok (.getfield 130, 3) := by decide +kernel
theorem dX4_ofHour_47 : decode cX4_ofHour 47 = .ok (.iload_n 1, 1) := by decide +kernel
theorem dX4_ofHour_48 : decode cX4_ofHour 48 = .ok (.iaload, 1) := by decide +kernel
theorem dX4_ofHour_49 : decode cX4_ofHour 49 = .ok (.ireturn, 1) := by decide +kernel
theorem dX4_ofHour_50 : decode cX4_ofHour 50 = .ok (.aload_n 0, 1) := by decide +kernel
theorem dX4_ofHour_51 : decode cX4_ofHour 51 = .ok (.getfield 21, 3) := by decide +kernel
theorem dX4_ofHour_54 : decode cX4_ofHour 54 = .ok (.getfield 133, 3) := by decide +kernel
theorem dX4_ofHour_57 : decode cX4_ofHour 57 = .ok (.iload_n 1, 1) := by decide +kernel
theorem dX4_ofHour_58 : decode cX4_ofHour 58 = .ok (.if_icmp .ne 13, 3) := by decide +kernel
theorem dX4_ofHour_61 : decode cX4_ofHour 61 = .ok (.aload_n 0, 1) := by decide +kernel
theorem dX4_ofHour_62 : decode cX4_ofHour 62 = .ok (.getfield 21, 3) := by decide +kernel
theorem dX4_ofHour_65 : decode cX4_ofHour 65 = .ok (.getfield 136, 3) := by decide +kernel
theorem dX4_ofHour_68 : decode cX4_ofHour 68 = .ok (.goto 5, 3) := by decide +kernel
theorem dX4_ofHour_71 : decode cX4_ofHour 71 = .ok (.bipush (-9), 2) := by decide +kernel
theorem dX4_ofHour_73 : decode cX4_ofHour 73 = .ok (.ireturn, 1) := by decide +kernel
theorem dX4_ofHour_74 : decode cX4_ofHour 74 = .ok (.aload_n 0, 1) := by decide +kernel
theorem dX4_ofHour_75 : decode cX4_ofHour 75 = .ok (.getfield 21, 3) := by decide +kernel
theorem dX4_ofHour_78 : decode cX4_ofHour 78 = .ok (.iload_n 1, 1) := by decide +kernel
theorem dX4_ofHour_79 : decode cX4_ofHour 79 = .ok (.invokevirtual 139, 3) := by decide +kernel
theorem dX4_ofHour_82 : decode cX4_ofHour 82 = .ok (.ireturn, 1) := by decide +kernel
theorem dX4_ofHour_83 : decode cX4_ofHour 83 = .ok (.bipush (-2), 2) := by decide +kernel
theorem dX4_ofHour_85 : decode cX4_ofHour 85 = .ok (.ireturn, 1) := by decide +kernel
theorem dX4_chill_0 : decode cX4_chill 0 = .ok (.aload_n 0, 1) := by decide +kernel
theorem dX4_chill_1 : decode cX4_chill 1 = .ok (.getfield 21, 3) := by decide +kernel
theorem dX4_chill_4 : decode cX4_chill 4 = .ok (.iload_n 1, 1) := by decide +kernel
theorem dX4_chill_5 : decode cX4_chill 5 = .ok (.invokevirtual 85, 3) := by decide +kernel
theorem dX4_chill_8 : decode cX4_chill 8 = .ok (.ifCond .eq 14, 3) := by decide +kernel
theorem dX4_chill_11 : decode cX4_chill 11 = .ok (.aload_n 0, 1) := by decide +kernel
theorem dX4_chill_12 : decode cX4_chill 12 = .ok (.getfield 21, 3) := by decide +kernel
theorem dX4_chill_15 : decode cX4_chill 15 = .ok (.iload_n 2, 1) := by decide +kernel
theorem dX4_chill_16 : decode cX4_chill 16 = .ok (.invokevirtual 127, 3) := by decide +kernel
theorem dX4_chill_19 : decode cX4_chill 19 = .ok (.ifCond .ne 5, 3) := by decide +kernel
theorem dX4_chill_22 : decode cX4_chill 22 = .ok (.iconst (-1), 1) := by decide +kernel
theorem dX4_chill_23 : decode cX4_chill 23 = .ok (.ireturn, 1) := by decide +kernel
theorem dX4_chill_24 : decode cX4_chill 24 = .ok (.aload_n 0, 1) := by decide +kernel
theorem dX4_chill_25 : decode cX4_chill 25 = .ok (.getfield 21, 3) := by decide +kernel
theorem dX4_chill_28 : decode cX4_chill 28 = .ok (.iload_n 1, 1) := by decide +kernel
theorem dX4_chill_29 : decode cX4_chill 29 = .ok (.iload_n 2, 1) := by decide +kernel
theorem dX4_chill_30 : decode cX4_chill 30 = .ok (.invokevirtual 120, 3) := by decide +kernel
theorem dX4_chill_33 : decode cX4_chill 33 = .ok (.bipush 100, 2) := by decide +kernel
theorem dX4_chill_35 : decode cX4_chill 35 = .ok (.iadd, 1) := by decide +kernel
theorem dX4_chill_36 : decode cX4_chill 36 = .ok (.ireturn, 1) := by decide +kernel
theorem dX4_coat_0 : decode cX4_coat 0 = .ok (.aload_n 0, 1) := by decide +kernel
theorem dX4_coat_1 : decode cX4_coat 1 = .ok (.getfield 21, 3) := by decide +kernel
theorem dX4_coat_4 : decode cX4_coat 4 = .ok (.iload_n 1, 1) := by decide +kernel
theorem dX4_coat_5 : decode cX4_coat 5 = .ok (.invokevirtual 85, 3) := by decide +kernel
theorem dX4_coat_8 : decode cX4_coat 8 = .ok (.ifCond .ne 5, 3) := by decide +kernel
theorem dX4_coat_11 : decode cX4_coat 11 = .ok (.iconst (-1), 1) := by decide +kernel
theorem dX4_coat_12 : decode cX4_coat 12 = .ok (.ireturn, 1) := by decide +kernel
theorem dX4_coat_13 : decode cX4_coat 13 = .ok (.iload_n 2, 1) := by decide +kernel
theorem dX4_coat_14 : decode cX4_coat 14 = .ok (.invokestatic 142, 3) := by decide +kernel
theorem dX4_coat_17 : decode cX4_coat 17 = .ok (.ifCond .ne 6, 3) := by decide +kernel
theorem dX4_coat_20 : decode cX4_coat 20 = .ok (.bipush (-2), 2) := by decide +kernel
theorem dX4_coat_22 : decode cX4_coat 22 = .ok (.ireturn, 1) := by decide +kernel
theorem dX4_coat_23 : decode cX4_coat 23 = .ok (.aload_n 0, 1) := by decide +kernel
theorem dX4_coat_24 : decode cX4_coat 24 = .ok (.getfield 21, 3) := by decide +kernel
theorem dX4_coat_27 : decode cX4_coat 27 = .ok (.getfield 92, 3) := by decide +kernel
theorem dX4_coat_30 : decode cX4_coat 30 = .ok (.iload_n 1, 1) := by decide +kernel
theorem dX4_coat_31 : decode cX4_coat 31 = .ok (.iaload, 1) := by decide +kernel
theorem dX4_coat_32 : decode cX4_coat 32 = .ok (.istore_n 3, 1) := by decide +kernel
theorem dX4_coat_33 : decode cX4_coat 33 = .ok (.aload_n 0, 1) := by decide +kernel
theorem dX4_coat_34 : decode cX4_coat 34 = .ok (.getfield 21, 3) := by decide +kernel
theorem dX4_coat_37 : decode cX4_coat 37 = .ok (.getfield 92, 3) := by decide +kernel
theorem dX4_coat_40 : decode cX4_coat 40 = .ok (.iload_n 1, 1) := by decide +kernel
theorem dX4_coat_41 : decode cX4_coat 41 = .ok (.iload_n 2, 1) := by decide +kernel
theorem dX4_coat_42 : decode cX4_coat 42 = .ok (.iastore, 1) := by decide +kernel
theorem dX4_coat_43 : decode cX4_coat 43 = .ok (.iload_n 3, 1) := by decide +kernel
theorem dX4_coat_44 : decode cX4_coat 44 = .ok (.ireturn, 1) := by decide +kernel
theorem dX4_frost_0 : decode cX4_frost 0 = .ok (.aload_n 0, 1) := by decide +kernel
theorem dX4_frost_1 : decode cX4_frost 1 = .ok (.getfield 21, 3) := by decide +kernel
theorem dX4_frost_4 : decode cX4_frost 4 = .ok (.iload_n 1, 1) := by decide +kernel
theorem dX4_frost_5 : decode cX4_frost 5 = .ok (.invokevirtual 127, 3) := by decide +kernel
theorem dX4_frost_8 : decode cX4_frost 8 = .ok (.ifCond .ne 5, 3) := by decide +kernel
theorem dX4_frost_11 : decode cX4_frost 11 = .ok (.iconst (-1), 1) := by decide +kernel
theorem dX4_frost_12 : decode cX4_frost 12 = .ok (.ireturn, 1) := by decide +kernel
theorem dX4_frost_13 : decode cX4_frost 13 = .ok (.iload_n 2, 1) := by decide +kernel
theorem dX4_frost_14 : decode cX4_frost 14 = .ok (.invokestatic 142, 3) := by decide +kernel
theorem dX4_frost_17 : decode cX4_frost 17 = .ok (.ifCond .ne 6, 3) := by decide +kernel
theorem dX4_frost_20 : decode cX4_frost 20 = .ok (.bipush (-2), 2) := by decide +kernel
theorem dX4_frost_22 : decode cX4_frost 22 = .ok (.ireturn, 1) := by decide +kernel
theorem dX4_frost_23 : decode cX4_frost 23 = .ok (.aload_n 0, 1) := by decide +kernel
theorem dX4_frost_24 : decode cX4_frost 24 = .ok (.getfield 21, 3) := by decide +kernel
theorem dX4_frost_27 : decode cX4_frost 27 = .ok (.getfield 130, 3) := by decide +kernel
theorem dX4_frost_30 : decode cX4_frost 30 = .ok (.iload_n 1, 1) := by decide +kernel
theorem dX4_frost_31 : decode cX4_frost 31 = .ok (.iaload, 1) := by decide +kernel
theorem dX4_frost_32 : decode cX4_frost 32 = .ok (.istore_n 3, 1) := by decide +kernel
theorem dX4_frost_33 : decode cX4_frost 33 = .ok (.aload_n 0, 1) := by decide +kernel
theorem dX4_frost_34 : decode cX4_frost 34 = .ok (.getfield 21, 3) := by decide +kernel
theorem dX4_frost_37 : decode cX4_frost 37 = .ok (.getfield 130, 3) := by decide +kernel
theorem dX4_frost_40 : decode cX4_frost 40 = .ok (.iload_n 1, 1) := by decide +kernel
theorem dX4_frost_41 : decode cX4_frost 41 = .ok (.iload_n 2, 1) := by decide +kernel
theorem dX4_frost_42 : decode cX4_frost 42 = .ok (.iastore, 1) := by decide +kernel
theorem dX4_frost_43 : decode cX4_frost 43 = .ok (.iload_n 3, 1) := by decide +kernel
theorem dX4_frost_44 : decode cX4_frost 44 = .ok (.ireturn, 1) := by decide +kernel
theorem dX4_swear_0 : decode cX4_swear 0 = .ok (.aload_n 0, 1) := by decide +kernel
theorem dX4_swear_1 : decode cX4_swear 1 = .ok (.getfield 21, 3) := by decide +kernel
theorem dX4_swear_4 : decode cX4_swear 4 = .ok (.iload_n 1, 1) := by decide +kernel
theorem dX4_swear_5 : decode cX4_swear 5 = .ok (.invokevirtual 85, 3) := by decide +kernel
theorem dX4_swear_8 : decode cX4_swear 8 = .ok (.ifCond .eq 30, 3) := by decide +kernel
theorem dX4_swear_11 : decode cX4_swear 11 = .ok (.aload_n 0, 1) := by decide +kernel
theorem dX4_swear_12 : decode cX4_swear 12 = .ok (.getfield 21, 3) := by decide +kernel
theorem dX4_swear_15 : decode cX4_swear 15 = .ok (.iload_n 2, 1) := by decide +kernel
theorem dX4_swear_16 : decode cX4_swear 16 = .ok (.invokevirtual 85, 3) := by decide +kernel
theorem dX4_swear_19 : decode cX4_swear 19 = .ok (.ifCond .eq 19, 3) := by decide +kernel
theorem dX4_swear_22 : decode cX4_swear 22 = .ok (.iload_n 1, 1) := by decide +kernel
theorem dX4_swear_23 : decode cX4_swear 23 = .ok (.iload_n 2, 1) := by decide +kernel
theorem dX4_swear_24 : decode cX4_swear 24 = .ok (.if_icmp .eq 14, 3) := by decide +kernel
theorem dX4_swear_27 : decode cX4_swear 27 = .ok (.aload_n 0, 1) := by decide +kernel
theorem dX4_swear_28 : decode cX4_swear 28 = .ok (.getfield 21, 3) := by decide +kernel
theorem dX4_swear_31 : decode cX4_swear 31 = .ok (.iload_n 3, 1) := by decide +kernel
theorem dX4_swear_32 : decode cX4_swear 32 = .ok (.invokevirtual 127, 3) := by decide +kernel
theorem dX4_swear_35 : decode cX4_swear 35 = .ok (.ifCond .ne 5, 3) := by decide +kernel
theorem dX4_swear_38 : decode cX4_swear 38 = .ok (.iconst (-1), 1) := by decide +kernel
theorem dX4_swear_39 : decode cX4_swear 39 = .ok (.ireturn, 1) := by decide +kernel
theorem dX4_swear_40 : decode cX4_swear 40 = .ok (.aload_n 0, 1) := by decide +kernel
theorem dX4_swear_41 : decode cX4_swear 41 = .ok (.getfield 21, 3) := by decide +kernel
theorem dX4_swear_44 : decode cX4_swear 44 = .ok (.getfield 145, 3) := by decide +kernel
theorem dX4_swear_47 : decode cX4_swear 47 = .ok (.bipush 6, 2) := by decide +kernel
theorem dX4_swear_49 : decode cX4_swear 49 = .ok (.if_icmp .lt 6, 3) := by decide +kernel
theorem dX4_swear_52 : decode cX4_swear 52 = .ok (.bipush (-4), 2) := by decide +kernel
theorem dX4_swear_54 : decode cX4_swear 54 = .ok (.ireturn, 1) := by decide +kernel
theorem dX4_swear_55 : decode cX4_swear 55 = .ok (.aload_n 0, 1) := by decide +kernel
theorem dX4_swear_56 : decode cX4_swear 56 = .ok (.getfield 21, 3) := by decide +kernel
theorem dX4_swear_59 : decode cX4_swear 59 = .ok (.iload_n 1, 1) := by decide +kernel
theorem dX4_swear_60 : decode cX4_swear 60 = .ok (.iload_n 2, 1) := by decide +kernel
theorem dX4_swear_61 : decode cX4_swear 61 = .ok (.iload_n 3, 1) := by decide +kernel
theorem dX4_swear_62 : decode cX4_swear 62 = .ok (.invokevirtual 148, 3) := by decide +kernel
theorem dX4_swear_65 : decode cX4_swear 65 = .ok (.aload_n 0, 1) := by decide +kernel
theorem dX4_swear_66 : decode cX4_swear 66 = .ok (.getfield 21, 3) := by decide +kernel
theorem dX4_swear_69 : decode cX4_swear 69 = .ok (.getfield 145, 3) := by decide +kernel
theorem dX4_swear_72 : decode cX4_swear 72 = .ok (.iconst 1, 1) := by decide +kernel
theorem dX4_swear_73 : decode cX4_swear 73 = .ok (.isub, 1) := by decide +kernel
theorem dX4_swear_74 : decode cX4_swear 74 = .ok (.ireturn, 1) := by decide +kernel
theorem dX4_release_0 : decode cX4_release 0 = .ok (.aload_n 0, 1) := by decide +kernel
theorem dX4_release_1 : decode cX4_release 1 = .ok (.getfield 21, 3) := by decide +kernel
theorem dX4_release_4 : decode cX4_release 4 = .ok (.iload_n 1, 1) := by decide +kernel
theorem dX4_release_5 : decode cX4_release 5 = .ok (.invokevirtual 108, 3) := by decide +kernel
theorem dX4_release_8 : decode cX4_release 8 = .ok (.ifCond .ne 5, 3) := by decide +kernel
theorem dX4_release_11 : decode cX4_release 11 = .ok (.iconst (-1), 1) := by decide +kernel
theorem dX4_release_12 : decode cX4_release 12 = .ok (.ireturn, 1) := by decide +kernel
theorem dX4_release_13 : decode cX4_release 13 = .ok (.aload_n 0, 1) := by decide +kernel
theorem dX4_release_14 : decode cX4_release 14 = .ok (.getfield 21, 3) := by decide +kernel
theorem dX4_release_17 : decode cX4_release 17 = .ok (.iload_n 1, 1) := by decide +kernel
theorem dX4_release_18 : decode cX4_release 18 = .ok (.invokevirtual 152, 3) := by decide +kernel
theorem dX4_release_21 : decode cX4_release 21 = .ok (.aload_n 0, 1) := by decide +kernel
theorem dX4_release_22 : decode cX4_release 22 = .ok (.getfield 21, 3) := by decide +kernel
theorem dX4_release_25 : decode cX4_release 25 = .ok (.getfield 145, 3) := by decide +kernel
theorem dX4_release_28 : decode cX4_release 28 = .ok (.ireturn, 1) := by decide +kernel
theorem dX4_stove_0 : decode cX4_stove 0 = .ok (.aload_n 0, 1) := by decide +kernel
theorem dX4_stove_1 : decode cX4_stove 1 = .ok (.invokevirtual 156, 3) := by decide +kernel
theorem dX4_stove_4 : decode cX4_stove 4 = .ok (.ifCond .ne 6, 3) := by decide +kernel
theorem dX4_stove_7 : decode cX4_stove 7 = .ok (.bipush (-3), 2) := by decide +kernel
theorem dX4_stove_9 : decode cX4_stove 9 = .ok (.ireturn, 1) := by decide +kernel
theorem dX4_stove_10 : decode cX4_stove 10 = .ok (.iload_n 1, 1) := by decide +kernel
theorem dX4_stove_11 : decode cX4_stove 11 = .ok (.bipush (-9), 2) := by decide +kernel
theorem dX4_stove_13 : decode cX4_stove 13 = .ok (.if_icmp .ne 24, 3) := by decide +kernel
theorem dX4_stove_16 : decode cX4_stove 16 = .ok (.aload_n 0, 1) := by decide +kernel
theorem dX4_stove_17 : decode cX4_stove 17 = .ok (.getfield 21, 3) := by decide +kernel
theorem dX4_stove_20 : decode cX4_stove 20 = .ok (.bipush (-9), 2) := by decide +kernel
theorem dX4_stove_22 : decode cX4_stove 22 = .ok (.iconst 0, 1) := by decide +kernel
theorem dX4_stove_23 : decode cX4_stove 23 = .ok (.invokevirtual 160, 3) := by decide +kernel
theorem dX4_stove_26 : decode cX4_stove 26 = .ok (.aload_n 0, 1) := by decide +kernel
theorem dX4_stove_27 : decode cX4_stove 27 = .ok (.getfield 21, 3) := by decide +kernel
theorem dX4_stove_30 : decode cX4_stove 30 = .ok (.invokevirtual 104, 3) := by decide +kernel
theorem dX4_stove_33 : decode cX4_stove 33 = .ok (.invokestatic 164, 3) := by decide +kernel
theorem dX4_stove_36 : decode cX4_stove 36 = .ok (.ireturn, 1) := by decide +kernel
theorem dX4_stove_37 : decode cX4_stove 37 = .ok (.aload_n 0, 1) := by decide +kernel
theorem dX4_stove_38 : decode cX4_stove 38 = .ok (.getfield 21, 3) := by decide +kernel
theorem dX4_stove_41 : decode cX4_stove 41 = .ok (.iload_n 1, 1) := by decide +kernel
theorem dX4_stove_42 : decode cX4_stove 42 = .ok (.invokevirtual 127, 3) := by decide +kernel
theorem dX4_stove_45 : decode cX4_stove 45 = .ok (.ifCond .ne 5, 3) := by decide +kernel
theorem dX4_stove_48 : decode cX4_stove 48 = .ok (.iconst (-1), 1) := by decide +kernel
theorem dX4_stove_49 : decode cX4_stove 49 = .ok (.ireturn, 1) := by decide +kernel
theorem dX4_stove_50 : decode cX4_stove 50 = .ok (.iload_n 2, 1) := by decide +kernel
theorem dX4_stove_51 : decode cX4_stove 51 = .ok (.invokestatic 142, 3) := by decide +kernel
theorem dX4_stove_54 : decode cX4_stove 54 = .ok (.ifCond .ne 6, 3) := by decide +kernel
theorem dX4_stove_57 : decode cX4_stove 57 = .ok (.bipush (-2), 2) := by decide +kernel
theorem dX4_stove_59 : decode cX4_stove 59 = .ok (.ireturn, 1) := by decide +kernel
theorem dX4_stove_60 : decode cX4_stove 60 = .ok (.aload_n 0, 1) := by decide +kernel
theorem dX4_stove_61 : decode cX4_stove 61 = .ok (.getfield 21, 3) := by decide +kernel
theorem dX4_stove_64 : decode cX4_stove 64 = .ok (.iload_n 1, 1) := by decide +kernel
theorem dX4_stove_65 : decode cX4_stove 65 = .ok (.iload_n 2, 1) := by decide +kernel
theorem dX4_stove_66 : decode cX4_stove 66 = .ok (.invokevirtual 160, 3) := by decide +kernel
theorem dX4_stove_69 : decode cX4_stove 69 = .ok (.aload_n 0, 1) := by decide +kernel
theorem dX4_stove_70 : decode cX4_stove 70 = .ok (.getfield 21, 3) := by decide +kernel
theorem dX4_stove_73 : decode cX4_stove 73 = .ok (.invokevirtual 104, 3) := by decide +kernel
theorem dX4_stove_76 : decode cX4_stove 76 = .ok (.invokestatic 164, 3) := by decide +kernel
theorem dX4_stove_79 : decode cX4_stove 79 = .ok (.ireturn, 1) := by decide +kernel
theorem dX4_trial_0 : decode cX4_trial 0 = .ok (.aload_n 0, 1) := by decide +kernel
theorem dX4_trial_1 : decode cX4_trial 1 = .ok (.iconst 0, 1) := by decide +kernel
theorem dX4_trial_2 : decode cX4_trial 2 = .ok (.putfield 42, 3) := by decide +kernel
theorem dX4_trial_5 : decode cX4_trial 5 = .ok (.iload_n 1, 1) := by decide +kernel
theorem dX4_trial_6 : decode cX4_trial 6 = .ok (.invokestatic 46, 3) := by decide +kernel
theorem dX4_trial_9 : decode cX4_trial 9 = .ok (.ifCond .ne 5, 3) := by decide +kernel
theorem dX4_trial_12 : decode cX4_trial 12 = .ok (.iconst (-1), 1) := by decide +kernel
theorem dX4_trial_13 : decode cX4_trial 13 = .ok (.ireturn, 1) := by decide +kernel
theorem dX4_trial_14 : decode cX4_trial 14 = .ok (.iload_n 2, 1) := by decide +kernel
theorem dX4_trial_15 : decode cX4_trial 15 = .ok (.invokestatic 50, 3) := by decide +kernel
theorem dX4_trial_18 : decode cX4_trial 18 = .ok (.ifCond .eq 23, 3) := by decide +kernel
theorem dX4_trial_21 : decode cX4_trial 21 = .ok (.iload 4, 2) := by decide +kernel
theorem dX4_trial_23 : decode cX4_trial 23 = .ok (.ifCond .lt 18, 3) := by decide +kernel
theorem dX4_trial_26 : decode cX4_trial 26 = .ok (.iload 4, 2) := by decide +kernel
theorem dX4_trial_28 : decode cX4_trial 28 = .ok (.bipush 20, 2) := by decide +kernel
theorem dX4_trial_30 : decode cX4_trial 30 = .ok (.if_icmp .gt 11, 3) := by decide +kernel
theorem dX4_trial_33 : decode cX4_trial 33 = .ok (.iload 5, 2) := by decide +kernel
theorem dX4_trial_35 : decode cX4_trial 35 = .ok (.invokestatic 169, 3) := by decide +kernel
theorem dX4_trial_38 : decode cX4_trial 38 = .ok (.ifCond .ne 6, 3) := by decide +kernel
theorem dX4_trial_41 : decode cX4_trial 41 = .ok (.bipush (-2), 2) := by decide +kernel
theorem dX4_trial_43 : decode cX4_trial 43 = .ok (.ireturn, 1) := by decide +kernel
theorem dX4_trial_44 : decode cX4_trial 44 = .ok (.aload_n 0, 1) := by decide +kernel
theorem dX4_trial_45 : decode cX4_trial 45 = .ok (.getfield 13, 3) := by decide +kernel
theorem dX4_trial_48 : decode cX4_trial 48 = .ok (.iload_n 1, 1) := by decide +kernel
theorem dX4_trial_49 : decode cX4_trial 49 = .ok (.aaload, 1) := by decide +kernel
theorem dX4_trial_50 : decode cX4_trial 50 = .ok (.astore 6, 2) := by decide +kernel
theorem dX4_trial_52 : decode cX4_trial 52 = .ok (.aload 6, 2) := by decide +kernel
theorem dX4_trial_54 : decode cX4_trial 54 = .ok (.iload_n 2, 1) := by decide +kernel
theorem dX4_trial_55 : decode cX4_trial 55 = .ok (.invokevirtual 53, 3) := by decide +kernel
theorem dX4_trial_58 : decode cX4_trial 58 = .ok (.istore 7, 2) := by decide +kernel
theorem dX4_trial_60 : decode cX4_trial 60 = .ok (.iload 7, 2) := by decide +kernel
theorem dX4_trial_62 : decode cX4_trial 62 = .ok (.ifCond .ne 19, 3) := by decide +kernel
theorem dX4_trial_65 : decode cX4_trial 65 = .ok (.aload 6, 2) := by decide +kernel
theorem dX4_trial_67 : decode cX4_trial 67 = .ok (.iload_n 3, 1) := by decide +kernel
theorem dX4_trial_68 : decode cX4_trial 68 = .ok (.iconst 2, 1) := by decide +kernel
theorem dX4_trial_69 : decode cX4_trial 69 = .ok (.iload 4, 2) := by decide +kernel
theorem dX4_trial_71 : decode cX4_trial 71 = .ok (.imul, 1) := by decide +kernel
theorem dX4_trial_72 : decode cX4_trial 72 = .ok (.invokevirtual 57, 3) := by decide +kernel
theorem dX4_trial_75 : decode cX4_trial 75 = .ok (.ifCond .ne 6, 3) := by decide +kernel
theorem dX4_trial_78 : decode cX4_trial 78 = .ok (.iconst 3, 1) := by decide +kernel
theorem dX4_trial_79 : decode cX4_trial 79 = .ok (.istore 7, 2) := by decide +kernel
theorem dX4_trial_81 : decode cX4_trial 81 = .ok (.iload 7, 2) := by decide +kernel
theorem dX4_trial_83 : decode cX4_trial 83 = .ok (.ifCond .eq 10, 3) := by decide +kernel
theorem dX4_trial_86 : decode cX4_trial 86 = .ok (.aload_n 0, 1) := by decide +kernel
theorem dX4_trial_87 : decode cX4_trial 87 = .ok (.iload 7, 2) := by decide +kernel
theorem dX4_trial_89 : decode cX4_trial 89 = .ok (.invokevirtual 61, 3) := by decide +kernel
theorem dX4_trial_92 : decode cX4_trial 92 = .ok (.ireturn, 1) := by decide +kernel
theorem dX4_trial_93 : decode cX4_trial 93 = .ok (.aload_n 0, 1) := by decide +kernel
theorem dX4_trial_94 : decode cX4_trial 94 = .ok (.invokevirtual 156, 3) := by decide +kernel
theorem dX4_trial_97 : decode cX4_trial 97 = .ok (.ifCond .ne 6, 3) := by decide +kernel
theorem dX4_trial_100 : decode cX4_trial 100 = .ok (.bipush (-3), 2) := by decide +kernel
theorem dX4_trial_102 : decode cX4_trial 102 = .ok (.ireturn, 1) := by decide +kernel
theorem dX4_trial_103 : decode cX4_trial 103 = .ok (.aload 6, 2) := by decide +kernel
theorem dX4_trial_105 : decode cX4_trial 105 = .ok (.iload_n 3, 1) := by decide +kernel
theorem dX4_trial_106 : decode cX4_trial 106 = .ok (.iload 4, 2) := by decide +kernel
theorem dX4_trial_108 : decode cX4_trial 108 = .ok (.invokestatic 172, 3) := by decide +kernel
theorem dX4_trial_111 : decode cX4_trial 111 = .ok (.ifCond .ne 6, 3) := by decide +kernel
theorem dX4_trial_114 : decode cX4_trial 114 = .ok (.bipush (-2), 2) := by decide +kernel
theorem dX4_trial_116 : decode cX4_trial 116 = .ok (.ireturn, 1) := by decide +kernel
theorem dX4_trial_117 : decode cX4_trial 117 = .ok (.aload_n 0, 1) := by decide +kernel
theorem dX4_trial_118 : decode cX4_trial 118 = .ok (.getfield 25, 3) := by decide +kernel
theorem dX4_trial_121 : decode cX4_trial 121 = .ok (.aload_n 0, 1) := by decide +kernel
theorem dX4_trial_122 : decode cX4_trial 122 = .ok (.getfield 21, 3) := by decide +kernel
theorem dX4_trial_125 : decode cX4_trial 125 = .ok (.invokevirtual 75, 3) := by decide +kernel
theorem dX4_trial_128 : decode cX4_trial 128 = .ok (.aload_n 0, 1) := by decide +kernel
theorem dX4_trial_129 : decode cX4_trial 129 = .ok (.aload 6, 2) := by decide +kernel
theorem dX4_trial_131 : decode cX4_trial 131 = .ok (.iload_n 3, 1) := by decide +kernel
theorem dX4_trial_132 : decode cX4_trial 132 = .ok (.iload 4, 2) := by decide +kernel
theorem dX4_trial_134 : decode cX4_trial 134 = .ok (.invokevirtual 176, 3) := by decide +kernel
theorem dX4_trial_137 : decode cX4_trial 137 = .ok (.istore 8, 2) := by decide +kernel
theorem dX4_trial_139 : decode cX4_trial 139 = .ok (.iload 5, 2) := by decide +kernel
theorem dX4_trial_141 : decode cX4_trial 141 = .ok (.iconst 1, 1) := by decide +kernel
theorem dX4_trial_142 : decode cX4_trial 142 = .ok (.if_icmp .ne 6, 3) := by decide +kernel
theorem dX4_trial_145 : decode cX4_trial 145 = .ok (.iload 8, 2) := by decide +kernel
theorem dX4_trial_147 : decode cX4_trial 147 = .ok (.ireturn, 1) := by decide +kernel
theorem dX4_trial_148 : decode cX4_trial 148 = .ok (.iload 8, 2) := by decide +kernel
theorem dX4_trial_150 : decode cX4_trial 150 = .ok (.bipush (-9), 2) := by decide +kernel
theorem dX4_trial_152 : decode cX4_trial 152 = .ok (.if_icmp .ne 12, 3) := by decide +kernel
theorem dX4_trial_155 : decode cX4_trial 155 = .ok (.aload_n 0, 1) := by decide +kernel
theorem dX4_trial_156 : decode cX4_trial 156 = .ok (.iload 5, 2) := by decide +kernel
theorem dX4_trial_158 : decode cX4_trial 158 = .ok (.invokevirtual 180, 3) := by decide +kernel
theorem dX4_trial_161 : decode cX4_trial 161 = .ok (.goto 8, 3) := by decide +kernel
theorem dX4_trial_164 : decode cX4_trial 164 = .ok (.bipush (-100), 2) := by decide +kernel
theorem dX4_trial_166 : decode cX4_trial 166 = .ok (.iload 8, 2) := by decide +kernel
theorem dX4_trial_168 : decode cX4_trial 168 = .ok (.isub, 1) := by decide +kernel
theorem dX4_trial_169 : decode cX4_trial 169 = .ok (.ireturn, 1) := by decide +kernel
theorem dX4_isOfTrial_0 : decode cX4_isOfTrial 0 = .ok (.iload_n 0, 1) := by decide +kernel
theorem dX4_isOfTrial_1 : decode cX4_isOfTrial 1 = .ok (.ifCond .lt 8, 3) := by decide +kernel
theorem dX4_isOfTrial_4 : decode cX4_isOfTrial 4 = .ok (.iload_n 0, 1) := by decide +kernel
theorem dX4_isOfTrial_5 : decode cX4_isOfTrial 5 = .ok (.iconst 4, 1) := by decide +kernel
theorem dX4_isOfTrial_6 : decode cX4_isOfTrial 6 = .ok (.if_icmp .le 15, 3) := by decide +kernel
theorem dX4_isOfTrial_9 : decode cX4_isOfTrial 9 = .ok (.iload_n 0, 1) := by decide +kernel
theorem dX4_isOfTrial_10 : decode cX4_isOfTrial 10 = .ok (.bipush 10, 2) := by decide +kernel
theorem dX4_isOfTrial_12 : decode cX4_isOfTrial 12 = .ok (.if_icmp .lt 13, 3) := by decide +kernel
theorem dX4_isOfTrial_15 : decode cX4_isOfTrial 15 = .ok (.iload_n 0, 1) := by decide +kernel
theorem dX4_isOfTrial_16 : decode cX4_isOfTrial 16 = .ok (.bipush 14, 2) := by decide +kernel
theorem dX4_isOfTrial_18 : decode cX4_isOfTrial 18 = .ok (.if_icmp .ge 7, 3) := by decide +kernel
theorem dX4_isOfTrial_21 : decode cX4_isOfTrial 21 = .ok (.iconst 1, 1) := by decide +kernel
theorem dX4_isOfTrial_22 : decode cX4_isOfTrial 22 = .ok (.goto 4, 3) := by decide +kernel
theorem dX4_isOfTrial_25 : decode cX4_isOfTrial 25 = .ok (.iconst 0, 1) := by decide +kernel
theorem dX4_isOfTrial_26 : decode cX4_isOfTrial 26 = .ok (.ireturn, 1) := by decide +kernel
theorem dX4_isCase_0 : decode cX4_isCase 0 = .ok (.iconst 0, 1) := by decide +kernel
theorem dX4_isCase_1 : decode cX4_isCase 1 = .ok (.istore_n 3, 1) := by decide +kernel
theorem dX4_isCase_2 : decode cX4_isCase 2 = .ok (.iload_n 3, 1) := by decide +kernel
theorem dX4_isCase_3 : decode cX4_isCase 3 = .ok (.iload_n 2, 1) := by decide +kernel
theorem dX4_isCase_4 : decode cX4_isCase 4 = .ok (.if_icmp .ge 37, 3) := by decide +kernel
theorem dX4_isCase_7 : decode cX4_isCase 7 = .ok (.aload_n 0, 1) := by decide +kernel
theorem dX4_isCase_8 : decode cX4_isCase 8 = .ok (.iload_n 1, 1) := by decide +kernel
theorem dX4_isCase_9 : decode cX4_isCase 9 = .ok (.iconst 2, 1) := by decide +kernel
theorem dX4_isCase_10 : decode cX4_isCase 10 = .ok (.iload_n 3, 1) := by decide +kernel
theorem dX4_isCase_11 : decode cX4_isCase 11 = .ok (.imul, 1) := by decide +kernel
theorem dX4_isCase_12 : decode cX4_isCase 12 = .ok (.iadd, 1) := by decide +kernel
theorem dX4_isCase_13 : decode cX4_isCase 13 = .ok (.invokevirtual 183, 3) := by decide +kernel
theorem dX4_isCase_16 : decode cX4_isCase 16 = .ok (.aload_n 0, 1) := by decide +kernel
theorem dX4_isCase_17 : decode cX4_isCase 17 = .ok (.iload_n 1, 1) := by decide +kernel
theorem dX4_isCase_18 : decode cX4_isCase 18 = .ok (.iconst 2, 1) := by decide +kernel
theorem dX4_isCase_19 : decode cX4_isCase 19 = .ok (.iload_n 3, 1) := by decide +kernel
theorem dX4_isCase_20 : decode cX4_isCase 20 = .ok (.imul, 1) := by decide +kernel
theorem dX4_isCase_21 : decode cX4_isCase 21 = .ok (.iadd, 1) := by decide +kernel
theorem dX4_isCase_22 : decode cX4_isCase 22 = .ok (.iconst 1, 1) := by decide +kernel
theorem dX4_isCase_23 : decode cX4_isCase 23 = .ok (.iadd, 1) := by decide +kernel
theorem dX4_isCase_24 : decode cX4_isCase 24 = .ok (.invokevirtual 183, 3) := by decide +kernel
theorem dX4_isCase_27 : decode cX4_isCase 27 = .ok (.invokestatic 186, 3) := by decide +kernel
theorem dX4_isCase_30 : decode cX4_isCase 30 = .ok (.ifCond .ne 5, 3) := by decide +kernel
theorem dX4_isCase_33 : decode cX4_isCase 33 = .ok (.iconst 0, 1) := by decide +kernel
theorem dX4_isCase_34 : decode cX4_isCase 34 = .ok (.ireturn, 1) := by decide +kernel
theorem dX4_isCase_35 : decode cX4_isCase 35 = .ok (.iinc 3 1, 3) := by decide +kernel
theorem dX4_isCase_38 : decode cX4_isCase 38 = .ok (.goto (-36), 3) := by decide +kernel
theorem dX4_isCase_41 : decode cX4_isCase 41 = .ok (.iconst 1, 1) := by decide +kernel
theorem dX4_isCase_42 : decode cX4_isCase 42 = .ok (.ireturn, 1) := by decide +kernel
theorem dX4_isAct_0 : decode cX4_isAct 0 = .ok (.iload_n 1, 1) := by decide +kernel
theorem dX4_isAct_1 : decode cX4_isAct 1 = .ok (.ifCond .lt 9, 3) := by decide +kernel
theorem dX4_isAct_4 : decode cX4_isAct 4 = .ok (.iload_n 1, 1) := by decide +kernel
theorem dX4_isAct_5 : decode cX4_isAct 5 = .ok (.bipush 17, 2) := by decide +kernel
theorem dX4_isAct_7 : decode cX4_isAct 7 = .ok (.if_icmp .le 5, 3) := by decide +kernel
theorem dX4_isAct_10 : decode cX4_isAct 10 = .ok (.iconst 0, 1) := by decide +kernel
theorem dX4_isAct_11 : decode cX4_isAct 11 = .ok (.ireturn, 1) := by decide +kernel
theorem dX4_isAct_12 : decode cX4_isAct 12 = .ok (.bipush 9, 2) := by decide +kernel
theorem dX4_isAct_14 : decode cX4_isAct 14 = .ok (.istore_n 2, 1) := by decide +kernel
theorem dX4_isAct_15 : decode cX4_isAct 15 = .ok (.iload_n 1, 1) := by decide +kernel
theorem dX4_isAct_16 : decode cX4_isAct 16 = .ok (.bipush 10, 2) := by decide +kernel
theorem dX4_isAct_18 : decode cX4_isAct 18 = .ok (.if_icmp .ne 8, 3) := by decide +kernel
theorem dX4_isAct_21 : decode cX4_isAct 21 = .ok (.iconst 5, 1) := by decide +kernel
theorem dX4_isAct_22 : decode cX4_isAct 22 = .ok (.istore_n 2, 1) := by decide +kernel
theorem dX4_isAct_23 : decode cX4_isAct 23 = .ok (.goto 11, 3) := by decide +kernel
theorem dX4_isAct_26 : decode cX4_isAct 26 = .ok (.iload_n 1, 1) := by decide +kernel
theorem dX4_isAct_27 : decode cX4_isAct 27 = .ok (.bipush 17, 2) := by decide +kernel
theorem dX4_isAct_29 : decode cX4_isAct 29 = .ok (.if_icmp .ne 5, 3) := by decide +kernel
theorem dX4_isAct_32 : decode cX4_isAct 32 = .ok (.iconst 0, 1) := by decide +kernel
theorem dX4_isAct_33 : decode cX4_isAct 33 = .ok (.istore_n 2, 1) := by decide +kernel
theorem dX4_isAct_34 : decode cX4_isAct 34 = .ok (.iload_n 0, 1) := by decide +kernel
theorem dX4_isAct_35 : decode cX4_isAct 35 = .ok (.ifCond .lt 12, 3) := by decide +kernel
theorem dX4_isAct_38 : decode cX4_isAct 38 = .ok (.iload_n 0, 1) := by decide +kernel
theorem dX4_isAct_39 : decode cX4_isAct 39 = .ok (.iload_n 2, 1) := by decide +kernel
theorem dX4_isAct_40 : decode cX4_isAct 40 = .ok (.if_icmp .gt 7, 3) := by decide +kernel
theorem dX4_isAct_43 : decode cX4_isAct 43 = .ok (.iconst 1, 1) := by decide +kernel
theorem dX4_isAct_44 : decode cX4_isAct 44 = .ok (.goto 4, 3) := by decide +kernel
theorem dX4_isAct_47 : decode cX4_isAct 47 = .ok (.iconst 0, 1) := by decide +kernel
theorem dX4_isAct_48 : decode cX4_isAct 48 = .ok (.ireturn, 1) := by decide +kernel
theorem dX4_playCase_0 : decode cX4_playCase 0 = .ok (.iconst 0, 1) := by decide +kernel
theorem dX4_playCase_1 : decode cX4_playCase 1 = .ok (.istore 4, 2) := by decide +kernel
theorem dX4_playCase_3 : decode cX4_playCase 3 = .ok (.iload 4, 2) := by decide +kernel
theorem dX4_playCase_5 : decode cX4_playCase 5 = .ok (.iload_n 3, 1) := by decide +kernel
theorem dX4_playCase_6 : decode cX4_playCase 6 = .ok (.if_icmp .ge 44, 3) := by decide +kernel
theorem dX4_playCase_9 : decode cX4_playCase 9 = .ok (.aload_n 0, 1) := by decide +kernel
theorem dX4_playCase_10 : decode cX4_playCase 10 = .ok (.getfield 25, 3) := by decide +kernel
theorem dX4_playCase_13 : decode cX4_playCase 13 = .ok (.aload_n 1, 1) := by decide +kernel
theorem dX4_playCase_14 : decode cX4_playCase 14 = .ok (.iload_n 2, 1) := by decide +kernel
theorem dX4_playCase_15 : decode cX4_playCase 15 = .ok (.iconst 2, 1) := by decide +kernel
theorem dX4_playCase_16 : decode cX4_playCase 16 = .ok (.iload 4, 2) := by decide +kernel
theorem dX4_playCase_18 : decode cX4_playCase 18 = .ok (.imul, 1) := by decide +kernel
theorem dX4_playCase_19 : decode cX4_playCase 19 = .ok (.iadd, 1) := by decide +kernel
theorem dX4_playCase_20 : decode cX4_playCase 20 = .ok (.invokevirtual 183, 3) := by decide +kernel
theorem dX4_playCase_23 : decode cX4_playCase 23 = .ok (.aload_n 1, 1) := by decide +kernel
theorem dX4_playCase_24 : decode cX4_playCase 24 = .ok (.iload_n 2, 1) := by decide +kernel
theorem dX4_playCase_25 : decode cX4_playCase 25 = .ok (.iconst 2, 1) := by decide +kernel
theorem dX4_playCase_26 : decode cX4_playCase 26 = .ok (.iload 4, 2) := by decide +kernel
theorem dX4_playCase_28 : decode cX4_playCase 28 = .ok (.imul, 1) := by decide +kernel
theorem dX4_playCase_29 : decode cX4_playCase 29 = .ok (.iadd, 1) := by decide +kernel
theorem dX4_playCase_30 : decode cX4_playCase 30 = .ok (.iconst 1, 1) := by decide +kernel
theorem dX4_playCase_31 : decode cX4_playCase 31 = .ok (.iadd, 1) := by decide +kernel
theorem dX4_playCase_32 : decode cX4_playCase 32 = .ok (.invokevirtual 183, 3) := by decide +kernel
theorem dX4_playCase_35 : decode cX4_playCase 35 = .ok (.invokevirtual 189, 3) := by decide +kernel
theorem dX4_playCase_38 : decode cX4_playCase 38 = .ok (.ifCond .ne 6, 3) := by decide +kernel
theorem dX4_playCase_41 : decode cX4_playCase 41 = .ok (.iload 4, 2) := by decide +kernel
theorem dX4_playCase_43 : decode cX4_playCase 43 = .ok (.ireturn, 1) := by decide +kernel
theorem dX4_playCase_44 : decode cX4_playCase 44 = .ok (.iinc 4 1, 3) := by decide +kernel
theorem dX4_playCase_47 : decode cX4_playCase 47 = .ok (.goto (-44), 3) := by decide +kernel
theorem dX4_playCase_50 : decode cX4_playCase 50 = .ok (.bipush (-9), 2) := by decide +kernel
theorem dX4_playCase_52 : decode cX4_playCase 52 = .ok (.ireturn, 1) := by decide +kernel
theorem dX4_ofCase_0 : decode cX4_ofCase 0 = .ok (.iload_n 1, 1) := by decide +kernel
theorem dX4_ofCase_1 : decode cX4_ofCase 1 = .ok (.tableswitch 70 0 4 #[35, 70, 43, 51, 59], 35) := by decide +kernel
theorem dX4_ofCase_36 : decode cX4_ofCase 36 = .ok (.aload_n 0, 1) := by decide +kernel
theorem dX4_ofCase_37 : decode cX4_ofCase 37 = .ok (.getfield 25, 3) := by decide +kernel
theorem dX4_ofCase_40 : decode cX4_ofCase 40 = .ok (.invokevirtual 104, 3) := by decide +kernel
theorem dX4_ofCase_43 : decode cX4_ofCase 43 = .ok (.ireturn, 1) := by decide +kernel
theorem dX4_ofCase_44 : decode cX4_ofCase 44 = .ok (.aload_n 0, 1) := by decide +kernel
theorem dX4_ofCase_45 : decode cX4_ofCase 45 = .ok (.getfield 25, 3) := by decide +kernel
theorem dX4_ofCase_48 : decode cX4_ofCase 48 = .ok (.getfield 145, 3) := by decide +kernel
theorem dX4_ofCase_51 : decode cX4_ofCase 51 = .ok (.ireturn, 1) := by decide +kernel
theorem dX4_ofCase_52 : decode cX4_ofCase 52 = .ok (.aload_n 0, 1) := by decide +kernel
theorem dX4_ofCase_53 : decode cX4_ofCase 53 = .ok (.getfield 25, 3) := by decide +kernel
theorem dX4_ofCase_56 : decode cX4_ofCase 56 = .ok (.invokevirtual 192, 3) := by decide +kernel
theorem dX4_ofCase_59 : decode cX4_ofCase 59 = .ok (.ireturn, 1) := by decide +kernel
theorem dX4_ofCase_60 : decode cX4_ofCase 60 = .ok (.aload_n 0, 1) := by decide +kernel
theorem dX4_ofCase_61 : decode cX4_ofCase 61 = .ok (.getfield 25, 3) := by decide +kernel
theorem dX4_ofCase_64 : decode cX4_ofCase 64 = .ok (.invokevirtual 195, 3) := by decide +kernel
theorem dX4_ofCase_67 : decode cX4_ofCase 67 = .ok (.invokestatic 164, 3) := by decide +kernel
theorem dX4_ofCase_70 : decode cX4_ofCase 70 = .ok (.ireturn, 1) := by decide +kernel
theorem dX4_ofCase_71 : decode cX4_ofCase 71 = .ok (.aload_n 0, 1) := by decide +kernel
theorem dX4_ofCase_72 : decode cX4_ofCase 72 = .ok (.getfield 25, 3) := by decide +kernel
theorem dX4_ofCase_75 : decode cX4_ofCase 75 = .ok (.iload_n 1, 1) := by decide +kernel
theorem dX4_ofCase_76 : decode cX4_ofCase 76 = .ok (.bipush 10, 2) := by decide +kernel
theorem dX4_ofCase_78 : decode cX4_ofCase 78 = .ok (.isub, 1) := by decide +kernel
theorem dX4_ofCase_79 : decode cX4_ofCase 79 = .ok (.invokevirtual 85, 3) := by decide +kernel
theorem dX4_ofCase_82 : decode cX4_ofCase 82 = .ok (.ifCond .eq 17, 3) := by decide +kernel
theorem dX4_ofCase_85 : decode cX4_ofCase 85 = .ok (.aload_n 0, 1) := by decide +kernel
theorem dX4_ofCase_86 : decode cX4_ofCase 86 = .ok (.getfield 25, 3) := by decide +kernel
theorem dX4_ofCase_89 : decode cX4_ofCase 89 = .ok (.iload_n 1, 1) := by decide +kernel
theorem dX4_ofCase_90 : decode cX4_ofCase 90 = .ok (.bipush 10, 2) := by decide +kernel
theorem dX4_ofCase_92 : decode cX4_ofCase 92 = .ok (.isub, 1) := by decide +kernel
theorem dX4_ofCase_93 : decode cX4_ofCase 93 = .ok (.invokevirtual 98, 3) := by decide +kernel
theorem dX4_ofCase_96 : decode cX4_ofCase 96 = .ok (.goto 5, 3) := by decide +kernel
theorem dX4_ofCase_99 : decode cX4_ofCase 99 = .ok (.bipush (-9), 2) := by decide +kernel
theorem dX4_ofCase_101 : decode cX4_ofCase 101 = .ok (.ireturn, 1) := by decide +kernel
theorem dX4_bound_0 : decode cX4_bound 0 = .ok (.aload_n 0, 1) := by decide +kernel
theorem dX4_bound_1 : decode cX4_bound 1 = .ok (.getfield 21, 3) := by decide +kernel
theorem dX4_bound_4 : decode cX4_bound 4 = .ok (.iload_n 1, 1) := by decide +kernel
theorem dX4_bound_5 : decode cX4_bound 5 = .ok (.invokevirtual 85, 3) := by decide +kernel
theorem dX4_bound_8 : decode cX4_bound 8 = .ok (.ifCond .eq 14, 3) := by decide +kernel
theorem dX4_bound_11 : decode cX4_bound 11 = .ok (.aload_n 0, 1) := by decide +kernel
theorem dX4_bound_12 : decode cX4_bound 12 = .ok (.getfield 21, 3) := by decide +kernel
theorem dX4_bound_15 : decode cX4_bound 15 = .ok (.iload_n 2, 1) := by decide +kernel
theorem dX4_bound_16 : decode cX4_bound 16 = .ok (.invokevirtual 85, 3) := by decide +kernel
theorem dX4_bound_19 : decode cX4_bound 19 = .ok (.ifCond .ne 5, 3) := by decide +kernel
theorem dX4_bound_22 : decode cX4_bound 22 = .ok (.iconst (-1), 1) := by decide +kernel
theorem dX4_bound_23 : decode cX4_bound 23 = .ok (.ireturn, 1) := by decide +kernel
theorem dX4_bound_24 : decode cX4_bound 24 = .ok (.aload_n 0, 1) := by decide +kernel
theorem dX4_bound_25 : decode cX4_bound 25 = .ok (.getfield 21, 3) := by decide +kernel
theorem dX4_bound_28 : decode cX4_bound 28 = .ok (.iload_n 1, 1) := by decide +kernel
theorem dX4_bound_29 : decode cX4_bound 29 = .ok (.iload_n 2, 1) := by decide +kernel
theorem dX4_bound_30 : decode cX4_bound 30 = .ok (.invokevirtual 198, 3) := by decide +kernel
theorem dX4_bound_33 : decode cX4_bound 33 = .ok (.ireturn, 1) := by decide +kernel
theorem dX4_together_0 : decode cX4_together 0 = .ok (.aload_n 0, 1) := by decide +kernel
theorem dX4_together_1 : decode cX4_together 1 = .ok (.iload_n 1, 1) := by decide +kernel
theorem dX4_together_2 : decode cX4_together 2 = .ok (.invokevirtual 201, 3) := by decide +kernel
theorem dX4_together_5 : decode cX4_together 5 = .ok (.istore_n 2, 1) := by decide +kernel
theorem dX4_together_6 : decode cX4_together 6 = .ok (.iload_n 2, 1) := by decide +kernel
theorem dX4_together_7 : decode cX4_together 7 = .ok (.ifCond .eq 5, 3) := by decide +kernel
theorem dX4_together_10 : decode cX4_together 10 = .ok (.iload_n 2, 1) := by decide +kernel
theorem dX4_together_11 : decode cX4_together 11 = .ok (.ireturn, 1) := by decide +kernel
theorem dX4_together_12 : decode cX4_together 12 = .ok (.iconst 0, 1) := by decide +kernel
theorem dX4_together_13 : decode cX4_together 13 = .ok (.istore_n 3, 1) := by decide +kernel
theorem dX4_together_14 : decode cX4_together 14 = .ok (.iload_n 3, 1) := by decide +kernel
theorem dX4_together_15 : decode cX4_together 15 = .ok (.aload_n 0, 1) := by decide +kernel
theorem dX4_together_16 : decode cX4_together 16 = .ok (.getfield 21, 3) := by decide +kernel
theorem dX4_together_19 : decode cX4_together 19 = .ok (.getfield 204, 3) := by decide +kernel
theorem dX4_together_22 : decode cX4_together 22 = .ok (.if_icmp .ge 26, 3) := by decide +kernel
theorem dX4_together_25 : decode cX4_together 25 = .ok (.iload_n 1, 1) := by decide +kernel
theorem dX4_together_26 : decode cX4_together 26 = .ok (.aload_n 0, 1) := by decide +kernel
theorem dX4_together_27 : decode cX4_together 27 = .ok (.getfield 21, 3) := by decide +kernel
theorem dX4_together_30 : decode cX4_together 30 = .ok (.iload_n 3, 1) := by decide +kernel
theorem dX4_together_31 : decode cX4_together 31 = .ok (.invokevirtual 139, 3) := by decide +kernel
theorem dX4_together_34 : decode cX4_together 34 = .ok (.iconst (-1), 1) := by decide +kernel
theorem dX4_together_35 : decode cX4_together 35 = .ok (.ixor, 1) := by decide +kernel
theorem dX4_together_36 : decode cX4_together 36 = .ok (.iand, 1) := by decide +kernel
theorem dX4_together_37 : decode cX4_together 37 = .ok (.ifCond .ne 5, 3) := by decide +kernel
theorem dX4_together_40 : decode cX4_together 40 = .ok (.iload_n 3, 1) := by decide +kernel
theorem dX4_together_41 : decode cX4_together 41 = .ok (.ireturn, 1) := by decide +kernel
theorem dX4_together_42 : decode cX4_together 42 = .ok (.iinc 3 1, 3) := by decide +kernel
theorem dX4_together_45 : decode cX4_together 45 = .ok (.goto (-31), 3) := by decide +kernel
theorem dX4_together_48 : decode cX4_together 48 = .ok (.bipush (-9), 2) := by decide +kernel
theorem dX4_together_50 : decode cX4_together 50 = .ok (.ireturn, 1) := by decide +kernel
theorem dX4_coated_0 : decode cX4_coated 0 = .ok (.aload_n 0, 1) := by decide +kernel
theorem dX4_coated_1 : decode cX4_coated 1 = .ok (.iload_n 1, 1) := by decide +kernel
theorem dX4_coated_2 : decode cX4_coated 2 = .ok (.invokevirtual 201, 3) := by decide +kernel
theorem dX4_coated_5 : decode cX4_coated 5 = .ok (.istore_n 2, 1) := by decide +kernel
theorem dX4_coated_6 : decode cX4_coated 6 = .ok (.iload_n 2, 1) := by decide +kernel
theorem dX4_coated_7 : decode cX4_coated 7 = .ok (.ifCond .eq 5, 3) := by decide +kernel
theorem dX4_coated_10 : decode cX4_coated 10 = .ok (.iload_n 2, 1) := by decide +kernel
theorem dX4_coated_11 : decode cX4_coated 11 = .ok (.ireturn, 1) := by decide +kernel
theorem dX4_coated_12 : decode cX4_coated 12 = .ok (.iconst 0, 1) := by decide +kernel
theorem dX4_coated_13 : decode cX4_coated 13 = .ok (.istore_n 3, 1) := by decide +kernel
theorem dX4_coated_14 : decode cX4_coated 14 = .ok (.iload_n 3, 1) := by decide +kernel
theorem dX4_coated_15 : decode cX4_coated 15 = .ok (.aload_n 0, 1) := by decide +kernel
theorem dX4_coated_16 : decode cX4_coated 16 = .ok (.getfield 21, 3) := by decide +kernel
theorem dX4_coated_19 : decode cX4_coated 19 = .ok (.getfield 82, 3) := by decide +kernel
theorem dX4_coated_22 : decode cX4_coated 22 = .ok (.if_icmp .ge 30, 3) := by decide +kernel
theorem dX4_coated_25 : decode cX4_coated 25 = .ok (.iload_n 1, 1) := by decide +kernel
theorem dX4_coated_26 : decode cX4_coated 26 = .ok (.iload_n 3, 1) := by decide +kernel
theorem dX4_coated_27 : decode cX4_coated 27 = .ok (.invokestatic 207, 3) := by decide +kernel
theorem dX4_coated_30 : decode cX4_coated 30 = .ok (.ifCond .eq 16, 3) := by decide +kernel
theorem dX4_coated_33 : decode cX4_coated 33 = .ok (.aload_n 0, 1) := by decide +kernel
theorem dX4_coated_34 : decode cX4_coated 34 = .ok (.getfield 21, 3) := by decide +kernel
theorem dX4_coated_37 : decode cX4_coated 37 = .ok (.iload_n 3, 1) := by decide +kernel
theorem dX4_coated_38 : decode cX4_coated 38 = .ok (.invokevirtual 98, 3) := by decide +kernel
theorem dX4_coated_41 : decode cX4_coated 41 = .ok (.ifCond .ne 5, 3) := by decide +kernel
theorem dX4_coated_44 : decode cX4_coated 44 = .ok (.iload_n 3, 1) := by decide +kernel
theorem dX4_coated_45 : decode cX4_coated 45 = .ok (.ireturn, 1) := by decide +kernel
theorem dX4_coated_46 : decode cX4_coated 46 = .ok (.iinc 3 1, 3) := by decide +kernel
theorem dX4_coated_49 : decode cX4_coated 49 = .ok (.goto (-35), 3) := by decide +kernel
theorem dX4_coated_52 : decode cX4_coated 52 = .ok (.bipush (-9), 2) := by decide +kernel
theorem dX4_coated_54 : decode cX4_coated 54 = .ok (.ireturn, 1) := by decide +kernel
theorem dX4_refusalOfSwearers_0 : decode cX4_refusalOfSwearers 0 = .ok (.iload_n 1, 1) := by decide +kernel
theorem dX4_refusalOfSwearers_1 : decode cX4_refusalOfSwearers 1 = .ok (.ifCond .lt 9, 3) := by decide +kernel
theorem dX4_refusalOfSwearers_4 : decode cX4_refusalOfSwearers 4 = .ok (.iload_n 1, 1) := by decide +kernel
theorem dX4_refusalOfSwearers_5 : decode cX4_refusalOfSwearers 5 = .ok (.bipush 16, 2) := by decide +kernel
theorem dX4_refusalOfSwearers_7 : decode cX4_refusalOfSwearers 7 = .ok (.if_icmp .lt 6, 3) := by decide +kernel
theorem dX4_refusalOfSwearers_10 : decode cX4_refusalOfSwearers 10 = .ok (.bipush (-2), 2) := by decide +kernel
theorem dX4_refusalOfSwearers_12 : decode cX4_refusalOfSwearers 12 = .ok (.ireturn, 1) := by decide +kernel
theorem dX4_refusalOfSwearers_13 : decode cX4_refusalOfSwearers 13 = .ok (.aload_n 0, 1) := by decide +kernel
theorem dX4_refusalOfSwearers_14 : decode cX4_refusalOfSwearers 14 = .ok (.invokevirtual 156, 3) := by decide +kernel
theorem dX4_refusalOfSwearers_17 : decode cX4_refusalOfSwearers 17 = .ok (.ifCond .ne 6, 3) := by decide +kernel
theorem dX4_refusalOfSwearers_20 : decode cX4_refusalOfSwearers 20 = .ok (.bipush (-3), 2) := by decide +kernel
theorem dX4_refusalOfSwearers_22 : decode cX4_refusalOfSwearers 22 = .ok (.ireturn, 1) := by decide +kernel
theorem dX4_refusalOfSwearers_23 : decode cX4_refusalOfSwearers 23 = .ok (.iload_n 1, 1) := by decide +kernel
theorem dX4_refusalOfSwearers_24 : decode cX4_refusalOfSwearers 24 = .ok (.iconst 1, 1) := by decide +kernel
theorem dX4_refusalOfSwearers_25 : decode cX4_refusalOfSwearers 25 = .ok (.aload_n 0, 1) := by decide +kernel
theorem dX4_refusalOfSwearers_26 : decode cX4_refusalOfSwearers 26 = .ok (.getfield 21, 3) := by decide +kernel
theorem dX4_refusalOfSwearers_29 : decode cX4_refusalOfSwearers 29 = .ok (.getfield 82, 3) := by decide +kernel
theorem dX4_refusalOfSwearers_32 : decode cX4_refusalOfSwearers 32 = .ok (.ishl, 1) := by decide +kernel
theorem dX4_refusalOfSwearers_33 : decode cX4_refusalOfSwearers 33 = .ok (.if_icmp .lt 7, 3) := by decide +kernel
theorem dX4_refusalOfSwearers_36 : decode cX4_refusalOfSwearers 36 = .ok (.iconst (-1), 1) := by decide +kernel
theorem dX4_refusalOfSwearers_37 : decode cX4_refusalOfSwearers 37 = .ok (.goto 4, 3) := by decide +kernel
theorem dX4_refusalOfSwearers_40 : decode cX4_refusalOfSwearers 40 = .ok (.iconst 0, 1) := by decide +kernel
theorem dX4_refusalOfSwearers_41 : decode cX4_refusalOfSwearers 41 = .ok (.ireturn, 1) := by decide +kernel
theorem dX4_letgo_0 : decode cX4_letgo 0 = .ok (.iload_n 1, 1) := by decide +kernel
theorem dX4_letgo_1 : decode cX4_letgo 1 = .ok (.ifCond .lt 8, 3) := by decide +kernel
theorem dX4_letgo_4 : decode cX4_letgo 4 = .ok (.iload_n 1, 1) := by decide +kernel
theorem dX4_letgo_5 : decode cX4_letgo 5 = .ok (.iconst 1, 1) := by decide +kernel
theorem dX4_letgo_6 : decode cX4_letgo 6 = .ok (.if_icmp .le 6, 3) := by decide +kernel
theorem dX4_letgo_9 : decode cX4_letgo 9 = .ok (.bipush (-2), 2) := by decide +kernel
theorem dX4_letgo_11 : decode cX4_letgo 11 = .ok (.ireturn, 1) := by decide +kernel
theorem dX4_letgo_12 : decode cX4_letgo 12 = .ok (.aload_n 0, 1) := by decide +kernel
theorem dX4_letgo_13 : decode cX4_letgo 13 = .ok (.invokevirtual 156, 3) := by decide +kernel
theorem dX4_letgo_16 : decode cX4_letgo 16 = .ok (.ifCond .ne 6, 3) := by decide +kernel
theorem dX4_letgo_19 : decode cX4_letgo 19 = .ok (.bipush (-3), 2) := by decide +kernel
theorem dX4_letgo_21 : decode cX4_letgo 21 = .ok (.ireturn, 1) := by decide +kernel
theorem dX4_letgo_22 : decode cX4_letgo 22 = .ok (.aload_n 0, 1) := by decide +kernel
theorem dX4_letgo_23 : decode cX4_letgo 23 = .ok (.getfield 21, 3) := by decide +kernel
theorem dX4_letgo_26 : decode cX4_letgo 26 = .ok (.invokevirtual 195, 3) := by decide +kernel
theorem dX4_letgo_29 : decode cX4_letgo 29 = .ok (.istore_n 2, 1) := by decide +kernel
theorem dX4_letgo_30 : decode cX4_letgo 30 = .ok (.iload_n 1, 1) := by decide +kernel
theorem dX4_letgo_31 : decode cX4_letgo 31 = .ok (.ifCond .ne 10, 3) := by decide +kernel
theorem dX4_letgo_34 : decode cX4_letgo 34 = .ok (.iload_n 2, 1) := by decide +kernel
theorem dX4_letgo_35 : decode cX4_letgo 35 = .ok (.invokestatic 164, 3) := by decide +kernel
theorem dX4_letgo_38 : decode cX4_letgo 38 = .ok (.goto 4, 3) := by decide +kernel
theorem dX4_letgo_41 : decode cX4_letgo 41 = .ok (.iload_n 2, 1) := by decide +kernel
theorem dX4_letgo_42 : decode cX4_letgo 42 = .ok (.ireturn, 1) := by decide +kernel
theorem dX4_stoves_0 : decode cX4_stoves 0 = .ok (.iload_n 1, 1) := by decide +kernel
theorem dX4_stoves_1 : decode cX4_stoves 1 = .ok (.ifCond .lt 18, 3) := by decide +kernel
theorem dX4_stoves_4 : decode cX4_stoves 4 = .ok (.iload_n 1, 1) := by decide +kernel
theorem dX4_stoves_5 : decode cX4_stoves 5 = .ok (.bipush 64, 2) := by decide +kernel
theorem dX4_stoves_7 : decode cX4_stoves 7 = .ok (.if_icmp .ge 12, 3) := by decide +kernel
theorem dX4_stoves_10 : decode cX4_stoves 10 = .ok (.iload_n 2, 1) := by decide +kernel
theorem dX4_stoves_11 : decode cX4_stoves 11 = .ok (.ifCond .lt 8, 3) := by decide +kernel
theorem dX4_stoves_14 : decode cX4_stoves 14 = .ok (.iload_n 2, 1) := by decide +kernel
theorem dX4_stoves_15 : decode cX4_stoves 15 = .ok (.iconst 2, 1) := by decide +kernel
theorem dX4_stoves_16 : decode cX4_stoves 16 = .ok (.if_icmp .le 6, 3) := by decide +kernel
theorem dX4_stoves_19 : decode cX4_stoves 19 = .ok (.bipush (-2), 2) := by decide +kernel
theorem dX4_stoves_21 : decode cX4_stoves 21 = .ok (.ireturn, 1) := by decide +kernel
theorem dX4_stoves_22 : decode cX4_stoves 22 = .ok (.aload_n 0, 1) := by decide +kernel
theorem dX4_stoves_23 : decode cX4_stoves 23 = .ok (.invokevirtual 156, 3) := by decide +kernel
theorem dX4_stoves_26 : decode cX4_stoves 26 = .ok (.ifCond .ne 6, 3) := by decide +kernel
theorem dX4_stoves_29 : decode cX4_stoves 29 = .ok (.bipush (-3), 2) := by decide +kernel
theorem dX4_stoves_31 : decode cX4_stoves 31 = .ok (.ireturn, 1) := by decide +kernel
theorem dX4_stoves_32 : decode cX4_stoves 32 = .ok (.iload_n 1, 1) := by decide +kernel
theorem dX4_stoves_33 : decode cX4_stoves 33 = .ok (.iconst 1, 1) := by decide +kernel
theorem dX4_stoves_34 : decode cX4_stoves 34 = .ok (.aload_n 0, 1) := by decide +kernel
theorem dX4_stoves_35 : decode cX4_stoves 35 = .ok (.getfield 21, 3) := by decide +kernel
theorem dX4_stoves_38 : decode cX4_stoves 38 = .ok (.getfield 145, 3) := by decide +kernel
theorem dX4_stoves_41 : decode cX4_stoves 41 = .ok (.ishl, 1) := by decide +kernel
theorem dX4_stoves_42 : decode cX4_stoves 42 = .ok (.if_icmp .lt 5, 3) := by decide +kernel
theorem dX4_stoves_45 : decode cX4_stoves 45 = .ok (.iconst (-1), 1) := by decide +kernel
theorem dX4_stoves_46 : decode cX4_stoves 46 = .ok (.ireturn, 1) := by decide +kernel
theorem dX4_stoves_47 : decode cX4_stoves 47 = .ok (.aload_n 0, 1) := by decide +kernel
theorem dX4_stoves_48 : decode cX4_stoves 48 = .ok (.aload_n 0, 1) := by decide +kernel
theorem dX4_stoves_49 : decode cX4_stoves 49 = .ok (.getfield 21, 3) := by decide +kernel
theorem dX4_stoves_52 : decode cX4_stoves 52 = .ok (.invokevirtual 210, 3) := by decide +kernel
theorem dX4_stoves_55 : decode cX4_stoves 55 = .ok (.iload_n 1, 1) := by decide +kernel
theorem dX4_stoves_56 : decode cX4_stoves 56 = .ok (.iconst (-1), 1) := by decide +kernel
theorem dX4_stoves_57 : decode cX4_stoves 57 = .ok (.ixor, 1) := by decide +kernel
theorem dX4_stoves_58 : decode cX4_stoves 58 = .ok (.iand, 1) := by decide +kernel
theorem dX4_stoves_59 : decode cX4_stoves 59 = .ok (.iload_n 2, 1) := by decide +kernel
theorem dX4_stoves_60 : decode cX4_stoves 60 = .ok (.invokevirtual 213, 3) := by decide +kernel
theorem dX4_stoves_63 : decode cX4_stoves 63 = .ok (.ireturn, 1) := by decide +kernel
theorem dX4_stovesThatSpare_0 : decode cX4_stovesThatSpare 0 = .ok (.iconst 0, 1) := by decide +kernel
theorem dX4_stovesThatSpare_1 : decode cX4_stovesThatSpare 1 = .ok (.istore_n 3, 1) := by decide +kernel
theorem dX4_stovesThatSpare_2 : decode cX4_stovesThatSpare 2 = .ok (.bipush (-9), 2) := by decide +kernel
theorem dX4_stovesThatSpare_4 : decode cX4_stovesThatSpare 4 = .ok (.istore 4, 2) := by decide +kernel
theorem dX4_stovesThatSpare_6 : decode cX4_stovesThatSpare 6 = .ok (.bipush (-9), 2) := by decide +kernel
theorem dX4_stovesThatSpare_8 : decode cX4_stovesThatSpare 8 = .ok (.istore 5, 2) := by decide +kernel
theorem dX4_stovesThatSpare_10 : decode cX4_stovesThatSpare 10 = .ok (.aload_n 0, 1) := by decide +kernel
theorem dX4_stovesThatSpare_11 : decode cX4_stovesThatSpare 11 = .ok (.getfield 25, 3) := by decide +kernel
theorem dX4_stovesThatSpare_14 : decode cX4_stovesThatSpare 14 = .ok (.aload_n 0, 1) := by decide +kernel
theorem dX4_stovesThatSpare_15 : decode cX4_stovesThatSpare 15 = .ok (.getfield 21, 3) := by decide +kernel
theorem dX4_stovesThatSpare_18 : decode cX4_stovesThatSpare 18 = .ok (.invokevirtual 75, 3) := by decide +kernel
theorem dX4_stovesThatSpare_21 : decode cX4_stovesThatSpare 21 = .ok (.iconst 0, 1) := by decide +kernel
theorem dX4_stovesThatSpare_22 : decode cX4_stovesThatSpare 22 = .ok (.istore 6, 2) := by decide +kernel
theorem dX4_stovesThatSpare_24 : decode cX4_stovesThatSpare 24 = .ok (.iload 6, 2) := by decide +kernel
theorem dX4_stovesThatSpare_26 : decode cX4_stovesThatSpare 26 = .ok (.aload_n 0, 1) := by decide +kernel
theorem dX4_stovesThatSpare_27 : decode cX4_stovesThatSpare 27 = .ok (.getfield 21, 3) := by decide +kernel
theorem dX4_stovesThatSpare_30 : decode cX4_stovesThatSpare 30 = .ok (.getfield 204, 3) := by decide +kernel
theorem dX4_stovesThatSpare_33 : decode cX4_stovesThatSpare 33 = .ok (.if_icmp .ge 65, 3) := by decide +kernel
theorem dX4_stovesThatSpare_36 : decode cX4_stovesThatSpare 36 = .ok (.iconst 0, 1) := by decide +kernel
theorem dX4_stovesThatSpare_37 : decode cX4_stovesThatSpare 37 = .ok (.istore 7, 2) := by decide +kernel
theorem dX4_stovesThatSpare_39 : decode cX4_stovesThatSpare 39 = .ok (.iload 7, 2) := by decide +kernel
theorem dX4_stovesThatSpare_41 : decode cX4_stovesThatSpare 41 = .ok (.bipush 9, 2) := by decide +kernel
theorem dX4_stovesThatSpare_43 : decode cX4_stovesThatSpare 43 = .ok (.if_icmp .gt 49, 3) := by decide +kernel
theorem dX4_stovesThatSpare_46 : decode cX4_stovesThatSpare 46 = .ok (.aload_n 0, 1) := by decide +kernel
theorem dX4_stovesThatSpare_47 : decode cX4_stovesThatSpare 47 = .ok (.getfield 25, 3) := by decide +kernel
theorem dX4_stovesThatSpare_50 : decode cX4_stovesThatSpare 50 = .ok (.iload 6, 2) := by decide +kernel
theorem dX4_stovesThatSpare_52 : decode cX4_stovesThatSpare 52 = .ok (.iload 7, 2) := by decide +kernel
theorem dX4_stovesThatSpare_54 : decode cX4_stovesThatSpare 54 = .ok (.invokevirtual 160, 3) := by decide +kernel
theorem dX4_stovesThatSpare_57 : decode cX4_stovesThatSpare 57 = .ok (.aload_n 0, 1) := by decide +kernel
theorem dX4_stovesThatSpare_58 : decode cX4_stovesThatSpare 58 = .ok (.getfield 25, 3) := by decide +kernel
theorem dX4_stovesThatSpare_61 : decode cX4_stovesThatSpare 61 = .ok (.invokevirtual 104, 3) := by decide +kernel
theorem dX4_stovesThatSpare_64 : decode cX4_stovesThatSpare 64 = .ok (.iload_n 1, 1) := by decide +kernel
theorem dX4_stovesThatSpare_65 : decode cX4_stovesThatSpare 65 = .ok (.if_icmp .eq 6, 3) := by decide +kernel
theorem dX4_stovesThatSpare_68 : decode cX4_stovesThatSpare 68 = .ok (.goto 18, 3) := by decide +kernel
theorem dX4_stovesThatSpare_71 : decode cX4_stovesThatSpare 71 = .ok (.iload_n 3, 1) := by decide +kernel
theorem dX4_stovesThatSpare_72 : decode cX4_stovesThatSpare 72 = .ok (.ifCond .ne 11, 3) := by decide +kernel
theorem dX4_stovesThatSpare_75 : decode cX4_stovesThatSpare 75 = .ok (.iload 6, 2) := by decide +kernel
theorem dX4_stovesThatSpare_77 : decode cX4_stovesThatSpare 77 = .ok (.istore 4, 2) := by decide +kernel
theorem dX4_stovesThatSpare_79 : decode cX4_stovesThatSpare 79 = .ok (.iload 7, 2) := by decide +kernel
theorem dX4_stovesThatSpare_81 : decode cX4_stovesThatSpare 81 = .ok (.istore 5, 2) := by decide +kernel
theorem dX4_stovesThatSpare_83 : decode cX4_stovesThatSpare 83 = .ok (.iinc 3 1, 3) := by decide +kernel
theorem dX4_stovesThatSpare_86 : decode cX4_stovesThatSpare 86 = .ok (.iinc 7 1, 3) := by decide +kernel
theorem dX4_stovesThatSpare_89 : decode cX4_stovesThatSpare 89 = .ok (.goto (-50), 3) := by decide +kernel
theorem dX4_stovesThatSpare_92 : decode cX4_stovesThatSpare 92 = .ok (.iinc 6 1, 3) := by decide +kernel
theorem dX4_stovesThatSpare_95 : decode cX4_stovesThatSpare 95 = .ok (.goto (-71), 3) := by decide +kernel
theorem dX4_stovesThatSpare_98 : decode cX4_stovesThatSpare 98 = .ok (.iload_n 2, 1) := by decide +kernel
theorem dX4_stovesThatSpare_99 : decode cX4_stovesThatSpare 99 = .ok (.ifCond .ne 5, 3) := by decide +kernel
theorem dX4_stovesThatSpare_102 : decode cX4_stovesThatSpare 102 = .ok (.iload_n 3, 1) := by decide +kernel
theorem dX4_stovesThatSpare_103 : decode cX4_stovesThatSpare 103 = .ok (.ireturn, 1) := by decide +kernel
theorem dX4_stovesThatSpare_104 : decode cX4_stovesThatSpare 104 = .ok (.iload_n 2, 1) := by decide +kernel
theorem dX4_stovesThatSpare_105 : decode cX4_stovesThatSpare 105 = .ok (.iconst 1, 1) := by decide +kernel
theorem dX4_stovesThatSpare_106 : decode cX4_stovesThatSpare 106 = .ok (.if_icmp .ne 8, 3) := by decide +kernel
theorem dX4_stovesThatSpare_109 : decode cX4_stovesThatSpare 109 = .ok (.iload 4, 2) := by decide +kernel
theorem dX4_stovesThatSpare_111 : decode cX4_stovesThatSpare 111 = .ok (.goto 5, 3) := by decide +kernel
theorem dX4_stovesThatSpare_114 : decode cX4_stovesThatSpare 114 = .ok (.iload 5, 2) := by decide +kernel
theorem dX4_stovesThatSpare_116 : decode cX4_stovesThatSpare 116 = .ok (.ireturn, 1) := by decide +kernel
theorem dX4_reading_0 : decode cX4_reading 0 = .ok (.aload_n 0, 1) := by decide +kernel
theorem dX4_reading_1 : decode cX4_reading 1 = .ok (.getfield 21, 3) := by decide +kernel
theorem dX4_reading_4 : decode cX4_reading 4 = .ok (.iload_n 1, 1) := by decide +kernel
theorem dX4_reading_5 : decode cX4_reading 5 = .ok (.invokevirtual 85, 3) := by decide +kernel
theorem dX4_reading_8 : decode cX4_reading 8 = .ok (.ifCond .eq 14, 3) := by decide +kernel
theorem dX4_reading_11 : decode cX4_reading 11 = .ok (.aload_n 0, 1) := by decide +kernel
theorem dX4_reading_12 : decode cX4_reading 12 = .ok (.getfield 21, 3) := by decide +kernel
theorem dX4_reading_15 : decode cX4_reading 15 = .ok (.iload_n 2, 1) := by decide +kernel
theorem dX4_reading_16 : decode cX4_reading 16 = .ok (.invokevirtual 127, 3) := by decide +kernel
theorem dX4_reading_19 : decode cX4_reading 19 = .ok (.ifCond .ne 5, 3) := by decide +kernel
theorem dX4_reading_22 : decode cX4_reading 22 = .ok (.iconst (-1), 1) := by decide +kernel
theorem dX4_reading_23 : decode cX4_reading 23 = .ok (.ireturn, 1) := by decide +kernel
theorem dX4_reading_24 : decode cX4_reading 24 = .ok (.iload_n 3, 1) := by decide +kernel
theorem dX4_reading_25 : decode cX4_reading 25 = .ok (.ifCond .lt 8, 3) := by decide +kernel
theorem dX4_reading_28 : decode cX4_reading 28 = .ok (.iload_n 3, 1) := by decide +kernel
theorem dX4_reading_29 : decode cX4_reading 29 = .ok (.iconst 1, 1) := by decide +kernel
theorem dX4_reading_30 : decode cX4_reading 30 = .ok (.if_icmp .le 6, 3) := by decide +kernel
theorem dX4_reading_33 : decode cX4_reading 33 = .ok (.bipush (-2), 2) := by decide +kernel
theorem dX4_reading_35 : decode cX4_reading 35 = .ok (.ireturn, 1) := by decide +kernel
theorem dX4_reading_36 : decode cX4_reading 36 = .ok (.aload_n 0, 1) := by decide +kernel
theorem dX4_reading_37 : decode cX4_reading 37 = .ok (.getfield 38, 3) := by decide +kernel
theorem dX4_reading_40 : decode cX4_reading 40 = .ok (.getfield 79, 3) := by decide +kernel
theorem dX4_reading_43 : decode cX4_reading 43 = .ok (.bipush 8, 2) := by decide +kernel
theorem dX4_reading_45 : decode cX4_reading 45 = .ok (.if_icmp .lt 6, 3) := by decide +kernel
theorem dX4_reading_48 : decode cX4_reading 48 = .ok (.bipush (-4), 2) := by decide +kernel
theorem dX4_reading_50 : decode cX4_reading 50 = .ok (.ireturn, 1) := by decide +kernel
theorem dX4_reading_51 : decode cX4_reading 51 = .ok (.aload_n 0, 1) := by decide +kernel
theorem dX4_reading_52 : decode cX4_reading 52 = .ok (.getfield 38, 3) := by decide +kernel
theorem dX4_reading_55 : decode cX4_reading 55 = .ok (.iload_n 1, 1) := by decide +kernel
theorem dX4_reading_56 : decode cX4_reading 56 = .ok (.iload_n 2, 1) := by decide +kernel
theorem dX4_reading_57 : decode cX4_reading 57 = .ok (.iload_n 3, 1) := by decide +kernel
theorem dX4_reading_58 : decode cX4_reading 58 = .ok (.iconst 1, 1) := by decide +kernel
theorem dX4_reading_59 : decode cX4_reading 59 = .ok (.if_icmp .ne 7, 3) := by decide +kernel
theorem dX4_reading_62 : decode cX4_reading 62 = .ok (.iconst 1, 1) := by decide +kernel
theorem dX4_reading_63 : decode cX4_reading 63 = .ok (.goto 4, 3) := by decide +kernel
theorem dX4_reading_66 : decode cX4_reading 66 = .ok (.iconst 0, 1) := by decide +kernel
theorem dX4_reading_67 : decode cX4_reading 67 = .ok (.invokevirtual 216, 3) := by decide +kernel
theorem dX4_reading_70 : decode cX4_reading 70 = .ok (.aload_n 0, 1) := by decide +kernel
theorem dX4_reading_71 : decode cX4_reading 71 = .ok (.getfield 38, 3) := by decide +kernel
theorem dX4_reading_74 : decode cX4_reading 74 = .ok (.getfield 79, 3) := by decide +kernel
theorem dX4_reading_77 : decode cX4_reading 77 = .ok (.iconst 1, 1) := by decide +kernel
theorem dX4_reading_78 : decode cX4_reading 78 = .ok (.isub, 1) := by decide +kernel
theorem dX4_reading_79 : decode cX4_reading 79 = .ok (.ireturn, 1) := by decide +kernel
theorem dX4_back_0 : decode cX4_back 0 = .ok (.iload_n 1, 1) := by decide +kernel
theorem dX4_back_1 : decode cX4_back 1 = .ok (.ifCond .lt 14, 3) := by decide +kernel
theorem dX4_back_4 : decode cX4_back 4 = .ok (.iload_n 1, 1) := by decide +kernel
theorem dX4_back_5 : decode cX4_back 5 = .ok (.aload_n 0, 1) := by decide +kernel
theorem dX4_back_6 : decode cX4_back 6 = .ok (.getfield 38, 3) := by decide +kernel
theorem dX4_back_9 : decode cX4_back 9 = .ok (.getfield 79, 3) := by decide +kernel
theorem dX4_back_12 : decode cX4_back 12 = .ok (.if_icmp .le 6, 3) := by decide +kernel
theorem dX4_back_15 : decode cX4_back 15 = .ok (.bipush (-2), 2) := by decide +kernel
theorem dX4_back_17 : decode cX4_back 17 = .ok (.ireturn, 1) := by decide +kernel
theorem dX4_back_18 : decode cX4_back 18 = .ok (.aload_n 0, 1) := by decide +kernel
theorem dX4_back_19 : decode cX4_back 19 = .ok (.getfield 38, 3) := by decide +kernel
theorem dX4_back_22 : decode cX4_back 22 = .ok (.dup, 1) := by decide +kernel
theorem dX4_back_23 : decode cX4_back 23 = .ok (.getfield 79, 3) := by decide +kernel
theorem dX4_back_26 : decode cX4_back 26 = .ok (.iload_n 1, 1) := by decide +kernel
theorem dX4_back_27 : decode cX4_back 27 = .ok (.isub, 1) := by decide +kernel
theorem dX4_back_28 : decode cX4_back 28 = .ok (.putfield 79, 3) := by decide +kernel
theorem dX4_back_31 : decode cX4_back 31 = .ok (.aload_n 0, 1) := by decide +kernel
theorem dX4_back_32 : decode cX4_back 32 = .ok (.getfield 38, 3) := by decide +kernel
theorem dX4_back_35 : decode cX4_back 35 = .ok (.getfield 79, 3) := by decide +kernel
theorem dX4_back_38 : decode cX4_back 38 = .ok (.ireturn, 1) := by decide +kernel
theorem dX4_coats_0 : decode cX4_coats 0 = .ok (.aload_n 0, 1) := by decide +kernel
theorem dX4_coats_1 : decode cX4_coats 1 = .ok (.getfield 21, 3) := by decide +kernel
theorem dX4_coats_4 : decode cX4_coats 4 = .ok (.iload_n 1, 1) := by decide +kernel
theorem dX4_coats_5 : decode cX4_coats 5 = .ok (.invokevirtual 85, 3) := by decide +kernel
theorem dX4_coats_8 : decode cX4_coats 8 = .ok (.ifCond .ne 5, 3) := by decide +kernel
theorem dX4_coats_11 : decode cX4_coats 11 = .ok (.iconst (-1), 1) := by decide +kernel
theorem dX4_coats_12 : decode cX4_coats 12 = .ok (.ireturn, 1) := by decide +kernel
theorem dX4_coats_13 : decode cX4_coats 13 = .ok (.aload_n 0, 1) := by decide +kernel
theorem dX4_coats_14 : decode cX4_coats 14 = .ok (.getfield 25, 3) := by decide +kernel
theorem dX4_coats_17 : decode cX4_coats 17 = .ok (.aload_n 0, 1) := by decide +kernel
theorem dX4_coats_18 : decode cX4_coats 18 = .ok (.getfield 21, 3) := by decide +kernel
theorem dX4_coats_21 : decode cX4_coats 21 = .ok (.invokevirtual 75, 3) := by decide +kernel
theorem dX4_coats_24 : decode cX4_coats 24 = .ok (.iconst 0, 1) := by decide +kernel
theorem dX4_coats_25 : decode cX4_coats 25 = .ok (.istore_n 2, 1) := by decide +kernel
theorem dX4_coats_26 : decode cX4_coats 26 = .ok (.iconst 0, 1) := by decide +kernel
theorem dX4_coats_27 : decode cX4_coats 27 = .ok (.istore_n 3, 1) := by decide +kernel
theorem dX4_coats_28 : decode cX4_coats 28 = .ok (.iload_n 3, 1) := by decide +kernel
theorem dX4_coats_29 : decode cX4_coats 29 = .ok (.bipush 9, 2) := by decide +kernel
theorem dX4_coats_31 : decode cX4_coats 31 = .ok (.if_icmp .gt 43, 3) := by decide +kernel
theorem dX4_coats_34 : decode cX4_coats 34 = .ok (.aload_n 0, 1) := by decide +kernel
theorem dX4_coats_35 : decode cX4_coats 35 = .ok (.getfield 25, 3) := by decide +kernel
theorem dX4_coats_38 : decode cX4_coats 38 = .ok (.getfield 92, 3) := by decide +kernel
theorem dX4_coats_41 : decode cX4_coats 41 = .ok (.iload_n 1, 1) := by decide +kernel
theorem dX4_coats_42 : decode cX4_coats 42 = .ok (.iload_n 3, 1) := by decide +kernel
theorem dX4_coats_43 : decode cX4_coats 43 = .ok (.iastore, 1) := by decide +kernel
theorem dX4_coats_44 : decode cX4_coats 44 = .ok (.iload_n 2, 1) := by decide +kernel
theorem dX4_coats_45 : decode cX4_coats 45 = .ok (.aload_n 0, 1) := by decide +kernel
theorem dX4_coats_46 : decode cX4_coats 46 = .ok (.getfield 38, 3) := by decide +kernel
theorem dX4_coats_49 : decode cX4_coats 49 = .ok (.aload_n 0, 1) := by decide +kernel
theorem dX4_coats_50 : decode cX4_coats 50 = .ok (.getfield 25, 3) := by decide +kernel
theorem dX4_coats_53 : decode cX4_coats 53 = .ok (.invokevirtual 220, 3) := by decide +kernel
theorem dX4_coats_56 : decode cX4_coats 56 = .ok (.ifCond .eq 9, 3) := by decide +kernel
theorem dX4_coats_59 : decode cX4_coats 59 = .ok (.iconst 1, 1) := by decide +kernel
theorem dX4_coats_60 : decode cX4_coats 60 = .ok (.iload_n 3, 1) := by decide +kernel
theorem dX4_coats_61 : decode cX4_coats 61 = .ok (.ishl, 1) := by decide +kernel
theorem dX4_coats_62 : decode cX4_coats 62 = .ok (.goto 4, 3) := by decide +kernel
theorem dX4_coats_65 : decode cX4_coats 65 = .ok (.iconst 0, 1) := by decide +kernel
theorem dX4_coats_66 : decode cX4_coats 66 = .ok (.ior, 1) := by decide +kernel
theorem dX4_coats_67 : decode cX4_coats 67 = .ok (.istore_n 2, 1) := by decide +kernel
theorem dX4_coats_68 : decode cX4_coats 68 = .ok (.iinc 3 1, 3) := by decide +kernel
theorem dX4_coats_71 : decode cX4_coats 71 = .ok (.goto (-43), 3) := by decide +kernel
theorem dX4_coats_74 : decode cX4_coats 74 = .ok (.iload_n 2, 1) := by decide +kernel
theorem dX4_coats_75 : decode cX4_coats 75 = .ok (.ireturn, 1) := by decide +kernel
theorem dX4_kinds_0 : decode cX4_kinds 0 = .ok (.aload_n 0, 1) := by decide +kernel
theorem dX4_kinds_1 : decode cX4_kinds 1 = .ok (.getfield 21, 3) := by decide +kernel
theorem dX4_kinds_4 : decode cX4_kinds 4 = .ok (.iload_n 1, 1) := by decide +kernel
theorem dX4_kinds_5 : decode cX4_kinds 5 = .ok (.invokevirtual 85, 3) := by decide +kernel
theorem dX4_kinds_8 : decode cX4_kinds 8 = .ok (.ifCond .ne 5, 3) := by decide +kernel
theorem dX4_kinds_11 : decode cX4_kinds 11 = .ok (.iconst (-1), 1) := by decide +kernel
theorem dX4_kinds_12 : decode cX4_kinds 12 = .ok (.ireturn, 1) := by decide +kernel
theorem dX4_kinds_13 : decode cX4_kinds 13 = .ok (.aload_n 0, 1) := by decide +kernel
theorem dX4_kinds_14 : decode cX4_kinds 14 = .ok (.getfield 25, 3) := by decide +kernel
theorem dX4_kinds_17 : decode cX4_kinds 17 = .ok (.aload_n 0, 1) := by decide +kernel
theorem dX4_kinds_18 : decode cX4_kinds 18 = .ok (.getfield 21, 3) := by decide +kernel
theorem dX4_kinds_21 : decode cX4_kinds 21 = .ok (.invokevirtual 75, 3) := by decide +kernel
theorem dX4_kinds_24 : decode cX4_kinds 24 = .ok (.iconst 0, 1) := by decide +kernel
theorem dX4_kinds_25 : decode cX4_kinds 25 = .ok (.istore_n 2, 1) := by decide +kernel
theorem dX4_kinds_26 : decode cX4_kinds 26 = .ok (.iconst 0, 1) := by decide +kernel
theorem dX4_kinds_27 : decode cX4_kinds 27 = .ok (.istore_n 3, 1) := by decide +kernel
theorem dX4_kinds_28 : decode cX4_kinds 28 = .ok (.iload_n 3, 1) := by decide +kernel
theorem dX4_kinds_29 : decode cX4_kinds 29 = .ok (.iconst 2, 1) := by decide +kernel
theorem dX4_kinds_30 : decode cX4_kinds 30 = .ok (.if_icmp .gt 43, 3) := by decide +kernel
theorem dX4_kinds_33 : decode cX4_kinds 33 = .ok (.aload_n 0, 1) := by decide +kernel
theorem dX4_kinds_34 : decode cX4_kinds 34 = .ok (.getfield 25, 3) := by decide +kernel
theorem dX4_kinds_37 : decode cX4_kinds 37 = .ok (.getfield 88, 3) := by decide +kernel
theorem dX4_kinds_40 : decode cX4_kinds 40 = .ok (.iload_n 1, 1) := by decide +kernel
theorem dX4_kinds_41 : decode cX4_kinds 41 = .ok (.iload_n 3, 1) := by decide +kernel
theorem dX4_kinds_42 : decode cX4_kinds 42 = .ok (.iastore, 1) := by decide +kernel
theorem dX4_kinds_43 : decode cX4_kinds 43 = .ok (.iload_n 2, 1) := by decide +kernel
theorem dX4_kinds_44 : decode cX4_kinds 44 = .ok (.aload_n 0, 1) := by decide +kernel
theorem dX4_kinds_45 : decode cX4_kinds 45 = .ok (.getfield 38, 3) := by decide +kernel
theorem dX4_kinds_48 : decode cX4_kinds 48 = .ok (.aload_n 0, 1) := by decide +kernel
theorem dX4_kinds_49 : decode cX4_kinds 49 = .ok (.getfield 25, 3) := by decide +kernel
theorem dX4_kinds_52 : decode cX4_kinds 52 = .ok (.invokevirtual 220, 3) := by decide +kernel
theorem dX4_kinds_55 : decode cX4_kinds 55 = .ok (.ifCond .eq 9, 3) := by decide +kernel
theorem dX4_kinds_58 : decode cX4_kinds 58 = .ok (.iconst 1, 1) := by decide +kernel
theorem dX4_kinds_59 : decode cX4_kinds 59 = .ok (.iload_n 3, 1) := by decide +kernel
theorem dX4_kinds_60 : decode cX4_kinds 60 = .ok (.ishl, 1) := by decide +kernel
theorem dX4_kinds_61 : decode cX4_kinds 61 = .ok (.goto 4, 3) := by decide +kernel
theorem dX4_kinds_64 : decode cX4_kinds 64 = .ok (.iconst 0, 1) := by decide +kernel
theorem dX4_kinds_65 : decode cX4_kinds 65 = .ok (.ior, 1) := by decide +kernel
theorem dX4_kinds_66 : decode cX4_kinds 66 = .ok (.istore_n 2, 1) := by decide +kernel
theorem dX4_kinds_67 : decode cX4_kinds 67 = .ok (.iinc 3 1, 3) := by decide +kernel
theorem dX4_kinds_70 : decode cX4_kinds 70 = .ok (.goto (-42), 3) := by decide +kernel
theorem dX4_kinds_73 : decode cX4_kinds 73 = .ok (.iload_n 2, 1) := by decide +kernel
theorem dX4_kinds_74 : decode cX4_kinds 74 = .ok (.ireturn, 1) := by decide +kernel
theorem dX4_frosts_0 : decode cX4_frosts 0 = .ok (.aload_n 0, 1) := by decide +kernel
theorem dX4_frosts_1 : decode cX4_frosts 1 = .ok (.getfield 21, 3) := by decide +kernel
theorem dX4_frosts_4 : decode cX4_frosts 4 = .ok (.iload_n 1, 1) := by decide +kernel
theorem dX4_frosts_5 : decode cX4_frosts 5 = .ok (.invokevirtual 127, 3) := by decide +kernel
theorem dX4_frosts_8 : decode cX4_frosts 8 = .ok (.ifCond .ne 5, 3) := by decide +kernel
theorem dX4_frosts_11 : decode cX4_frosts 11 = .ok (.iconst (-1), 1) := by decide +kernel
theorem dX4_frosts_12 : decode cX4_frosts 12 = .ok (.ireturn, 1) := by decide +kernel
theorem dX4_frosts_13 : decode cX4_frosts 13 = .ok (.aload_n 0, 1) := by decide +kernel
theorem dX4_frosts_14 : decode cX4_frosts 14 = .ok (.getfield 25, 3) := by decide +kernel
theorem dX4_frosts_17 : decode cX4_frosts 17 = .ok (.aload_n 0, 1) := by decide +kernel
theorem dX4_frosts_18 : decode cX4_frosts 18 = .ok (.getfield 21, 3) := by decide +kernel
theorem dX4_frosts_21 : decode cX4_frosts 21 = .ok (.invokevirtual 75, 3) := by decide +kernel
theorem dX4_frosts_24 : decode cX4_frosts 24 = .ok (.iconst 0, 1) := by decide +kernel
theorem dX4_frosts_25 : decode cX4_frosts 25 = .ok (.istore_n 2, 1) := by decide +kernel
theorem dX4_frosts_26 : decode cX4_frosts 26 = .ok (.iconst 0, 1) := by decide +kernel
theorem dX4_frosts_27 : decode cX4_frosts 27 = .ok (.istore_n 3, 1) := by decide +kernel
theorem dX4_frosts_28 : decode cX4_frosts 28 = .ok (.iload_n 3, 1) := by decide +kernel
theorem dX4_frosts_29 : decode cX4_frosts 29 = .ok (.bipush 9, 2) := by decide +kernel
theorem dX4_frosts_31 : decode cX4_frosts 31 = .ok (.if_icmp .gt 43, 3) := by decide +kernel
theorem dX4_frosts_34 : decode cX4_frosts 34 = .ok (.aload_n 0, 1) := by decide +kernel
theorem dX4_frosts_35 : decode cX4_frosts 35 = .ok (.getfield 25, 3) := by decide +kernel
theorem dX4_frosts_38 : decode cX4_frosts 38 = .ok (.getfield 130, 3) := by decide +kernel
theorem dX4_frosts_41 : decode cX4_frosts 41 = .ok (.iload_n 1, 1) := by decide +kernel
theorem dX4_frosts_42 : decode cX4_frosts 42 = .ok (.iload_n 3, 1) := by decide +kernel
theorem dX4_frosts_43 : decode cX4_frosts 43 = .ok (.iastore, 1) := by decide +kernel
theorem dX4_frosts_44 : decode cX4_frosts 44 = .ok (.iload_n 2, 1) := by decide +kernel
theorem dX4_frosts_45 : decode cX4_frosts 45 = .ok (.aload_n 0, 1) := by decide +kernel
theorem dX4_frosts_46 : decode cX4_frosts 46 = .ok (.getfield 38, 3) := by decide +kernel
theorem dX4_frosts_49 : decode cX4_frosts 49 = .ok (.aload_n 0, 1) := by decide +kernel
theorem dX4_frosts_50 : decode cX4_frosts 50 = .ok (.getfield 25, 3) := by decide +kernel
theorem dX4_frosts_53 : decode cX4_frosts 53 = .ok (.invokevirtual 220, 3) := by decide +kernel
theorem dX4_frosts_56 : decode cX4_frosts 56 = .ok (.ifCond .eq 9, 3) := by decide +kernel
theorem dX4_frosts_59 : decode cX4_frosts 59 = .ok (.iconst 1, 1) := by decide +kernel
theorem dX4_frosts_60 : decode cX4_frosts 60 = .ok (.iload_n 3, 1) := by decide +kernel
theorem dX4_frosts_61 : decode cX4_frosts 61 = .ok (.ishl, 1) := by decide +kernel
theorem dX4_frosts_62 : decode cX4_frosts 62 = .ok (.goto 4, 3) := by decide +kernel
theorem dX4_frosts_65 : decode cX4_frosts 65 = .ok (.iconst 0, 1) := by decide +kernel
theorem dX4_frosts_66 : decode cX4_frosts 66 = .ok (.ior, 1) := by decide +kernel
theorem dX4_frosts_67 : decode cX4_frosts 67 = .ok (.istore_n 2, 1) := by decide +kernel
theorem dX4_frosts_68 : decode cX4_frosts 68 = .ok (.iinc 3 1, 3) := by decide +kernel
theorem dX4_frosts_71 : decode cX4_frosts 71 = .ok (.goto (-43), 3) := by decide +kernel
theorem dX4_frosts_74 : decode cX4_frosts 74 = .ok (.iload_n 2, 1) := by decide +kernel
theorem dX4_frosts_75 : decode cX4_frosts 75 = .ok (.ireturn, 1) := by decide +kernel
theorem dX4_odds_0 : decode cX4_odds 0 = .ok (.aload_n 0, 1) := by decide +kernel
theorem dX4_odds_1 : decode cX4_odds 1 = .ok (.getfield 21, 3) := by decide +kernel
theorem dX4_odds_4 : decode cX4_odds 4 = .ok (.iload_n 1, 1) := by decide +kernel
theorem dX4_odds_5 : decode cX4_odds 5 = .ok (.invokevirtual 85, 3) := by decide +kernel
theorem dX4_odds_8 : decode cX4_odds 8 = .ok (.ifCond .eq 22, 3) := by decide +kernel
theorem dX4_odds_11 : decode cX4_odds 11 = .ok (.iload_n 2, 1) := by decide +kernel
theorem dX4_odds_12 : decode cX4_odds 12 = .ok (.ifCond .lt 18, 3) := by decide +kernel
theorem dX4_odds_15 : decode cX4_odds 15 = .ok (.iload_n 2, 1) := by decide +kernel
theorem dX4_odds_16 : decode cX4_odds 16 = .ok (.bipush 8, 2) := by decide +kernel
theorem dX4_odds_18 : decode cX4_odds 18 = .ok (.if_icmp .gt 12, 3) := by decide +kernel
theorem dX4_odds_21 : decode cX4_odds 21 = .ok (.iload_n 3, 1) := by decide +kernel
theorem dX4_odds_22 : decode cX4_odds 22 = .ok (.ifCond .lt 8, 3) := by decide +kernel
theorem dX4_odds_25 : decode cX4_odds 25 = .ok (.iload_n 3, 1) := by decide +kernel
theorem dX4_odds_26 : decode cX4_odds 26 = .ok (.iconst 1, 1) := by decide +kernel
theorem dX4_odds_27 : decode cX4_odds 27 = .ok (.if_icmp .le 7, 3) := by decide +kernel
theorem dX4_odds_30 : decode cX4_odds 30 = .ok (.ldc2_w 223, 3) := by decide +kernel
theorem dX4_odds_33 : decode cX4_odds 33 = .ok (.lreturn, 1) := by decide +kernel
theorem dX4_odds_34 : decode cX4_odds 34 = .ok (.aload_n 0, 1) := by decide +kernel
theorem dX4_odds_35 : decode cX4_odds 35 = .ok (.getfield 21, 3) := by decide +kernel
theorem dX4_odds_38 : decode cX4_odds 38 = .ok (.iload_n 1, 1) := by decide +kernel
end
section
theorem dX4_odds_39 : decode cX4_odds 39 = .ok (.invokevirtual 98, 3) := by decide +kernel
theorem dX4_odds_42 : decode cX4_odds 42 = .ok (.invokestatic 164, 3) := by decide +kernel
theorem dX4_odds_45 : decode cX4_odds 45 = .ok (.istore 4, 2) := by decide +kernel
theorem dX4_odds_47 : decode cX4_odds 47 = .ok (.iload_n 3, 1) := by decide +kernel
theorem dX4_odds_48 : decode cX4_odds 48 = .ok (.ifCond .ne 19, 3) := by decide +kernel
theorem dX4_odds_51 : decode cX4_odds 51 = .ok (.iload 4, 2) := by decide +kernel
theorem dX4_odds_53 : decode cX4_odds 53 = .ok (.aload_n 0, 1) := by decide +kernel
theorem dX4_odds_54 : decode cX4_odds 54 = .ok (.getfield 21, 3) := by decide +kernel
theorem dX4_odds_57 : decode cX4_odds 57 = .ok (.getfield 204, 3) := by decide +kernel
theorem dX4_odds_60 : decode cX4_odds 60 = .ok (.invokestatic 225, 3) := by decide +kernel
theorem dX4_odds_63 : decode cX4_odds 63 = .ok (.i2l, 1) := by decide +kernel
theorem dX4_odds_64 : decode cX4_odds 64 = .ok (.goto 16, 3) := by decide +kernel
theorem dX4_odds_67 : decode cX4_odds 67 = .ok (.aload_n 0, 1) := by decide +kernel
theorem dX4_odds_68 : decode cX4_odds 68 = .ok (.getfield 21, 3) := by decide +kernel
theorem dX4_odds_71 : decode cX4_odds 71 = .ok (.getfield 204, 3) := by decide +kernel
theorem dX4_odds_74 : decode cX4_odds 74 = .ok (.iload 4, 2) := by decide +kernel
theorem dX4_odds_76 : decode cX4_odds 76 = .ok (.invokestatic 225, 3) := by decide +kernel
theorem dX4_odds_79 : decode cX4_odds 79 = .ok (.i2l, 1) := by decide +kernel
theorem dX4_odds_80 : decode cX4_odds 80 = .ok (.lstore 5, 2) := by decide +kernel
theorem dX4_odds_82 : decode cX4_odds 82 = .ok (.lconst 1, 1) := by decide +kernel
theorem dX4_odds_83 : decode cX4_odds 83 = .ok (.lstore 7, 2) := by decide +kernel
theorem dX4_odds_85 : decode cX4_odds 85 = .ok (.iconst 0, 1) := by decide +kernel
theorem dX4_odds_86 : decode cX4_odds 86 = .ok (.istore 9, 2) := by decide +kernel
theorem dX4_odds_88 : decode cX4_odds 88 = .ok (.iload 9, 2) := by decide +kernel
theorem dX4_odds_90 : decode cX4_odds 90 = .ok (.iload_n 2, 1) := by decide +kernel
theorem dX4_odds_91 : decode cX4_odds 91 = .ok (.if_icmp .ge 16, 3) := by decide +kernel
theorem dX4_odds_94 : decode cX4_odds 94 = .ok (.lload 7, 2) := by decide +kernel
theorem dX4_odds_96 : decode cX4_odds 96 = .ok (.lload 5, 2) := by decide +kernel
theorem dX4_odds_98 : decode cX4_odds 98 = .ok (.lmul, 1) := by decide +kernel
theorem dX4_odds_99 : decode cX4_odds 99 = .ok (.lstore 7, 2) := by decide +kernel
theorem dX4_odds_101 : decode cX4_odds 101 = .ok (.iinc 9 1, 3) := by decide +kernel
theorem dX4_odds_104 : decode cX4_odds 104 = .ok (.goto (-16), 3) := by decide +kernel
theorem dX4_odds_107 : decode cX4_odds 107 = .ok (.lload 7, 2) := by decide +kernel
theorem dX4_odds_109 : decode cX4_odds 109 = .ok (.lreturn, 1) := by decide +kernel
theorem dX4_lessened_0 : decode cX4_lessened 0 = .ok (.bipush 6, 2) := by decide +kernel
theorem dX4_lessened_2 : decode cX4_lessened 2 = .ok (.istore_n 2, 1) := by decide +kernel
theorem dX4_lessened_3 : decode cX4_lessened 3 = .ok (.iload_n 2, 1) := by decide +kernel
theorem dX4_lessened_4 : decode cX4_lessened 4 = .ok (.iconst 1, 1) := by decide +kernel
theorem dX4_lessened_5 : decode cX4_lessened 5 = .ok (.if_icmp .le 25, 3) := by decide +kernel
theorem dX4_lessened_8 : decode cX4_lessened 8 = .ok (.iload_n 0, 1) := by decide +kernel
theorem dX4_lessened_9 : decode cX4_lessened 9 = .ok (.iload_n 2, 1) := by decide +kernel
theorem dX4_lessened_10 : decode cX4_lessened 10 = .ok (.irem, 1) := by decide +kernel
theorem dX4_lessened_11 : decode cX4_lessened 11 = .ok (.ifCond .ne 13, 3) := by decide +kernel
theorem dX4_lessened_14 : decode cX4_lessened 14 = .ok (.iload_n 1, 1) := by decide +kernel
theorem dX4_lessened_15 : decode cX4_lessened 15 = .ok (.iload_n 2, 1) := by decide +kernel
theorem dX4_lessened_16 : decode cX4_lessened 16 = .ok (.irem, 1) := by decide +kernel
theorem dX4_lessened_17 : decode cX4_lessened 17 = .ok (.ifCond .ne 7, 3) := by decide +kernel
theorem dX4_lessened_20 : decode cX4_lessened 20 = .ok (.iload_n 0, 1) := by decide +kernel
theorem dX4_lessened_21 : decode cX4_lessened 21 = .ok (.iload_n 2, 1) := by decide +kernel
theorem dX4_lessened_22 : decode cX4_lessened 22 = .ok (.idiv, 1) := by decide +kernel
theorem dX4_lessened_23 : decode cX4_lessened 23 = .ok (.ireturn, 1) := by decide +kernel
theorem dX4_lessened_24 : decode cX4_lessened 24 = .ok (.iinc 2 (-1), 3) := by decide +kernel
theorem dX4_lessened_27 : decode cX4_lessened 27 = .ok (.goto (-24), 3) := by decide +kernel
theorem dX4_lessened_30 : decode cX4_lessened 30 = .ok (.iload_n 0, 1) := by decide +kernel
theorem dX4_lessened_31 : decode cX4_lessened 31 = .ok (.ireturn, 1) := by decide +kernel
theorem dX4_sheet_0 : decode cX4_sheet 0 = .ok (.aload_n 0, 1) := by decide +kernel
theorem dX4_sheet_1 : decode cX4_sheet 1 = .ok (.iconst 0, 1) := by decide +kernel
theorem dX4_sheet_2 : decode cX4_sheet 2 = .ok (.putfield 42, 3) := by decide +kernel
theorem dX4_sheet_5 : decode cX4_sheet 5 = .ok (.iload_n 1, 1) := by decide +kernel
theorem dX4_sheet_6 : decode cX4_sheet 6 = .ok (.invokestatic 46, 3) := by decide +kernel
theorem dX4_sheet_9 : decode cX4_sheet 9 = .ok (.ifCond .ne 5, 3) := by decide +kernel
theorem dX4_sheet_12 : decode cX4_sheet 12 = .ok (.iconst (-1), 1) := by decide +kernel
theorem dX4_sheet_13 : decode cX4_sheet 13 = .ok (.ireturn, 1) := by decide +kernel
theorem dX4_sheet_14 : decode cX4_sheet 14 = .ok (.iload_n 2, 1) := by decide +kernel
theorem dX4_sheet_15 : decode cX4_sheet 15 = .ok (.invokestatic 50, 3) := by decide +kernel
theorem dX4_sheet_18 : decode cX4_sheet 18 = .ok (.ifCond .eq 9, 3) := by decide +kernel
theorem dX4_sheet_21 : decode cX4_sheet 21 = .ok (.iload_n 3, 1) := by decide +kernel
theorem dX4_sheet_22 : decode cX4_sheet 22 = .ok (.bipush 60, 2) := by decide +kernel
theorem dX4_sheet_24 : decode cX4_sheet 24 = .ok (.if_icmp .le 6, 3) := by decide +kernel
theorem dX4_sheet_27 : decode cX4_sheet 27 = .ok (.bipush (-2), 2) := by decide +kernel
theorem dX4_sheet_29 : decode cX4_sheet 29 = .ok (.ireturn, 1) := by decide +kernel
theorem dX4_sheet_30 : decode cX4_sheet 30 = .ok (.iload_n 3, 1) := by decide +kernel
theorem dX4_sheet_31 : decode cX4_sheet 31 = .ok (.ifCond .ge 9, 3) := by decide +kernel
theorem dX4_sheet_34 : decode cX4_sheet 34 = .ok (.aload_n 0, 1) := by decide +kernel
theorem dX4_sheet_35 : decode cX4_sheet 35 = .ok (.iconst 4, 1) := by decide +kernel
theorem dX4_sheet_36 : decode cX4_sheet 36 = .ok (.invokevirtual 61, 3) := by decide +kernel
theorem dX4_sheet_39 : decode cX4_sheet 39 = .ok (.ireturn, 1) := by decide +kernel
theorem dX4_sheet_40 : decode cX4_sheet 40 = .ok (.aload_n 0, 1) := by decide +kernel
theorem dX4_sheet_41 : decode cX4_sheet 41 = .ok (.getfield 13, 3) := by decide +kernel
theorem dX4_sheet_44 : decode cX4_sheet 44 = .ok (.iload_n 1, 1) := by decide +kernel
theorem dX4_sheet_45 : decode cX4_sheet 45 = .ok (.aaload, 1) := by decide +kernel
theorem dX4_sheet_46 : decode cX4_sheet 46 = .ok (.iload_n 2, 1) := by decide +kernel
theorem dX4_sheet_47 : decode cX4_sheet 47 = .ok (.iload_n 3, 1) := by decide +kernel
theorem dX4_sheet_48 : decode cX4_sheet 48 = .ok (.invokevirtual 228, 3) := by decide +kernel
theorem dX4_sheet_51 : decode cX4_sheet 51 = .ok (.iconst 1, 1) := by decide +kernel
theorem dX4_sheet_52 : decode cX4_sheet 52 = .ok (.ireturn, 1) := by decide +kernel
theorem dX4_lose_0 : decode cX4_lose 0 = .ok (.iload_n 1, 1) := by decide +kernel
theorem dX4_lose_1 : decode cX4_lose 1 = .ok (.invokestatic 46, 3) := by decide +kernel
theorem dX4_lose_4 : decode cX4_lose 4 = .ok (.ifCond .ne 5, 3) := by decide +kernel
theorem dX4_lose_7 : decode cX4_lose 7 = .ok (.iconst (-1), 1) := by decide +kernel
theorem dX4_lose_8 : decode cX4_lose 8 = .ok (.ireturn, 1) := by decide +kernel
theorem dX4_lose_9 : decode cX4_lose 9 = .ok (.aload_n 0, 1) := by decide +kernel
theorem dX4_lose_10 : decode cX4_lose 10 = .ok (.getfield 13, 3) := by decide +kernel
theorem dX4_lose_13 : decode cX4_lose 13 = .ok (.iload_n 1, 1) := by decide +kernel
theorem dX4_lose_14 : decode cX4_lose 14 = .ok (.aaload, 1) := by decide +kernel
theorem dX4_lose_15 : decode cX4_lose 15 = .ok (.getfield 231, 3) := by decide +kernel
theorem dX4_lose_18 : decode cX4_lose 18 = .ok (.ifCond .eq 7, 3) := by decide +kernel
theorem dX4_lose_21 : decode cX4_lose 21 = .ok (.iconst 1, 1) := by decide +kernel
theorem dX4_lose_22 : decode cX4_lose 22 = .ok (.goto 4, 3) := by decide +kernel
theorem dX4_lose_25 : decode cX4_lose 25 = .ok (.iconst 0, 1) := by decide +kernel
theorem dX4_lose_26 : decode cX4_lose 26 = .ok (.istore_n 2, 1) := by decide +kernel
theorem dX4_lose_27 : decode cX4_lose 27 = .ok (.aload_n 0, 1) := by decide +kernel
theorem dX4_lose_28 : decode cX4_lose 28 = .ok (.getfield 13, 3) := by decide +kernel
theorem dX4_lose_31 : decode cX4_lose 31 = .ok (.iload_n 1, 1) := by decide +kernel
theorem dX4_lose_32 : decode cX4_lose 32 = .ok (.aaload, 1) := by decide +kernel
theorem dX4_lose_33 : decode cX4_lose 33 = .ok (.iconst 0, 1) := by decide +kernel
theorem dX4_lose_34 : decode cX4_lose 34 = .ok (.putfield 231, 3) := by decide +kernel
theorem dX4_lose_37 : decode cX4_lose 37 = .ok (.iload_n 2, 1) := by decide +kernel
theorem dX4_lose_38 : decode cX4_lose 38 = .ok (.ireturn, 1) := by decide +kernel
theorem dX4_put_0 : decode cX4_put 0 = .ok (.aload_n 0, 1) := by decide +kernel
theorem dX4_put_1 : decode cX4_put 1 = .ok (.iconst 0, 1) := by decide +kernel
theorem dX4_put_2 : decode cX4_put 2 = .ok (.putfield 42, 3) := by decide +kernel
theorem dX4_put_5 : decode cX4_put 5 = .ok (.iload_n 1, 1) := by decide +kernel
theorem dX4_put_6 : decode cX4_put 6 = .ok (.invokestatic 46, 3) := by decide +kernel
theorem dX4_put_9 : decode cX4_put 9 = .ok (.ifCond .ne 5, 3) := by decide +kernel
theorem dX4_put_12 : decode cX4_put 12 = .ok (.iconst (-1), 1) := by decide +kernel
theorem dX4_put_13 : decode cX4_put 13 = .ok (.ireturn, 1) := by decide +kernel
theorem dX4_put_14 : decode cX4_put 14 = .ok (.aload_n 0, 1) := by decide +kernel
theorem dX4_put_15 : decode cX4_put 15 = .ok (.getfield 13, 3) := by decide +kernel
theorem dX4_put_18 : decode cX4_put 18 = .ok (.iload_n 1, 1) := by decide +kernel
theorem dX4_put_19 : decode cX4_put 19 = .ok (.aaload, 1) := by decide +kernel
theorem dX4_put_20 : decode cX4_put 20 = .ok (.astore 4, 2) := by decide +kernel
theorem dX4_put_22 : decode cX4_put 22 = .ok (.aload 4, 2) := by decide +kernel
theorem dX4_put_24 : decode cX4_put 24 = .ok (.getfield 231, 3) := by decide +kernel
theorem dX4_put_27 : decode cX4_put 27 = .ok (.ifCond .ne 9, 3) := by decide +kernel
theorem dX4_put_30 : decode cX4_put 30 = .ok (.aload_n 0, 1) := by decide +kernel
theorem dX4_put_31 : decode cX4_put 31 = .ok (.iconst 1, 1) := by decide +kernel
theorem dX4_put_32 : decode cX4_put 32 = .ok (.invokevirtual 61, 3) := by decide +kernel
theorem dX4_put_35 : decode cX4_put 35 = .ok (.ireturn, 1) := by decide +kernel
theorem dX4_put_36 : decode cX4_put 36 = .ok (.aload 4, 2) := by decide +kernel
theorem dX4_put_38 : decode cX4_put 38 = .ok (.iload_n 2, 1) := by decide +kernel
theorem dX4_put_39 : decode cX4_put 39 = .ok (.invokevirtual 235, 3) := by decide +kernel
theorem dX4_put_42 : decode cX4_put 42 = .ok (.ifCond .ne 9, 3) := by decide +kernel
theorem dX4_put_45 : decode cX4_put 45 = .ok (.aload_n 0, 1) := by decide +kernel
theorem dX4_put_46 : decode cX4_put 46 = .ok (.iconst 3, 1) := by decide +kernel
theorem dX4_put_47 : decode cX4_put 47 = .ok (.invokevirtual 61, 3) := by decide +kernel
theorem dX4_put_50 : decode cX4_put 50 = .ok (.ireturn, 1) := by decide +kernel
theorem dX4_put_51 : decode cX4_put 51 = .ok (.aload 4, 2) := by decide +kernel
theorem dX4_put_53 : decode cX4_put 53 = .ok (.iload_n 2, 1) := by decide +kernel
theorem dX4_put_54 : decode cX4_put 54 = .ok (.iload_n 3, 1) := by decide +kernel
theorem dX4_put_55 : decode cX4_put 55 = .ok (.invokevirtual 238, 3) := by decide +kernel
theorem dX4_put_58 : decode cX4_put 58 = .ok (.iconst 1, 1) := by decide +kernel
theorem dX4_put_59 : decode cX4_put 59 = .ok (.ireturn, 1) := by decide +kernel
theorem dX4_cell_0 : decode cX4_cell 0 = .ok (.aload_n 0, 1) := by decide +kernel
theorem dX4_cell_1 : decode cX4_cell 1 = .ok (.iconst 0, 1) := by decide +kernel
theorem dX4_cell_2 : decode cX4_cell 2 = .ok (.putfield 42, 3) := by decide +kernel
theorem dX4_cell_5 : decode cX4_cell 5 = .ok (.iload_n 1, 1) := by decide +kernel
theorem dX4_cell_6 : decode cX4_cell 6 = .ok (.invokestatic 46, 3) := by decide +kernel
theorem dX4_cell_9 : decode cX4_cell 9 = .ok (.ifCond .eq 10, 3) := by decide +kernel
theorem dX4_cell_12 : decode cX4_cell 12 = .ok (.iload_n 3, 1) := by decide +kernel
theorem dX4_cell_13 : decode cX4_cell 13 = .ok (.invokestatic 50, 3) := by decide +kernel
theorem dX4_cell_16 : decode cX4_cell 16 = .ok (.ifCond .ne 7, 3) := by decide +kernel
theorem dX4_cell_19 : decode cX4_cell 19 = .ok (.ldc2_w 223, 3) := by decide +kernel
theorem dX4_cell_22 : decode cX4_cell 22 = .ok (.lreturn, 1) := by decide +kernel
theorem dX4_cell_23 : decode cX4_cell 23 = .ok (.aload_n 0, 1) := by decide +kernel
theorem dX4_cell_24 : decode cX4_cell 24 = .ok (.getfield 13, 3) := by decide +kernel
theorem dX4_cell_27 : decode cX4_cell 27 = .ok (.iload_n 1, 1) := by decide +kernel
theorem dX4_cell_28 : decode cX4_cell 28 = .ok (.aaload, 1) := by decide +kernel
theorem dX4_cell_29 : decode cX4_cell 29 = .ok (.astore 4, 2) := by decide +kernel
theorem dX4_cell_31 : decode cX4_cell 31 = .ok (.aload 4, 2) := by decide +kernel
theorem dX4_cell_33 : decode cX4_cell 33 = .ok (.iload_n 3, 1) := by decide +kernel
theorem dX4_cell_34 : decode cX4_cell 34 = .ok (.invokevirtual 53, 3) := by decide +kernel
theorem dX4_cell_37 : decode cX4_cell 37 = .ok (.istore 5, 2) := by decide +kernel
theorem dX4_cell_39 : decode cX4_cell 39 = .ok (.iload 5, 2) := by decide +kernel
theorem dX4_cell_41 : decode cX4_cell 41 = .ok (.ifCond .ne 15, 3) := by decide +kernel
theorem dX4_cell_44 : decode cX4_cell 44 = .ok (.aload 4, 2) := by decide +kernel
theorem dX4_cell_46 : decode cX4_cell 46 = .ok (.iload_n 2, 1) := by decide +kernel
theorem dX4_cell_47 : decode cX4_cell 47 = .ok (.invokevirtual 235, 3) := by decide +kernel
theorem dX4_cell_50 : decode cX4_cell 50 = .ok (.ifCond .ne 6, 3) := by decide +kernel
theorem dX4_cell_53 : decode cX4_cell 53 = .ok (.iconst 3, 1) := by decide +kernel
theorem dX4_cell_54 : decode cX4_cell 54 = .ok (.istore 5, 2) := by decide +kernel
theorem dX4_cell_56 : decode cX4_cell 56 = .ok (.iload 5, 2) := by decide +kernel
theorem dX4_cell_58 : decode cX4_cell 58 = .ok (.ifCond .eq 13, 3) := by decide +kernel
theorem dX4_cell_61 : decode cX4_cell 61 = .ok (.aload_n 0, 1) := by decide +kernel
theorem dX4_cell_62 : decode cX4_cell 62 = .ok (.iload 5, 2) := by decide +kernel
theorem dX4_cell_64 : decode cX4_cell 64 = .ok (.putfield 42, 3) := by decide +kernel
theorem dX4_cell_67 : decode cX4_cell 67 = .ok (.ldc2_w 223, 3) := by decide +kernel
theorem dX4_cell_70 : decode cX4_cell 70 = .ok (.lreturn, 1) := by decide +kernel
theorem dX4_cell_71 : decode cX4_cell 71 = .ok (.aload 4, 2) := by decide +kernel
theorem dX4_cell_73 : decode cX4_cell 73 = .ok (.iload_n 2, 1) := by decide +kernel
theorem dX4_cell_74 : decode cX4_cell 74 = .ok (.invokevirtual 183, 3) := by decide +kernel
theorem dX4_cell_77 : decode cX4_cell 77 = .ok (.i2l, 1) := by decide +kernel
theorem dX4_cell_78 : decode cX4_cell 78 = .ok (.lreturn, 1) := by decide +kernel
theorem dX4_copy_0 : decode cX4_copy 0 = .ok (.aload_n 0, 1) := by decide +kernel
theorem dX4_copy_1 : decode cX4_copy 1 = .ok (.iconst 0, 1) := by decide +kernel
theorem dX4_copy_2 : decode cX4_copy 2 = .ok (.putfield 42, 3) := by decide +kernel
theorem dX4_copy_5 : decode cX4_copy 5 = .ok (.iload_n 1, 1) := by decide +kernel
theorem dX4_copy_6 : decode cX4_copy 6 = .ok (.invokestatic 46, 3) := by decide +kernel
theorem dX4_copy_9 : decode cX4_copy 9 = .ok (.ifCond .eq 10, 3) := by decide +kernel
theorem dX4_copy_12 : decode cX4_copy 12 = .ok (.iload_n 3, 1) := by decide +kernel
theorem dX4_copy_13 : decode cX4_copy 13 = .ok (.invokestatic 46, 3) := by decide +kernel
theorem dX4_copy_16 : decode cX4_copy 16 = .ok (.ifCond .ne 5, 3) := by decide +kernel
theorem dX4_copy_19 : decode cX4_copy 19 = .ok (.iconst (-1), 1) := by decide +kernel
theorem dX4_copy_20 : decode cX4_copy 20 = .ok (.ireturn, 1) := by decide +kernel
theorem dX4_copy_21 : decode cX4_copy 21 = .ok (.aload_n 0, 1) := by decide +kernel
theorem dX4_copy_22 : decode cX4_copy 22 = .ok (.getfield 13, 3) := by decide +kernel
theorem dX4_copy_25 : decode cX4_copy 25 = .ok (.iload_n 1, 1) := by decide +kernel
theorem dX4_copy_26 : decode cX4_copy 26 = .ok (.aaload, 1) := by decide +kernel
theorem dX4_copy_27 : decode cX4_copy 27 = .ok (.astore 6, 2) := by decide +kernel
theorem dX4_copy_29 : decode cX4_copy 29 = .ok (.aload_n 0, 1) := by decide +kernel
theorem dX4_copy_30 : decode cX4_copy 30 = .ok (.getfield 13, 3) := by decide +kernel
theorem dX4_copy_33 : decode cX4_copy 33 = .ok (.iload_n 3, 1) := by decide +kernel
theorem dX4_copy_34 : decode cX4_copy 34 = .ok (.aaload, 1) := by decide +kernel
theorem dX4_copy_35 : decode cX4_copy 35 = .ok (.astore 7, 2) := by decide +kernel
theorem dX4_copy_37 : decode cX4_copy 37 = .ok (.aload 6, 2) := by decide +kernel
theorem dX4_copy_39 : decode cX4_copy 39 = .ok (.getfield 231, 3) := by decide +kernel
theorem dX4_copy_42 : decode cX4_copy 42 = .ok (.ifCond .eq 11, 3) := by decide +kernel
theorem dX4_copy_45 : decode cX4_copy 45 = .ok (.aload 7, 2) := by decide +kernel
theorem dX4_copy_47 : decode cX4_copy 47 = .ok (.getfield 231, 3) := by decide +kernel
theorem dX4_copy_50 : decode cX4_copy 50 = .ok (.ifCond .ne 9, 3) := by decide +kernel
theorem dX4_copy_53 : decode cX4_copy 53 = .ok (.aload_n 0, 1) := by decide +kernel
theorem dX4_copy_54 : decode cX4_copy 54 = .ok (.iconst 1, 1) := by decide +kernel
theorem dX4_copy_55 : decode cX4_copy 55 = .ok (.invokevirtual 61, 3) := by decide +kernel
theorem dX4_copy_58 : decode cX4_copy 58 = .ok (.ireturn, 1) := by decide +kernel
theorem dX4_copy_59 : decode cX4_copy 59 = .ok (.aload 6, 2) := by decide +kernel
theorem dX4_copy_61 : decode cX4_copy 61 = .ok (.getfield 241, 3) := by decide +kernel
theorem dX4_copy_64 : decode cX4_copy 64 = .ok (.aload 7, 2) := by decide +kernel
theorem dX4_copy_66 : decode cX4_copy 66 = .ok (.getfield 241, 3) := by decide +kernel
theorem dX4_copy_69 : decode cX4_copy 69 = .ok (.if_icmp .eq 9, 3) := by decide +kernel
theorem dX4_copy_72 : decode cX4_copy 72 = .ok (.aload_n 0, 1) := by decide +kernel
theorem dX4_copy_73 : decode cX4_copy 73 = .ok (.iconst 2, 1) := by decide +kernel
theorem dX4_copy_74 : decode cX4_copy 74 = .ok (.invokevirtual 61, 3) := by decide +kernel
theorem dX4_copy_77 : decode cX4_copy 77 = .ok (.ireturn, 1) := by decide +kernel
theorem dX4_copy_78 : decode cX4_copy 78 = .ok (.aload 6, 2) := by decide +kernel
theorem dX4_copy_80 : decode cX4_copy 80 = .ok (.iload_n 2, 1) := by decide +kernel
theorem dX4_copy_81 : decode cX4_copy 81 = .ok (.iload 5, 2) := by decide +kernel
theorem dX4_copy_83 : decode cX4_copy 83 = .ok (.invokevirtual 57, 3) := by decide +kernel
theorem dX4_copy_86 : decode cX4_copy 86 = .ok (.ifCond .eq 15, 3) := by decide +kernel
theorem dX4_copy_89 : decode cX4_copy 89 = .ok (.aload 7, 2) := by decide +kernel
theorem dX4_copy_91 : decode cX4_copy 91 = .ok (.iload 4, 2) := by decide +kernel
theorem dX4_copy_93 : decode cX4_copy 93 = .ok (.iload 5, 2) := by decide +kernel
theorem dX4_copy_95 : decode cX4_copy 95 = .ok (.invokevirtual 57, 3) := by decide +kernel
theorem dX4_copy_98 : decode cX4_copy 98 = .ok (.ifCond .ne 9, 3) := by decide +kernel
theorem dX4_copy_101 : decode cX4_copy 101 = .ok (.aload_n 0, 1) := by decide +kernel
theorem dX4_copy_102 : decode cX4_copy 102 = .ok (.iconst 3, 1) := by decide +kernel
theorem dX4_copy_103 : decode cX4_copy 103 = .ok (.invokevirtual 61, 3) := by decide +kernel
theorem dX4_copy_106 : decode cX4_copy 106 = .ok (.ireturn, 1) := by decide +kernel
theorem dX4_copy_107 : decode cX4_copy 107 = .ok (.aload 6, 2) := by decide +kernel
theorem dX4_copy_109 : decode cX4_copy 109 = .ok (.getfield 244, 3) := by decide +kernel
theorem dX4_copy_112 : decode cX4_copy 112 = .ok (.iload_n 2, 1) := by decide +kernel
theorem dX4_copy_113 : decode cX4_copy 113 = .ok (.aload 7, 2) := by decide +kernel
theorem dX4_copy_115 : decode cX4_copy 115 = .ok (.getfield 244, 3) := by decide +kernel
theorem dX4_copy_118 : decode cX4_copy 118 = .ok (.iload 4, 2) := by decide +kernel
theorem dX4_copy_120 : decode cX4_copy 120 = .ok (.iload 5, 2) := by decide +kernel
theorem dX4_copy_122 : decode cX4_copy 122 = .ok (.invokestatic 247, 3) := by decide +kernel
theorem dX4_copy_125 : decode cX4_copy 125 = .ok (.iload 5, 2) := by decide +kernel
theorem dX4_copy_127 : decode cX4_copy 127 = .ok (.ireturn, 1) := by decide +kernel
theorem dX4_tell_0 : decode cX4_tell 0 = .ok (.aload_n 0, 1) := by decide +kernel
theorem dX4_tell_1 : decode cX4_tell 1 = .ok (.getfield 21, 3) := by decide +kernel
theorem dX4_tell_4 : decode cX4_tell 4 = .ok (.iload_n 1, 1) := by decide +kernel
theorem dX4_tell_5 : decode cX4_tell 5 = .ok (.invokevirtual 85, 3) := by decide +kernel
theorem dX4_tell_8 : decode cX4_tell 8 = .ok (.ifCond .ne 5, 3) := by decide +kernel
theorem dX4_tell_11 : decode cX4_tell 11 = .ok (.iconst (-1), 1) := by decide +kernel
theorem dX4_tell_12 : decode cX4_tell 12 = .ok (.ireturn, 1) := by decide +kernel
theorem dX4_tell_13 : decode cX4_tell 13 = .ok (.aload_n 0, 1) := by decide +kernel
theorem dX4_tell_14 : decode cX4_tell 14 = .ok (.getfield 21, 3) := by decide +kernel
theorem dX4_tell_17 : decode cX4_tell 17 = .ok (.getfield 88, 3) := by decide +kernel
theorem dX4_tell_20 : decode cX4_tell 20 = .ok (.iload_n 1, 1) := by decide +kernel
theorem dX4_tell_21 : decode cX4_tell 21 = .ok (.iaload, 1) := by decide +kernel
theorem dX4_tell_22 : decode cX4_tell 22 = .ok (.lookupswitch 38 #[(1, 32), (2, 26)], 26) := by decide +kernel
theorem dX4_tell_48 : decode cX4_tell 48 = .ok (.aload_n 0, 1) := by decide +kernel
theorem dX4_tell_49 : decode cX4_tell 49 = .ok (.iload_n 1, 1) := by decide +kernel
theorem dX4_tell_50 : decode cX4_tell 50 = .ok (.invokevirtual 253, 3) := by decide +kernel
theorem dX4_tell_53 : decode cX4_tell 53 = .ok (.ireturn, 1) := by decide +kernel
theorem dX4_tell_54 : decode cX4_tell 54 = .ok (.aload_n 0, 1) := by decide +kernel
theorem dX4_tell_55 : decode cX4_tell 55 = .ok (.iload_n 1, 1) := by decide +kernel
theorem dX4_tell_56 : decode cX4_tell 56 = .ok (.invokevirtual 256, 3) := by decide +kernel
theorem dX4_tell_59 : decode cX4_tell 59 = .ok (.ireturn, 1) := by decide +kernel
theorem dX4_tell_60 : decode cX4_tell 60 = .ok (.aload_n 0, 1) := by decide +kernel
theorem dX4_tell_61 : decode cX4_tell 61 = .ok (.iload_n 1, 1) := by decide +kernel
theorem dX4_tell_62 : decode cX4_tell 62 = .ok (.invokevirtual 259, 3) := by decide +kernel
theorem dX4_tell_65 : decode cX4_tell 65 = .ok (.ireturn, 1) := by decide +kernel
theorem dX4_pinch_0 : decode cX4_pinch 0 = .ok (.aload_n 0, 1) := by decide +kernel
theorem dX4_pinch_1 : decode cX4_pinch 1 = .ok (.getfield 21, 3) := by decide +kernel
theorem dX4_pinch_4 : decode cX4_pinch 4 = .ok (.iload_n 1, 1) := by decide +kernel
theorem dX4_pinch_5 : decode cX4_pinch 5 = .ok (.invokevirtual 85, 3) := by decide +kernel
theorem dX4_pinch_8 : decode cX4_pinch 8 = .ok (.ifCond .ne 5, 3) := by decide +kernel
theorem dX4_pinch_11 : decode cX4_pinch 11 = .ok (.iconst (-1), 1) := by decide +kernel
theorem dX4_pinch_12 : decode cX4_pinch 12 = .ok (.ireturn, 1) := by decide +kernel
theorem dX4_pinch_13 : decode cX4_pinch 13 = .ok (.aload_n 0, 1) := by decide +kernel
theorem dX4_pinch_14 : decode cX4_pinch 14 = .ok (.getfield 21, 3) := by decide +kernel
theorem dX4_pinch_17 : decode cX4_pinch 17 = .ok (.getfield 88, 3) := by decide +kernel
theorem dX4_pinch_20 : decode cX4_pinch 20 = .ok (.iload_n 1, 1) := by decide +kernel
theorem dX4_pinch_21 : decode cX4_pinch 21 = .ok (.iaload, 1) := by decide +kernel
theorem dX4_pinch_22 : decode cX4_pinch 22 = .ok (.iconst 2, 1) := by decide +kernel
theorem dX4_pinch_23 : decode cX4_pinch 23 = .ok (.if_icmp .ne 10, 3) := by decide +kernel
theorem dX4_pinch_26 : decode cX4_pinch 26 = .ok (.aload_n 0, 1) := by decide +kernel
theorem dX4_pinch_27 : decode cX4_pinch 27 = .ok (.invokevirtual 262, 3) := by decide +kernel
theorem dX4_pinch_30 : decode cX4_pinch 30 = .ok (.goto 8, 3) := by decide +kernel
theorem dX4_pinch_33 : decode cX4_pinch 33 = .ok (.aload_n 0, 1) := by decide +kernel
theorem dX4_pinch_34 : decode cX4_pinch 34 = .ok (.iload_n 1, 1) := by decide +kernel
theorem dX4_pinch_35 : decode cX4_pinch 35 = .ok (.invokevirtual 265, 3) := by decide +kernel
theorem dX4_pinch_38 : decode cX4_pinch 38 = .ok (.ireturn, 1) := by decide +kernel
theorem dX4_as_0 : decode cX4_as 0 = .ok (.aload_n 0, 1) := by decide +kernel
theorem dX4_as_1 : decode cX4_as 1 = .ok (.iconst 0, 1) := by decide +kernel
theorem dX4_as_2 : decode cX4_as 2 = .ok (.putfield 42, 3) := by decide +kernel
theorem dX4_as_5 : decode cX4_as 5 = .ok (.aload_n 0, 1) := by decide +kernel
theorem dX4_as_6 : decode cX4_as 6 = .ok (.getfield 21, 3) := by decide +kernel
theorem dX4_as_9 : decode cX4_as 9 = .ok (.iload_n 1, 1) := by decide +kernel
theorem dX4_as_10 : decode cX4_as 10 = .ok (.invokevirtual 85, 3) := by decide +kernel
theorem dX4_as_13 : decode cX4_as 13 = .ok (.ifCond .ne 5, 3) := by decide +kernel
theorem dX4_as_16 : decode cX4_as 16 = .ok (.iconst (-1), 1) := by decide +kernel
theorem dX4_as_17 : decode cX4_as 17 = .ok (.ireturn, 1) := by decide +kernel
theorem dX4_as_18 : decode cX4_as 18 = .ok (.iload_n 2, 1) := by decide +kernel
theorem dX4_as_19 : decode cX4_as 19 = .ok (.ifCond .lt 8, 3) := by decide +kernel
theorem dX4_as_22 : decode cX4_as 22 = .ok (.iload_n 2, 1) := by decide +kernel
theorem dX4_as_23 : decode cX4_as 23 = .ok (.iconst 2, 1) := by decide +kernel
theorem dX4_as_24 : decode cX4_as 24 = .ok (.if_icmp .le 6, 3) := by decide +kernel
theorem dX4_as_27 : decode cX4_as 27 = .ok (.bipush (-2), 2) := by decide +kernel
theorem dX4_as_29 : decode cX4_as 29 = .ok (.ireturn, 1) := by decide +kernel
theorem dX4_as_30 : decode cX4_as 30 = .ok (.aload_n 0, 1) := by decide +kernel
theorem dX4_as_31 : decode cX4_as 31 = .ok (.getfield 21, 3) := by decide +kernel
theorem dX4_as_34 : decode cX4_as 34 = .ok (.getfield 88, 3) := by decide +kernel
theorem dX4_as_37 : decode cX4_as 37 = .ok (.iload_n 1, 1) := by decide +kernel
theorem dX4_as_38 : decode cX4_as 38 = .ok (.iaload, 1) := by decide +kernel
theorem dX4_as_39 : decode cX4_as 39 = .ok (.iload_n 2, 1) := by decide +kernel
theorem dX4_as_40 : decode cX4_as 40 = .ok (.if_icmp .lt 7, 3) := by decide +kernel
theorem dX4_as_43 : decode cX4_as 43 = .ok (.iconst 1, 1) := by decide +kernel
theorem dX4_as_44 : decode cX4_as 44 = .ok (.goto 8, 3) := by decide +kernel
theorem dX4_as_47 : decode cX4_as 47 = .ok (.aload_n 0, 1) := by decide +kernel
theorem dX4_as_48 : decode cX4_as 48 = .ok (.iconst 2, 1) := by decide +kernel
theorem dX4_as_49 : decode cX4_as 49 = .ok (.invokevirtual 61, 3) := by decide +kernel
theorem dX4_as_52 : decode cX4_as 52 = .ok (.ireturn, 1) := by decide +kernel
theorem dX4_trace_0 : decode cX4_trace 0 = .ok (.aload_n 0, 1) := by decide +kernel
theorem dX4_trace_1 : decode cX4_trace 1 = .ok (.getfield 268, 3) := by decide +kernel
theorem dX4_trace_4 : decode cX4_trace 4 = .ok (.ireturn, 1) := by decide +kernel
theorem dX4_fault_0 : decode cX4_fault 0 = .ok (.aload_n 0, 1) := by decide +kernel
theorem dX4_fault_1 : decode cX4_fault 1 = .ok (.getfield 42, 3) := by decide +kernel
theorem dX4_fault_4 : decode cX4_fault 4 = .ok (.ireturn, 1) := by decide +kernel
theorem dX4_many_0 : decode cX4_many 0 = .ok (.iload_n 1, 1) := by decide +kernel
theorem dX4_many_1 : decode cX4_many 1 = .ok (.tableswitch 78 0 4 #[35, 43, 51, 59, 70], 35) := by decide +kernel
theorem dX4_many_36 : decode cX4_many 36 = .ok (.aload_n 0, 1) := by decide +kernel
theorem dX4_many_37 : decode cX4_many 37 = .ok (.getfield 21, 3) := by decide +kernel
theorem dX4_many_40 : decode cX4_many 40 = .ok (.getfield 204, 3) := by decide +kernel
theorem dX4_many_43 : decode cX4_many 43 = .ok (.ireturn, 1) := by decide +kernel
theorem dX4_many_44 : decode cX4_many 44 = .ok (.aload_n 0, 1) := by decide +kernel
theorem dX4_many_45 : decode cX4_many 45 = .ok (.getfield 21, 3) := by decide +kernel
theorem dX4_many_48 : decode cX4_many 48 = .ok (.getfield 82, 3) := by decide +kernel
theorem dX4_many_51 : decode cX4_many 51 = .ok (.ireturn, 1) := by decide +kernel
theorem dX4_many_52 : decode cX4_many 52 = .ok (.aload_n 0, 1) := by decide +kernel
theorem dX4_many_53 : decode cX4_many 53 = .ok (.getfield 21, 3) := by decide +kernel
theorem dX4_many_56 : decode cX4_many 56 = .ok (.getfield 145, 3) := by decide +kernel
theorem dX4_many_59 : decode cX4_many 59 = .ok (.ireturn, 1) := by decide +kernel
theorem dX4_many_60 : decode cX4_many 60 = .ok (.aload_n 0, 1) := by decide +kernel
theorem dX4_many_61 : decode cX4_many 61 = .ok (.getfield 21, 3) := by decide +kernel
theorem dX4_many_64 : decode cX4_many 64 = .ok (.invokevirtual 104, 3) := by decide +kernel
theorem dX4_many_67 : decode cX4_many 67 = .ok (.invokestatic 164, 3) := by decide +kernel
theorem dX4_many_70 : decode cX4_many 70 = .ok (.ireturn, 1) := by decide +kernel
theorem dX4_many_71 : decode cX4_many 71 = .ok (.aload_n 0, 1) := by decide +kernel
theorem dX4_many_72 : decode cX4_many 72 = .ok (.getfield 38, 3) := by decide +kernel
theorem dX4_many_75 : decode cX4_many 75 = .ok (.getfield 79, 3) := by decide +kernel
theorem dX4_many_78 : decode cX4_many 78 = .ok (.ireturn, 1) := by decide +kernel
theorem dX4_many_79 : decode cX4_many 79 = .ok (.bipush (-2), 2) := by decide +kernel
theorem dX4_many_81 : decode cX4_many 81 = .ok (.ireturn, 1) := by decide +kernel
theorem dX4_plainBody_0 : decode cX4_plainBody 0 = .ok (.aload_n 0, 1) := by decide +kernel
theorem dX4_plainBody_1 : decode cX4_plainBody 1 = .ok (.iconst 1, 1) := by decide +kernel
theorem dX4_plainBody_2 : decode cX4_plainBody 2 = .ok (.invokevirtual 271, 3) := by decide +kernel
theorem dX4_plainBody_5 : decode cX4_plainBody 5 = .ok (.aload_n 0, 1) := by decide +kernel
theorem dX4_plainBody_6 : decode cX4_plainBody 6 = .ok (.getfield 21, 3) := by decide +kernel
theorem dX4_plainBody_9 : decode cX4_plainBody 9 = .ok (.getfield 92, 3) := by decide +kernel
theorem dX4_plainBody_12 : decode cX4_plainBody 12 = .ok (.iload_n 1, 1) := by decide +kernel
theorem dX4_plainBody_13 : decode cX4_plainBody 13 = .ok (.iaload, 1) := by decide +kernel
theorem dX4_plainBody_14 : decode cX4_plainBody 14 = .ok (.ireturn, 1) := by decide +kernel
theorem dX4_beardedBody_0 : decode cX4_beardedBody 0 = .ok (.aload_n 0, 1) := by decide +kernel
theorem dX4_beardedBody_1 : decode cX4_beardedBody 1 = .ok (.iconst 2, 1) := by decide +kernel
theorem dX4_beardedBody_2 : decode cX4_beardedBody 2 = .ok (.invokevirtual 271, 3) := by decide +kernel
theorem dX4_beardedBody_5 : decode cX4_beardedBody 5 = .ok (.aload_n 0, 1) := by decide +kernel
theorem dX4_beardedBody_6 : decode cX4_beardedBody 6 = .ok (.iload_n 1, 1) := by decide +kernel
theorem dX4_beardedBody_7 : decode cX4_beardedBody 7 = .ok (.invokevirtual 259, 3) := by decide +kernel
theorem dX4_beardedBody_10 : decode cX4_beardedBody 10 = .ok (.bipush 100, 2) := by decide +kernel
theorem dX4_beardedBody_12 : decode cX4_beardedBody 12 = .ok (.iadd, 1) := by decide +kernel
theorem dX4_beardedBody_13 : decode cX4_beardedBody 13 = .ok (.ireturn, 1) := by decide +kernel
theorem dX4_doubleBody_0 : decode cX4_doubleBody 0 = .ok (.aload_n 0, 1) := by decide +kernel
theorem dX4_doubleBody_1 : decode cX4_doubleBody 1 = .ok (.iconst 3, 1) := by decide +kernel
theorem dX4_doubleBody_2 : decode cX4_doubleBody 2 = .ok (.invokevirtual 271, 3) := by decide +kernel
theorem dX4_doubleBody_5 : decode cX4_doubleBody 5 = .ok (.aload_n 0, 1) := by decide +kernel
theorem dX4_doubleBody_6 : decode cX4_doubleBody 6 = .ok (.iload_n 1, 1) := by decide +kernel
theorem dX4_doubleBody_7 : decode cX4_doubleBody 7 = .ok (.invokevirtual 256, 3) := by decide +kernel
theorem dX4_doubleBody_10 : decode cX4_doubleBody 10 = .ok (.istore_n 2, 1) := by decide +kernel
theorem dX4_doubleBody_11 : decode cX4_doubleBody 11 = .ok (.iload_n 2, 1) := by decide +kernel
theorem dX4_doubleBody_12 : decode cX4_doubleBody 12 = .ok (.aload_n 0, 1) := by decide +kernel
theorem dX4_doubleBody_13 : decode cX4_doubleBody 13 = .ok (.iload_n 1, 1) := by decide +kernel
theorem dX4_doubleBody_14 : decode cX4_doubleBody 14 = .ok (.invokevirtual 259, 3) := by decide +kernel
theorem dX4_doubleBody_17 : decode cX4_doubleBody 17 = .ok (.iadd, 1) := by decide +kernel
theorem dX4_doubleBody_18 : decode cX4_doubleBody 18 = .ok (.ireturn, 1) := by decide +kernel
theorem dX4_lentPinch_0 : decode cX4_lentPinch 0 = .ok (.aload_n 0, 1) := by decide +kernel
theorem dX4_lentPinch_1 : decode cX4_lentPinch 1 = .ok (.iconst 4, 1) := by decide +kernel
theorem dX4_lentPinch_2 : decode cX4_lentPinch 2 = .ok (.invokevirtual 271, 3) := by decide +kernel
theorem dX4_lentPinch_5 : decode cX4_lentPinch 5 = .ok (.aload_n 0, 1) := by decide +kernel
theorem dX4_lentPinch_6 : decode cX4_lentPinch 6 = .ok (.getfield 21, 3) := by decide +kernel
theorem dX4_lentPinch_9 : decode cX4_lentPinch 9 = .ok (.iload_n 1, 1) := by decide +kernel
theorem dX4_lentPinch_10 : decode cX4_lentPinch 10 = .ok (.invokevirtual 101, 3) := by decide +kernel
theorem dX4_lentPinch_13 : decode cX4_lentPinch 13 = .ok (.invokestatic 164, 3) := by decide +kernel
theorem dX4_lentPinch_16 : decode cX4_lentPinch 16 = .ok (.ireturn, 1) := by decide +kernel
theorem dX4_doublePinch_0 : decode cX4_doublePinch 0 = .ok (.aload_n 0, 1) := by decide +kernel
theorem dX4_doublePinch_1 : decode cX4_doublePinch 1 = .ok (.iconst 5, 1) := by decide +kernel
theorem dX4_doublePinch_2 : decode cX4_doublePinch 2 = .ok (.invokevirtual 271, 3) := by decide +kernel
theorem dX4_doublePinch_5 : decode cX4_doublePinch 5 = .ok (.bipush 80, 2) := by decide +kernel
theorem dX4_doublePinch_7 : decode cX4_doublePinch 7 = .ok (.ireturn, 1) := by decide +kernel
theorem dX4_leaveInTrace_0 : decode cX4_leaveInTrace 0 = .ok (.aload_n 0, 1) := by decide +kernel
theorem dX4_leaveInTrace_1 : decode cX4_leaveInTrace 1 = .ok (.bipush 31, 2) := by decide +kernel
theorem dX4_leaveInTrace_3 : decode cX4_leaveInTrace 3 = .ok (.aload_n 0, 1) := by decide +kernel
theorem dX4_leaveInTrace_4 : decode cX4_leaveInTrace 4 = .ok (.getfield 268, 3) := by decide +kernel
theorem dX4_leaveInTrace_7 : decode cX4_leaveInTrace 7 = .ok (.imul, 1) := by decide +kernel
theorem dX4_leaveInTrace_8 : decode cX4_leaveInTrace 8 = .ok (.iload_n 1, 1) := by decide +kernel
theorem dX4_leaveInTrace_9 : decode cX4_leaveInTrace 9 = .ok (.iadd, 1) := by decide +kernel
theorem dX4_leaveInTrace_10 : decode cX4_leaveInTrace 10 = .ok (.putfield 268, 3) := by decide +kernel
theorem dX4_leaveInTrace_13 : decode cX4_leaveInTrace 13 = .ok (.return_, 1) := by decide +kernel
theorem dX4_failed_0 : decode cX4_failed 0 = .ok (.aload_n 0, 1) := by decide +kernel
theorem dX4_failed_1 : decode cX4_failed 1 = .ok (.iload_n 1, 1) := by decide +kernel
theorem dX4_failed_2 : decode cX4_failed 2 = .ok (.putfield 42, 3) := by decide +kernel
theorem dX4_failed_5 : decode cX4_failed 5 = .ok (.bipush (-10), 2) := by decide +kernel
theorem dX4_failed_7 : decode cX4_failed 7 = .ok (.iload_n 1, 1) := by decide +kernel
theorem dX4_failed_8 : decode cX4_failed 8 = .ok (.isub, 1) := by decide +kernel
theorem dX4_failed_9 : decode cX4_failed 9 = .ok (.ireturn, 1) := by decide +kernel
theorem dX4_hasDay_0 : decode cX4_hasDay 0 = .ok (.aload_n 0, 1) := by decide +kernel
theorem dX4_hasDay_1 : decode cX4_hasDay 1 = .ok (.getfield 21, 3) := by decide +kernel
theorem dX4_hasDay_4 : decode cX4_hasDay 4 = .ok (.getfield 82, 3) := by decide +kernel
theorem dX4_hasDay_7 : decode cX4_hasDay 7 = .ok (.ifCond .le 7, 3) := by decide +kernel
theorem dX4_hasDay_10 : decode cX4_hasDay 10 = .ok (.iconst 1, 1) := by decide +kernel
theorem dX4_hasDay_11 : decode cX4_hasDay 11 = .ok (.goto 4, 3) := by decide +kernel
theorem dX4_hasDay_14 : decode cX4_hasDay 14 = .ok (.iconst 0, 1) := by decide +kernel
theorem dX4_hasDay_15 : decode cX4_hasDay 15 = .ok (.ireturn, 1) := by decide +kernel
theorem dX4_isSheet_0 : decode cX4_isSheet 0 = .ok (.iload_n 0, 1) := by decide +kernel
theorem dX4_isSheet_1 : decode cX4_isSheet 1 = .ok (.ifCond .lt 12, 3) := by decide +kernel
theorem dX4_isSheet_4 : decode cX4_isSheet 4 = .ok (.iload_n 0, 1) := by decide +kernel
theorem dX4_isSheet_5 : decode cX4_isSheet 5 = .ok (.iconst 4, 1) := by decide +kernel
theorem dX4_isSheet_6 : decode cX4_isSheet 6 = .ok (.if_icmp .ge 7, 3) := by decide +kernel
theorem dX4_isSheet_9 : decode cX4_isSheet 9 = .ok (.iconst 1, 1) := by decide +kernel
theorem dX4_isSheet_10 : decode cX4_isSheet 10 = .ok (.goto 4, 3) := by decide +kernel
theorem dX4_isSheet_13 : decode cX4_isSheet 13 = .ok (.iconst 0, 1) := by decide +kernel
theorem dX4_isSheet_14 : decode cX4_isSheet 14 = .ok (.ireturn, 1) := by decide +kernel
theorem dX4_isLane_0 : decode cX4_isLane 0 = .ok (.iload_n 0, 1) := by decide +kernel
theorem dX4_isLane_1 : decode cX4_isLane 1 = .ok (.ifCond .lt 12, 3) := by decide +kernel
theorem dX4_isLane_4 : decode cX4_isLane 4 = .ok (.iload_n 0, 1) := by decide +kernel
theorem dX4_isLane_5 : decode cX4_isLane 5 = .ok (.iconst 2, 1) := by decide +kernel
theorem dX4_isLane_6 : decode cX4_isLane 6 = .ok (.if_icmp .gt 7, 3) := by decide +kernel
theorem dX4_isLane_9 : decode cX4_isLane 9 = .ok (.iconst 1, 1) := by decide +kernel
theorem dX4_isLane_10 : decode cX4_isLane 10 = .ok (.goto 4, 3) := by decide +kernel
theorem dX4_isLane_13 : decode cX4_isLane 13 = .ok (.iconst 0, 1) := by decide +kernel
theorem dX4_isLane_14 : decode cX4_isLane 14 = .ok (.ireturn, 1) := by decide +kernel
theorem dX4_isDigit_0 : decode cX4_isDigit 0 = .ok (.iload_n 0, 1) := by decide +kernel
theorem dX4_isDigit_1 : decode cX4_isDigit 1 = .ok (.ifCond .lt 13, 3) := by decide +kernel
theorem dX4_isDigit_4 : decode cX4_isDigit 4 = .ok (.iload_n 0, 1) := by decide +kernel
theorem dX4_isDigit_5 : decode cX4_isDigit 5 = .ok (.bipush 9, 2) := by decide +kernel
theorem dX4_isDigit_7 : decode cX4_isDigit 7 = .ok (.if_icmp .gt 7, 3) := by decide +kernel
theorem dX4_isDigit_10 : decode cX4_isDigit 10 = .ok (.iconst 1, 1) := by decide +kernel
theorem dX4_isDigit_11 : decode cX4_isDigit 11 = .ok (.goto 4, 3) := by decide +kernel
theorem dX4_isDigit_14 : decode cX4_isDigit 14 = .ok (.iconst 0, 1) := by decide +kernel
theorem dX4_isDigit_15 : decode cX4_isDigit 15 = .ok (.ireturn, 1) := by decide +kernel
theorem dX4_hasBit_0 : decode cX4_hasBit 0 = .ok (.iload_n 0, 1) := by decide +kernel
theorem dX4_hasBit_1 : decode cX4_hasBit 1 = .ok (.iload_n 1, 1) := by decide +kernel
theorem dX4_hasBit_2 : decode cX4_hasBit 2 = .ok (.ishr, 1) := by decide +kernel
theorem dX4_hasBit_3 : decode cX4_hasBit 3 = .ok (.iconst 1, 1) := by decide +kernel
theorem dX4_hasBit_4 : decode cX4_hasBit 4 = .ok (.iand, 1) := by decide +kernel
theorem dX4_hasBit_5 : decode cX4_hasBit 5 = .ok (.ifCond .eq 7, 3) := by decide +kernel
theorem dX4_hasBit_8 : decode cX4_hasBit 8 = .ok (.iconst 1, 1) := by decide +kernel
theorem dX4_hasBit_9 : decode cX4_hasBit 9 = .ok (.goto 4, 3) := by decide +kernel
theorem dX4_hasBit_12 : decode cX4_hasBit 12 = .ok (.iconst 0, 1) := by decide +kernel
theorem dX4_hasBit_13 : decode cX4_hasBit 13 = .ok (.ireturn, 1) := by decide +kernel
theorem dX5_init_0 : decode cX5_init 0 = .ok (.aload_n 0, 1) := by decide +kernel
theorem dX5_init_1 : decode cX5_init 1 = .ok (.invokespecial 1, 3) := by decide +kernel
theorem dX5_init_4 : decode cX5_init 4 = .ok (.aload_n 0, 1) := by decide +kernel
theorem dX5_init_5 : decode cX5_init 5 = .ok (.iconst 4, 1) := by decide +kernel
theorem dX5_init_6 : decode cX5_init 6 = .ok (.newarray .int, 2) := by decide +kernel
theorem dX5_init_8 : decode cX5_init 8 = .ok (.dup, 1) := by decide +kernel
theorem dX5_init_9 : decode cX5_init 9 = .ok (.iconst 0, 1) := by decide +kernel
theorem dX5_init_10 : decode cX5_init 10 = .ok (.bipush (-9), 2) := by decide +kernel
theorem dX5_init_12 : decode cX5_init 12 = .ok (.iastore, 1) := by decide +kernel
theorem dX5_init_13 : decode cX5_init 13 = .ok (.dup, 1) := by decide +kernel
theorem dX5_init_14 : decode cX5_init 14 = .ok (.iconst 1, 1) := by decide +kernel
theorem dX5_init_15 : decode cX5_init 15 = .ok (.bipush (-9), 2) := by decide +kernel
theorem dX5_init_17 : decode cX5_init 17 = .ok (.iastore, 1) := by decide +kernel
theorem dX5_init_18 : decode cX5_init 18 = .ok (.dup, 1) := by decide +kernel
theorem dX5_init_19 : decode cX5_init 19 = .ok (.iconst 2, 1) := by decide +kernel
theorem dX5_init_20 : decode cX5_init 20 = .ok (.bipush (-9), 2) := by decide +kernel
theorem dX5_init_22 : decode cX5_init 22 = .ok (.iastore, 1) := by decide +kernel
theorem dX5_init_23 : decode cX5_init 23 = .ok (.dup, 1) := by decide +kernel
theorem dX5_init_24 : decode cX5_init 24 = .ok (.iconst 3, 1) := by decide +kernel
theorem dX5_init_25 : decode cX5_init 25 = .ok (.bipush (-9), 2) := by decide +kernel
theorem dX5_init_27 : decode cX5_init 27 = .ok (.iastore, 1) := by decide +kernel
theorem dX5_init_28 : decode cX5_init 28 = .ok (.putfield 9, 3) := by decide +kernel
theorem dX5_init_31 : decode cX5_init 31 = .ok (.aload_n 0, 1) := by decide +kernel
theorem dX5_init_32 : decode cX5_init 32 = .ok (.iconst 4, 1) := by decide +kernel
theorem dX5_init_33 : decode cX5_init 33 = .ok (.newarray .int, 2) := by decide +kernel
theorem dX5_init_35 : decode cX5_init 35 = .ok (.putfield 13, 3) := by decide +kernel
theorem dX5_init_38 : decode cX5_init 38 = .ok (.aload_n 0, 1) := by decide +kernel
theorem dX5_init_39 : decode cX5_init 39 = .ok (.sipush 240, 3) := by decide +kernel
theorem dX5_init_42 : decode cX5_init 42 = .ok (.newarray .int, 2) := by decide +kernel
theorem dX5_init_44 : decode cX5_init 44 = .ok (.putfield 16, 3) := by decide +kernel
theorem dX5_init_47 : decode cX5_init 47 = .ok (.aload_n 0, 1) := by decide +kernel
theorem dX5_init_48 : decode cX5_init 48 = .ok (.bipush (-9), 2) := by decide +kernel
theorem dX5_init_50 : decode cX5_init 50 = .ok (.putfield 19, 3) := by decide +kernel
theorem dX5_init_53 : decode cX5_init 53 = .ok (.aload_n 0, 1) := by decide +kernel
theorem dX5_init_54 : decode cX5_init 54 = .ok (.bipush 6, 2) := by decide +kernel
theorem dX5_init_56 : decode cX5_init 56 = .ok (.newarray .int, 2) := by decide +kernel
theorem dX5_init_58 : decode cX5_init 58 = .ok (.putfield 23, 3) := by decide +kernel
theorem dX5_init_61 : decode cX5_init 61 = .ok (.aload_n 0, 1) := by decide +kernel
theorem dX5_init_62 : decode cX5_init 62 = .ok (.iconst 4, 1) := by decide +kernel
theorem dX5_init_63 : decode cX5_init 63 = .ok (.newarray .int, 2) := by decide +kernel
theorem dX5_init_65 : decode cX5_init 65 = .ok (.putfield 26, 3) := by decide +kernel
theorem dX5_init_68 : decode cX5_init 68 = .ok (.aload_n 0, 1) := by decide +kernel
theorem dX5_init_69 : decode cX5_init 69 = .ok (.iconst 4, 1) := by decide +kernel
theorem dX5_init_70 : decode cX5_init 70 = .ok (.newarray .int, 2) := by decide +kernel
theorem dX5_init_72 : decode cX5_init 72 = .ok (.putfield 29, 3) := by decide +kernel
theorem dX5_init_75 : decode cX5_init 75 = .ok (.aload_n 0, 1) := by decide +kernel
theorem dX5_init_76 : decode cX5_init 76 = .ok (.bipush 6, 2) := by decide +kernel
theorem dX5_init_78 : decode cX5_init 78 = .ok (.newarray .int, 2) := by decide +kernel
theorem dX5_init_80 : decode cX5_init 80 = .ok (.putfield 32, 3) := by decide +kernel
theorem dX5_init_83 : decode cX5_init 83 = .ok (.aload_n 0, 1) := by decide +kernel
theorem dX5_init_84 : decode cX5_init 84 = .ok (.bipush 6, 2) := by decide +kernel
theorem dX5_init_86 : decode cX5_init 86 = .ok (.newarray .int, 2) := by decide +kernel
theorem dX5_init_88 : decode cX5_init 88 = .ok (.putfield 35, 3) := by decide +kernel
theorem dX5_init_91 : decode cX5_init 91 = .ok (.aload_n 0, 1) := by decide +kernel
theorem dX5_init_92 : decode cX5_init 92 = .ok (.bipush 6, 2) := by decide +kernel
theorem dX5_init_94 : decode cX5_init 94 = .ok (.newarray .int, 2) := by decide +kernel
theorem dX5_init_96 : decode cX5_init 96 = .ok (.putfield 38, 3) := by decide +kernel
theorem dX5_init_99 : decode cX5_init 99 = .ok (.aload_n 0, 1) := by decide +kernel
theorem dX5_init_100 : decode cX5_init 100 = .ok (.bipush 6, 2) := by decide +kernel
theorem dX5_init_102 : decode cX5_init 102 = .ok (.newarray .int, 2) := by decide +kernel
theorem dX5_init_104 : decode cX5_init 104 = .ok (.putfield 41, 3) := by decide +kernel
theorem dX5_init_107 : decode cX5_init 107 = .ok (.aload_n 0, 1) := by decide +kernel
theorem dX5_init_108 : decode cX5_init 108 = .ok (.bipush 8, 2) := by decide +kernel
theorem dX5_init_110 : decode cX5_init 110 = .ok (.newarray .int, 2) := by decide +kernel
theorem dX5_init_112 : decode cX5_init 112 = .ok (.putfield 44, 3) := by decide +kernel
theorem dX5_init_115 : decode cX5_init 115 = .ok (.aload_n 0, 1) := by decide +kernel
theorem dX5_init_116 : decode cX5_init 116 = .ok (.bipush 18, 2) := by decide +kernel
theorem dX5_init_118 : decode cX5_init 118 = .ok (.newarray .int, 2) := by decide +kernel
theorem dX5_init_120 : decode cX5_init 120 = .ok (.putfield 47, 3) := by decide +kernel
theorem dX5_init_123 : decode cX5_init 123 = .ok (.aload_n 0, 1) := by decide +kernel
theorem dX5_init_124 : decode cX5_init 124 = .ok (.bipush 31, 2) := by decide +kernel
theorem dX5_init_126 : decode cX5_init 126 = .ok (.newarray .int, 2) := by decide +kernel
theorem dX5_init_128 : decode cX5_init 128 = .ok (.putfield 50, 3) := by decide +kernel
theorem dX5_init_131 : decode cX5_init 131 = .ok (.aload_n 0, 1) := by decide +kernel
theorem dX5_init_132 : decode cX5_init 132 = .ok (.bipush 8, 2) := by decide +kernel
theorem dX5_init_134 : decode cX5_init 134 = .ok (.newarray .int, 2) := by decide +kernel
theorem dX5_init_136 : decode cX5_init 136 = .ok (.putfield 53, 3) := by decide +kernel
theorem dX5_init_139 : decode cX5_init 139 = .ok (.aload_n 0, 1) := by decide +kernel
theorem dX5_init_140 : decode cX5_init 140 = .ok (.bipush 8, 2) := by decide +kernel
theorem dX5_init_142 : decode cX5_init 142 = .ok (.newarray .int, 2) := by decide +kernel
theorem dX5_init_144 : decode cX5_init 144 = .ok (.putfield 56, 3) := by decide +kernel
theorem dX5_init_147 : decode cX5_init 147 = .ok (.aload_n 0, 1) := by decide +kernel
theorem dX5_init_148 : decode cX5_init 148 = .ok (.bipush 8, 2) := by decide +kernel
theorem dX5_init_150 : decode cX5_init 150 = .ok (.newarray .int, 2) := by decide +kernel
theorem dX5_init_152 : decode cX5_init 152 = .ok (.putfield 59, 3) := by decide +kernel
theorem dX5_init_155 : decode cX5_init 155 = .ok (.return_, 1) := by decide +kernel
theorem dX5_fails_0 : decode cX5_fails 0 = .ok (.aload_n 0, 1) := by decide +kernel
theorem dX5_fails_1 : decode cX5_fails 1 = .ok (.iload_n 1, 1) := by decide +kernel
theorem dX5_fails_2 : decode cX5_fails 2 = .ok (.putfield 62, 3) := by decide +kernel
theorem dX5_fails_5 : decode cX5_fails 5 = .ok (.bipush (-10), 2) := by decide +kernel
theorem dX5_fails_7 : decode cX5_fails 7 = .ok (.iload_n 1, 1) := by decide +kernel
theorem dX5_fails_8 : decode cX5_fails 8 = .ok (.isub, 1) := by decide +kernel
theorem dX5_fails_9 : decode cX5_fails 9 = .ok (.ireturn, 1) := by decide +kernel
theorem dX5_lost_0 : decode cX5_lost 0 = .ok (.aload_n 0, 1) := by decide +kernel
theorem dX5_lost_1 : decode cX5_lost 1 = .ok (.iload_n 1, 1) := by decide +kernel
theorem dX5_lost_2 : decode cX5_lost 2 = .ok (.putfield 62, 3) := by decide +kernel
theorem dX5_lost_5 : decode cX5_lost 5 = .ok (.ldc2_w 65, 3) := by decide +kernel
theorem dX5_lost_8 : decode cX5_lost 8 = .ok (.lreturn, 1) := by decide +kernel
theorem dX5_within_0 : decode cX5_within 0 = .ok (.iload_n 0, 1) := by decide +kernel
theorem dX5_within_1 : decode cX5_within 1 = .ok (.iload_n 1, 1) := by decide +kernel
theorem dX5_within_2 : decode cX5_within 2 = .ok (.if_icmp .lt 12, 3) := by decide +kernel
theorem dX5_within_5 : decode cX5_within 5 = .ok (.iload_n 0, 1) := by decide +kernel
theorem dX5_within_6 : decode cX5_within 6 = .ok (.iload_n 2, 1) := by decide +kernel
theorem dX5_within_7 : decode cX5_within 7 = .ok (.if_icmp .gt 7, 3) := by decide +kernel
theorem dX5_within_10 : decode cX5_within 10 = .ok (.iconst 1, 1) := by decide +kernel
theorem dX5_within_11 : decode cX5_within 11 = .ok (.goto 4, 3) := by decide +kernel
theorem dX5_within_14 : decode cX5_within 14 = .ok (.iconst 0, 1) := by decide +kernel
theorem dX5_within_15 : decode cX5_within 15 = .ok (.ireturn, 1) := by decide +kernel
theorem dX5_isSheet_0 : decode cX5_isSheet 0 = .ok (.iload_n 0, 1) := by decide +kernel
theorem dX5_isSheet_1 : decode cX5_isSheet 1 = .ok (.iconst 0, 1) := by decide +kernel
theorem dX5_isSheet_2 : decode cX5_isSheet 2 = .ok (.iconst 3, 1) := by decide +kernel
theorem dX5_isSheet_3 : decode cX5_isSheet 3 = .ok (.invokestatic 67, 3) := by decide +kernel
theorem dX5_isSheet_6 : decode cX5_isSheet 6 = .ok (.ireturn, 1) := by decide +kernel
theorem dX5_isSort_0 : decode cX5_isSort 0 = .ok (.iload_n 0, 1) := by decide +kernel
theorem dX5_isSort_1 : decode cX5_isSort 1 = .ok (.iconst 0, 1) := by decide +kernel
theorem dX5_isSort_2 : decode cX5_isSort 2 = .ok (.iconst 2, 1) := by decide +kernel
theorem dX5_isSort_3 : decode cX5_isSort 3 = .ok (.invokestatic 67, 3) := by decide +kernel
theorem dX5_isSort_6 : decode cX5_isSort 6 = .ok (.ireturn, 1) := by decide +kernel
theorem dX5_against_0 : decode cX5_against 0 = .ok (.aload_n 0, 1) := by decide +kernel
theorem dX5_against_1 : decode cX5_against 1 = .ok (.getfield 9, 3) := by decide +kernel
theorem dX5_against_4 : decode cX5_against 4 = .ok (.iload_n 1, 1) := by decide +kernel
theorem dX5_against_5 : decode cX5_against 5 = .ok (.iaload, 1) := by decide +kernel
theorem dX5_against_6 : decode cX5_against 6 = .ok (.bipush (-9), 2) := by decide +kernel
theorem dX5_against_8 : decode cX5_against 8 = .ok (.if_icmp .eq 15, 3) := by decide +kernel
theorem dX5_against_11 : decode cX5_against 11 = .ok (.aload_n 0, 1) := by decide +kernel
theorem dX5_against_12 : decode cX5_against 12 = .ok (.getfield 9, 3) := by decide +kernel
theorem dX5_against_15 : decode cX5_against 15 = .ok (.iload_n 1, 1) := by decide +kernel
theorem dX5_against_16 : decode cX5_against 16 = .ok (.iaload, 1) := by decide +kernel
theorem dX5_against_17 : decode cX5_against 17 = .ok (.iload_n 2, 1) := by decide +kernel
theorem dX5_against_18 : decode cX5_against 18 = .ok (.if_icmp .eq 5, 3) := by decide +kernel
theorem dX5_against_21 : decode cX5_against 21 = .ok (.iconst 2, 1) := by decide +kernel
theorem dX5_against_22 : decode cX5_against 22 = .ok (.ireturn, 1) := by decide +kernel
theorem dX5_against_23 : decode cX5_against 23 = .ok (.aload_n 0, 1) := by decide +kernel
theorem dX5_against_24 : decode cX5_against 24 = .ok (.getfield 9, 3) := by decide +kernel
theorem dX5_against_27 : decode cX5_against 27 = .ok (.iload_n 1, 1) := by decide +kernel
theorem dX5_against_28 : decode cX5_against 28 = .ok (.iaload, 1) := by decide +kernel
theorem dX5_against_29 : decode cX5_against 29 = .ok (.bipush (-9), 2) := by decide +kernel
theorem dX5_against_31 : decode cX5_against 31 = .ok (.if_icmp .ne 5, 3) := by decide +kernel
theorem dX5_against_34 : decode cX5_against 34 = .ok (.iconst 1, 1) := by decide +kernel
theorem dX5_against_35 : decode cX5_against 35 = .ok (.ireturn, 1) := by decide +kernel
theorem dX5_against_36 : decode cX5_against 36 = .ok (.iload 4, 2) := by decide +kernel
theorem dX5_against_38 : decode cX5_against 38 = .ok (.ifCond .ge 5, 3) := by decide +kernel
theorem dX5_against_41 : decode cX5_against 41 = .ok (.iconst 4, 1) := by decide +kernel
theorem dX5_against_42 : decode cX5_against 42 = .ok (.ireturn, 1) := by decide +kernel
theorem dX5_against_43 : decode cX5_against 43 = .ok (.iload_n 3, 1) := by decide +kernel
theorem dX5_against_44 : decode cX5_against 44 = .ok (.ifCond .lt 26, 3) := by decide +kernel
theorem dX5_against_47 : decode cX5_against 47 = .ok (.iload_n 3, 1) := by decide +kernel
theorem dX5_against_48 : decode cX5_against 48 = .ok (.aload_n 0, 1) := by decide +kernel
theorem dX5_against_49 : decode cX5_against 49 = .ok (.getfield 13, 3) := by decide +kernel
theorem dX5_against_52 : decode cX5_against 52 = .ok (.iload_n 1, 1) := by decide +kernel
theorem dX5_against_53 : decode cX5_against 53 = .ok (.iaload, 1) := by decide +kernel
theorem dX5_against_54 : decode cX5_against 54 = .ok (.if_icmp .gt 16, 3) := by decide +kernel
theorem dX5_against_57 : decode cX5_against 57 = .ok (.iload 4, 2) := by decide +kernel
theorem dX5_against_59 : decode cX5_against 59 = .ok (.aload_n 0, 1) := by decide +kernel
theorem dX5_against_60 : decode cX5_against 60 = .ok (.getfield 13, 3) := by decide +kernel
theorem dX5_against_63 : decode cX5_against 63 = .ok (.iload_n 1, 1) := by decide +kernel
theorem dX5_against_64 : decode cX5_against 64 = .ok (.iaload, 1) := by decide +kernel
theorem dX5_against_65 : decode cX5_against 65 = .ok (.iload_n 3, 1) := by decide +kernel
theorem dX5_against_66 : decode cX5_against 66 = .ok (.isub, 1) := by decide +kernel
theorem dX5_against_67 : decode cX5_against 67 = .ok (.if_icmp .le 7, 3) := by decide +kernel
theorem dX5_against_70 : decode cX5_against 70 = .ok (.iconst 3, 1) := by decide +kernel
theorem dX5_against_71 : decode cX5_against 71 = .ok (.goto 4, 3) := by decide +kernel
theorem dX5_against_74 : decode cX5_against 74 = .ok (.iconst 0, 1) := by decide +kernel
theorem dX5_against_75 : decode cX5_against 75 = .ok (.ireturn, 1) := by decide +kernel
theorem dX5_isHour_0 : decode cX5_isHour 0 = .ok (.iload_n 1, 1) := by decide +kernel
theorem dX5_isHour_1 : decode cX5_isHour 1 = .ok (.ifCond .lt 15, 3) := by decide +kernel
theorem dX5_isHour_4 : decode cX5_isHour 4 = .ok (.iload_n 1, 1) := by decide +kernel
theorem dX5_isHour_5 : decode cX5_isHour 5 = .ok (.aload_n 0, 1) := by decide +kernel
theorem dX5_isHour_6 : decode cX5_isHour 6 = .ok (.getfield 71, 3) := by decide +kernel
theorem dX5_isHour_9 : decode cX5_isHour 9 = .ok (.if_icmp .ge 7, 3) := by decide +kernel
theorem dX5_isHour_12 : decode cX5_isHour 12 = .ok (.iconst 1, 1) := by decide +kernel
theorem dX5_isHour_13 : decode cX5_isHour 13 = .ok (.goto 4, 3) := by decide +kernel
theorem dX5_isHour_16 : decode cX5_isHour 16 = .ok (.iconst 0, 1) := by decide +kernel
theorem dX5_isHour_17 : decode cX5_isHour 17 = .ok (.ireturn, 1) := by decide +kernel
theorem dX5_isSwearer_0 : decode cX5_isSwearer 0 = .ok (.iload_n 1, 1) := by decide +kernel
theorem dX5_isSwearer_1 : decode cX5_isSwearer 1 = .ok (.ifCond .lt 15, 3) := by decide +kernel
theorem dX5_isSwearer_4 : decode cX5_isSwearer 4 = .ok (.iload_n 1, 1) := by decide +kernel
theorem dX5_isSwearer_5 : decode cX5_isSwearer 5 = .ok (.aload_n 0, 1) := by decide +kernel
theorem dX5_isSwearer_6 : decode cX5_isSwearer 6 = .ok (.getfield 74, 3) := by decide +kernel
theorem dX5_isSwearer_9 : decode cX5_isSwearer 9 = .ok (.if_icmp .ge 7, 3) := by decide +kernel
theorem dX5_isSwearer_12 : decode cX5_isSwearer 12 = .ok (.iconst 1, 1) := by decide +kernel
theorem dX5_isSwearer_13 : decode cX5_isSwearer 13 = .ok (.goto 4, 3) := by decide +kernel
theorem dX5_isSwearer_16 : decode cX5_isSwearer 16 = .ok (.iconst 0, 1) := by decide +kernel
theorem dX5_isSwearer_17 : decode cX5_isSwearer 17 = .ok (.ireturn, 1) := by decide +kernel
theorem dX5_isOath_0 : decode cX5_isOath 0 = .ok (.iload_n 1, 1) := by decide +kernel
theorem dX5_isOath_1 : decode cX5_isOath 1 = .ok (.ifCond .lt 15, 3) := by decide +kernel
theorem dX5_isOath_4 : decode cX5_isOath 4 = .ok (.iload_n 1, 1) := by decide +kernel
theorem dX5_isOath_5 : decode cX5_isOath 5 = .ok (.aload_n 0, 1) := by decide +kernel
theorem dX5_isOath_6 : decode cX5_isOath 6 = .ok (.getfield 77, 3) := by decide +kernel
theorem dX5_isOath_9 : decode cX5_isOath 9 = .ok (.if_icmp .ge 7, 3) := by decide +kernel
theorem dX5_isOath_12 : decode cX5_isOath 12 = .ok (.iconst 1, 1) := by decide +kernel
theorem dX5_isOath_13 : decode cX5_isOath 13 = .ok (.goto 4, 3) := by decide +kernel
theorem dX5_isOath_16 : decode cX5_isOath 16 = .ok (.iconst 0, 1) := by decide +kernel
theorem dX5_isOath_17 : decode cX5_isOath 17 = .ok (.ireturn, 1) := by decide +kernel
theorem dX5_isOf_0 : decode cX5_isOf 0 = .ok (.iload_n 0, 1) := by decide +kernel
theorem dX5_isOf_1 : decode cX5_isOf 1 = .ok (.iload_n 1, 1) := by decide +kernel
theorem dX5_isOf_2 : decode cX5_isOf 2 = .ok (.ishr, 1) := by decide +kernel
theorem dX5_isOf_3 : decode cX5_isOf 3 = .ok (.iconst 1, 1) := by decide +kernel
theorem dX5_isOf_4 : decode cX5_isOf 4 = .ok (.iand, 1) := by decide +kernel
theorem dX5_isOf_5 : decode cX5_isOf 5 = .ok (.iconst 1, 1) := by decide +kernel
theorem dX5_isOf_6 : decode cX5_isOf 6 = .ok (.if_icmp .ne 7, 3) := by decide +kernel
theorem dX5_isOf_9 : decode cX5_isOf 9 = .ok (.iconst 1, 1) := by decide +kernel
theorem dX5_isOf_10 : decode cX5_isOf 10 = .ok (.goto 4, 3) := by decide +kernel
theorem dX5_isOf_13 : decode cX5_isOf 13 = .ok (.iconst 0, 1) := by decide +kernel
theorem dX5_isOf_14 : decode cX5_isOf 14 = .ok (.ireturn, 1) := by decide +kernel
theorem dX5_size_0 : decode cX5_size 0 = .ok (.iconst 0, 1) := by decide +kernel
theorem dX5_size_1 : decode cX5_size 1 = .ok (.istore_n 1, 1) := by decide +kernel
theorem dX5_size_2 : decode cX5_size 2 = .ok (.iload_n 0, 1) := by decide +kernel
theorem dX5_size_3 : decode cX5_size 3 = .ok (.istore_n 2, 1) := by decide +kernel
theorem dX5_size_4 : decode cX5_size 4 = .ok (.iload_n 2, 1) := by decide +kernel
theorem dX5_size_5 : decode cX5_size 5 = .ok (.ifCond .le 16, 3) := by decide +kernel
theorem dX5_size_8 : decode cX5_size 8 = .ok (.iload_n 1, 1) := by decide +kernel
theorem dX5_size_9 : decode cX5_size 9 = .ok (.iload_n 2, 1) := by decide +kernel
theorem dX5_size_10 : decode cX5_size 10 = .ok (.iconst 1, 1) := by decide +kernel
theorem dX5_size_11 : decode cX5_size 11 = .ok (.iand, 1) := by decide +kernel
theorem dX5_size_12 : decode cX5_size 12 = .ok (.iadd, 1) := by decide +kernel
theorem dX5_size_13 : decode cX5_size 13 = .ok (.istore_n 1, 1) := by decide +kernel
theorem dX5_size_14 : decode cX5_size 14 = .ok (.iload_n 2, 1) := by decide +kernel
theorem dX5_size_15 : decode cX5_size 15 = .ok (.iconst 1, 1) := by decide +kernel
theorem dX5_size_16 : decode cX5_size 16 = .ok (.ishr, 1) := by decide +kernel
theorem dX5_size_17 : decode cX5_size 17 = .ok (.istore_n 2, 1) := by decide +kernel
theorem dX5_size_18 : decode cX5_size 18 = .ok (.goto (-14), 3) := by decide +kernel
theorem dX5_size_21 : decode cX5_size 21 = .ok (.iload_n 1, 1) := by decide +kernel
theorem dX5_size_22 : decode cX5_size 22 = .ok (.ireturn, 1) := by decide +kernel
theorem dX5_digit_0 : decode cX5_digit 0 = .ok (.aload_n 0, 1) := by decide +kernel
theorem dX5_digit_1 : decode cX5_digit 1 = .ok (.getfield 80, 3) := by decide +kernel
theorem dX5_digit_4 : decode cX5_digit 4 = .ok (.iload_n 1, 1) := by decide +kernel
theorem dX5_digit_5 : decode cX5_digit 5 = .ok (.if_icmp .ge 24, 3) := by decide +kernel
theorem dX5_digit_8 : decode cX5_digit 8 = .ok (.aload_n 0, 1) := by decide +kernel
theorem dX5_digit_9 : decode cX5_digit 9 = .ok (.getfield 16, 3) := by decide +kernel
theorem dX5_digit_12 : decode cX5_digit 12 = .ok (.aload_n 0, 1) := by decide +kernel
theorem dX5_digit_13 : decode cX5_digit 13 = .ok (.getfield 80, 3) := by decide +kernel
theorem dX5_digit_16 : decode cX5_digit 16 = .ok (.iaload, 1) := by decide +kernel
theorem dX5_digit_17 : decode cX5_digit 17 = .ok (.bipush 48, 2) := by decide +kernel
theorem dX5_digit_19 : decode cX5_digit 19 = .ok (.bipush 48, 2) := by decide +kernel
theorem dX5_digit_21 : decode cX5_digit 21 = .ok (.iload_n 2, 1) := by decide +kernel
theorem dX5_digit_22 : decode cX5_digit 22 = .ok (.iadd, 1) := by decide +kernel
theorem dX5_digit_23 : decode cX5_digit 23 = .ok (.invokestatic 67, 3) := by decide +kernel
theorem dX5_digit_26 : decode cX5_digit 26 = .ok (.ifCond .ne 6, 3) := by decide +kernel
theorem dX5_digit_29 : decode cX5_digit 29 = .ok (.bipush (-9), 2) := by decide +kernel
theorem dX5_digit_31 : decode cX5_digit 31 = .ok (.ireturn, 1) := by decide +kernel
theorem dX5_digit_32 : decode cX5_digit 32 = .ok (.aload_n 0, 1) := by decide +kernel
theorem dX5_digit_33 : decode cX5_digit 33 = .ok (.dup, 1) := by decide +kernel
theorem dX5_digit_34 : decode cX5_digit 34 = .ok (.getfield 80, 3) := by decide +kernel
theorem dX5_digit_37 : decode cX5_digit 37 = .ok (.iconst 1, 1) := by decide +kernel
theorem dX5_digit_38 : decode cX5_digit 38 = .ok (.iadd, 1) := by decide +kernel
theorem dX5_digit_39 : decode cX5_digit 39 = .ok (.putfield 80, 3) := by decide +kernel
theorem dX5_digit_42 : decode cX5_digit 42 = .ok (.aload_n 0, 1) := by decide +kernel
theorem dX5_digit_43 : decode cX5_digit 43 = .ok (.getfield 16, 3) := by decide +kernel
theorem dX5_digit_46 : decode cX5_digit 46 = .ok (.aload_n 0, 1) := by decide +kernel
theorem dX5_digit_47 : decode cX5_digit 47 = .ok (.getfield 80, 3) := by decide +kernel
theorem dX5_digit_50 : decode cX5_digit 50 = .ok (.iconst 1, 1) := by decide +kernel
theorem dX5_digit_51 : decode cX5_digit 51 = .ok (.isub, 1) := by decide +kernel
theorem dX5_digit_52 : decode cX5_digit 52 = .ok (.iaload, 1) := by decide +kernel
theorem dX5_digit_53 : decode cX5_digit 53 = .ok (.bipush 48, 2) := by decide +kernel
theorem dX5_digit_55 : decode cX5_digit 55 = .ok (.isub, 1) := by decide +kernel
theorem dX5_digit_56 : decode cX5_digit 56 = .ok (.ireturn, 1) := by decide +kernel
theorem dX5_isSign_0 : decode cX5_isSign 0 = .ok (.aload_n 0, 1) := by decide +kernel
theorem dX5_isSign_1 : decode cX5_isSign 1 = .ok (.getfield 80, 3) := by decide +kernel
theorem dX5_isSign_4 : decode cX5_isSign 4 = .ok (.iload_n 1, 1) := by decide +kernel
theorem dX5_isSign_5 : decode cX5_isSign 5 = .ok (.if_icmp .ge 16, 3) := by decide +kernel
theorem dX5_isSign_8 : decode cX5_isSign 8 = .ok (.aload_n 0, 1) := by decide +kernel
theorem dX5_isSign_9 : decode cX5_isSign 9 = .ok (.getfield 16, 3) := by decide +kernel
theorem dX5_isSign_12 : decode cX5_isSign 12 = .ok (.aload_n 0, 1) := by decide +kernel
theorem dX5_isSign_13 : decode cX5_isSign 13 = .ok (.getfield 80, 3) := by decide +kernel
theorem dX5_isSign_16 : decode cX5_isSign 16 = .ok (.iaload, 1) := by decide +kernel
theorem dX5_isSign_17 : decode cX5_isSign 17 = .ok (.iload_n 2, 1) := by decide +kernel
theorem dX5_isSign_18 : decode cX5_isSign 18 = .ok (.if_icmp .eq 5, 3) := by decide +kernel
theorem dX5_isSign_21 : decode cX5_isSign 21 = .ok (.iconst 0, 1) := by decide +kernel
theorem dX5_isSign_22 : decode cX5_isSign 22 = .ok (.ireturn, 1) := by decide +kernel
theorem dX5_isSign_23 : decode cX5_isSign 23 = .ok (.aload_n 0, 1) := by decide +kernel
theorem dX5_isSign_24 : decode cX5_isSign 24 = .ok (.dup, 1) := by decide +kernel
theorem dX5_isSign_25 : decode cX5_isSign 25 = .ok (.getfield 80, 3) := by decide +kernel
theorem dX5_isSign_28 : decode cX5_isSign 28 = .ok (.iconst 1, 1) := by decide +kernel
theorem dX5_isSign_29 : decode cX5_isSign 29 = .ok (.iadd, 1) := by decide +kernel
theorem dX5_isSign_30 : decode cX5_isSign 30 = .ok (.putfield 80, 3) := by decide +kernel
theorem dX5_isSign_33 : decode cX5_isSign 33 = .ok (.iconst 1, 1) := by decide +kernel
theorem dX5_isSign_34 : decode cX5_isSign 34 = .ok (.ireturn, 1) := by decide +kernel
theorem dX5_day_0 : decode cX5_day 0 = .ok (.aload_n 0, 1) := by decide +kernel
theorem dX5_day_1 : decode cX5_day 1 = .ok (.iconst 0, 1) := by decide +kernel
theorem dX5_day_2 : decode cX5_day 2 = .ok (.putfield 62, 3) := by decide +kernel
theorem dX5_day_5 : decode cX5_day 5 = .ok (.iload_n 1, 1) := by decide +kernel
theorem dX5_day_6 : decode cX5_day 6 = .ok (.invokestatic 83, 3) := by decide +kernel
theorem dX5_day_9 : decode cX5_day 9 = .ok (.ifCond .ne 5, 3) := by decide +kernel
theorem dX5_day_12 : decode cX5_day 12 = .ok (.iconst (-1), 1) := by decide +kernel
theorem dX5_day_13 : decode cX5_day 13 = .ok (.ireturn, 1) := by decide +kernel
theorem dX5_day_14 : decode cX5_day 14 = .ok (.iload_n 2, 1) := by decide +kernel
theorem dX5_day_15 : decode cX5_day 15 = .ok (.invokestatic 87, 3) := by decide +kernel
theorem dX5_day_18 : decode cX5_day 18 = .ok (.ifCond .ne 6, 3) := by decide +kernel
theorem dX5_day_21 : decode cX5_day 21 = .ok (.bipush (-2), 2) := by decide +kernel
theorem dX5_day_23 : decode cX5_day 23 = .ok (.ireturn, 1) := by decide +kernel
theorem dX5_day_24 : decode cX5_day 24 = .ok (.aload_n 0, 1) := by decide +kernel
theorem dX5_day_25 : decode cX5_day 25 = .ok (.iload_n 1, 1) := by decide +kernel
theorem dX5_day_26 : decode cX5_day 26 = .ok (.iload_n 2, 1) := by decide +kernel
theorem dX5_day_27 : decode cX5_day 27 = .ok (.iload_n 3, 1) := by decide +kernel
theorem dX5_day_28 : decode cX5_day 28 = .ok (.iload 4, 2) := by decide +kernel
theorem dX5_day_30 : decode cX5_day 30 = .ok (.invokevirtual 90, 3) := by decide +kernel
theorem dX5_day_33 : decode cX5_day 33 = .ok (.istore 5, 2) := by decide +kernel
theorem dX5_day_35 : decode cX5_day 35 = .ok (.iload 5, 2) := by decide +kernel
theorem dX5_day_37 : decode cX5_day 37 = .ok (.ifCond .eq 10, 3) := by decide +kernel
theorem dX5_day_40 : decode cX5_day 40 = .ok (.aload_n 0, 1) := by decide +kernel
theorem dX5_day_41 : decode cX5_day 41 = .ok (.iload 5, 2) := by decide +kernel
theorem dX5_day_43 : decode cX5_day 43 = .ok (.invokevirtual 94, 3) := by decide +kernel
theorem dX5_day_46 : decode cX5_day 46 = .ok (.ireturn, 1) := by decide +kernel
theorem dX5_day_47 : decode cX5_day 47 = .ok (.bipush 60, 2) := by decide +kernel
theorem dX5_day_49 : decode cX5_day 49 = .ok (.iload_n 1, 1) := by decide +kernel
theorem dX5_day_50 : decode cX5_day 50 = .ok (.imul, 1) := by decide +kernel
theorem dX5_day_51 : decode cX5_day 51 = .ok (.iload_n 3, 1) := by decide +kernel
theorem dX5_day_52 : decode cX5_day 52 = .ok (.iadd, 1) := by decide +kernel
theorem dX5_day_53 : decode cX5_day 53 = .ok (.istore 6, 2) := by decide +kernel
theorem dX5_day_55 : decode cX5_day 55 = .ok (.aload_n 0, 1) := by decide +kernel
theorem dX5_day_56 : decode cX5_day 56 = .ok (.iload 6, 2) := by decide +kernel
theorem dX5_day_58 : decode cX5_day 58 = .ok (.putfield 80, 3) := by decide +kernel
theorem dX5_day_61 : decode cX5_day 61 = .ok (.aload_n 0, 1) := by decide +kernel
theorem dX5_day_62 : decode cX5_day 62 = .ok (.iload 6, 2) := by decide +kernel
theorem dX5_day_64 : decode cX5_day 64 = .ok (.iload 4, 2) := by decide +kernel
theorem dX5_day_66 : decode cX5_day 66 = .ok (.iadd, 1) := by decide +kernel
theorem dX5_day_67 : decode cX5_day 67 = .ok (.invokevirtual 98, 3) := by decide +kernel
theorem dX5_day_70 : decode cX5_day 70 = .ok (.ifCond .ne 14, 3) := by decide +kernel
theorem dX5_day_73 : decode cX5_day 73 = .ok (.bipush (-100), 2) := by decide +kernel
theorem dX5_day_75 : decode cX5_day 75 = .ok (.aload_n 0, 1) := by decide +kernel
theorem dX5_day_76 : decode cX5_day 76 = .ok (.getfield 80, 3) := by decide +kernel
theorem dX5_day_79 : decode cX5_day 79 = .ok (.iload 6, 2) := by decide +kernel
theorem dX5_day_81 : decode cX5_day 81 = .ok (.isub, 1) := by decide +kernel
theorem dX5_day_82 : decode cX5_day 82 = .ok (.isub, 1) := by decide +kernel
theorem dX5_day_83 : decode cX5_day 83 = .ok (.ireturn, 1) := by decide +kernel
theorem dX5_day_84 : decode cX5_day 84 = .ok (.aload_n 0, 1) := by decide +kernel
theorem dX5_day_85 : decode cX5_day 85 = .ok (.invokevirtual 101, 3) := by decide +kernel
theorem dX5_day_88 : decode cX5_day 88 = .ok (.aload_n 0, 1) := by decide +kernel
theorem dX5_day_89 : decode cX5_day 89 = .ok (.getfield 74, 3) := by decide +kernel
theorem dX5_day_92 : decode cX5_day 92 = .ok (.ireturn, 1) := by decide +kernel
theorem dX5_takeDay_0 : decode cX5_takeDay 0 = .ok (.aload_n 0, 1) := by decide +kernel
theorem dX5_takeDay_1 : decode cX5_takeDay 1 = .ok (.aload_n 0, 1) := by decide +kernel
theorem dX5_takeDay_2 : decode cX5_takeDay 2 = .ok (.getfield 104, 3) := by decide +kernel
theorem dX5_takeDay_5 : decode cX5_takeDay 5 = .ok (.putfield 71, 3) := by decide +kernel
theorem dX5_takeDay_8 : decode cX5_takeDay 8 = .ok (.aload_n 0, 1) := by decide +kernel
theorem dX5_takeDay_9 : decode cX5_takeDay 9 = .ok (.aload_n 0, 1) := by decide +kernel
theorem dX5_takeDay_10 : decode cX5_takeDay 10 = .ok (.getfield 107, 3) := by decide +kernel
theorem dX5_takeDay_13 : decode cX5_takeDay 13 = .ok (.putfield 74, 3) := by decide +kernel
theorem dX5_takeDay_16 : decode cX5_takeDay 16 = .ok (.aload_n 0, 1) := by decide +kernel
theorem dX5_takeDay_17 : decode cX5_takeDay 17 = .ok (.aload_n 0, 1) := by decide +kernel
theorem dX5_takeDay_18 : decode cX5_takeDay 18 = .ok (.getfield 110, 3) := by decide +kernel
theorem dX5_takeDay_21 : decode cX5_takeDay 21 = .ok (.putfield 77, 3) := by decide +kernel
theorem dX5_takeDay_24 : decode cX5_takeDay 24 = .ok (.iconst 0, 1) := by decide +kernel
theorem dX5_takeDay_25 : decode cX5_takeDay 25 = .ok (.istore_n 1, 1) := by decide +kernel
theorem dX5_takeDay_26 : decode cX5_takeDay 26 = .ok (.iload_n 1, 1) := by decide +kernel
theorem dX5_takeDay_27 : decode cX5_takeDay 27 = .ok (.aload_n 0, 1) := by decide +kernel
theorem dX5_takeDay_28 : decode cX5_takeDay 28 = .ok (.getfield 71, 3) := by decide +kernel
theorem dX5_takeDay_31 : decode cX5_takeDay 31 = .ok (.if_icmp .ge 21, 3) := by decide +kernel
theorem dX5_takeDay_34 : decode cX5_takeDay 34 = .ok (.aload_n 0, 1) := by decide +kernel
theorem dX5_takeDay_35 : decode cX5_takeDay 35 = .ok (.getfield 23, 3) := by decide +kernel
theorem dX5_takeDay_38 : decode cX5_takeDay 38 = .ok (.iload_n 1, 1) := by decide +kernel
theorem dX5_takeDay_39 : decode cX5_takeDay 39 = .ok (.aload_n 0, 1) := by decide +kernel
theorem dX5_takeDay_40 : decode cX5_takeDay 40 = .ok (.getfield 41, 3) := by decide +kernel
theorem dX5_takeDay_43 : decode cX5_takeDay 43 = .ok (.iload_n 1, 1) := by decide +kernel
theorem dX5_takeDay_44 : decode cX5_takeDay 44 = .ok (.iaload, 1) := by decide +kernel
theorem dX5_takeDay_45 : decode cX5_takeDay 45 = .ok (.iastore, 1) := by decide +kernel
theorem dX5_takeDay_46 : decode cX5_takeDay 46 = .ok (.iinc 1 1, 3) := by decide +kernel
theorem dX5_takeDay_49 : decode cX5_takeDay 49 = .ok (.goto (-23), 3) := by decide +kernel
theorem dX5_takeDay_52 : decode cX5_takeDay 52 = .ok (.iconst 0, 1) := by decide +kernel
theorem dX5_takeDay_53 : decode cX5_takeDay 53 = .ok (.istore_n 1, 1) := by decide +kernel
theorem dX5_takeDay_54 : decode cX5_takeDay 54 = .ok (.iload_n 1, 1) := by decide +kernel
theorem dX5_takeDay_55 : decode cX5_takeDay 55 = .ok (.aload_n 0, 1) := by decide +kernel
theorem dX5_takeDay_56 : decode cX5_takeDay 56 = .ok (.getfield 74, 3) := by decide +kernel
theorem dX5_takeDay_59 : decode cX5_takeDay 59 = .ok (.if_icmp .ge 39, 3) := by decide +kernel
theorem dX5_takeDay_62 : decode cX5_takeDay 62 = .ok (.aload_n 0, 1) := by decide +kernel
theorem dX5_takeDay_63 : decode cX5_takeDay 63 = .ok (.getfield 26, 3) := by decide +kernel
theorem dX5_takeDay_66 : decode cX5_takeDay 66 = .ok (.iload_n 1, 1) := by decide +kernel
theorem dX5_takeDay_67 : decode cX5_takeDay 67 = .ok (.aload_n 0, 1) := by decide +kernel
theorem dX5_takeDay_68 : decode cX5_takeDay 68 = .ok (.getfield 44, 3) := by decide +kernel
theorem dX5_takeDay_71 : decode cX5_takeDay 71 = .ok (.iconst 2, 1) := by decide +kernel
theorem dX5_takeDay_72 : decode cX5_takeDay 72 = .ok (.iload_n 1, 1) := by decide +kernel
theorem dX5_takeDay_73 : decode cX5_takeDay 73 = .ok (.imul, 1) := by decide +kernel
theorem dX5_takeDay_74 : decode cX5_takeDay 74 = .ok (.iaload, 1) := by decide +kernel
theorem dX5_takeDay_75 : decode cX5_takeDay 75 = .ok (.iastore, 1) := by decide +kernel
theorem dX5_takeDay_76 : decode cX5_takeDay 76 = .ok (.aload_n 0, 1) := by decide +kernel
theorem dX5_takeDay_77 : decode cX5_takeDay 77 = .ok (.getfield 29, 3) := by decide +kernel
theorem dX5_takeDay_80 : decode cX5_takeDay 80 = .ok (.iload_n 1, 1) := by decide +kernel
theorem dX5_takeDay_81 : decode cX5_takeDay 81 = .ok (.aload_n 0, 1) := by decide +kernel
theorem dX5_takeDay_82 : decode cX5_takeDay 82 = .ok (.getfield 44, 3) := by decide +kernel
theorem dX5_takeDay_85 : decode cX5_takeDay 85 = .ok (.iconst 2, 1) := by decide +kernel
theorem dX5_takeDay_86 : decode cX5_takeDay 86 = .ok (.iload_n 1, 1) := by decide +kernel
theorem dX5_takeDay_87 : decode cX5_takeDay 87 = .ok (.imul, 1) := by decide +kernel
theorem dX5_takeDay_88 : decode cX5_takeDay 88 = .ok (.iconst 1, 1) := by decide +kernel
theorem dX5_takeDay_89 : decode cX5_takeDay 89 = .ok (.iadd, 1) := by decide +kernel
theorem dX5_takeDay_90 : decode cX5_takeDay 90 = .ok (.iaload, 1) := by decide +kernel
theorem dX5_takeDay_91 : decode cX5_takeDay 91 = .ok (.iastore, 1) := by decide +kernel
theorem dX5_takeDay_92 : decode cX5_takeDay 92 = .ok (.iinc 1 1, 3) := by decide +kernel
theorem dX5_takeDay_95 : decode cX5_takeDay 95 = .ok (.goto (-41), 3) := by decide +kernel
theorem dX5_takeDay_98 : decode cX5_takeDay 98 = .ok (.iconst 0, 1) := by decide +kernel
theorem dX5_takeDay_99 : decode cX5_takeDay 99 = .ok (.istore_n 1, 1) := by decide +kernel
theorem dX5_takeDay_100 : decode cX5_takeDay 100 = .ok (.iload_n 1, 1) := by decide +kernel
theorem dX5_takeDay_101 : decode cX5_takeDay 101 = .ok (.aload_n 0, 1) := by decide +kernel
theorem dX5_takeDay_102 : decode cX5_takeDay 102 = .ok (.getfield 77, 3) := by decide +kernel
theorem dX5_takeDay_105 : decode cX5_takeDay 105 = .ok (.if_icmp .ge 55, 3) := by decide +kernel
theorem dX5_takeDay_108 : decode cX5_takeDay 108 = .ok (.aload_n 0, 1) := by decide +kernel
theorem dX5_takeDay_109 : decode cX5_takeDay 109 = .ok (.getfield 32, 3) := by decide +kernel
theorem dX5_takeDay_112 : decode cX5_takeDay 112 = .ok (.iload_n 1, 1) := by decide +kernel
theorem dX5_takeDay_113 : decode cX5_takeDay 113 = .ok (.aload_n 0, 1) := by decide +kernel
theorem dX5_takeDay_114 : decode cX5_takeDay 114 = .ok (.getfield 47, 3) := by decide +kernel
theorem dX5_takeDay_117 : decode cX5_takeDay 117 = .ok (.iconst 3, 1) := by decide +kernel
theorem dX5_takeDay_118 : decode cX5_takeDay 118 = .ok (.iload_n 1, 1) := by decide +kernel
theorem dX5_takeDay_119 : decode cX5_takeDay 119 = .ok (.imul, 1) := by decide +kernel
theorem dX5_takeDay_120 : decode cX5_takeDay 120 = .ok (.iaload, 1) := by decide +kernel
theorem dX5_takeDay_121 : decode cX5_takeDay 121 = .ok (.iastore, 1) := by decide +kernel
theorem dX5_takeDay_122 : decode cX5_takeDay 122 = .ok (.aload_n 0, 1) := by decide +kernel
theorem dX5_takeDay_123 : decode cX5_takeDay 123 = .ok (.getfield 35, 3) := by decide +kernel
theorem dX5_takeDay_126 : decode cX5_takeDay 126 = .ok (.iload_n 1, 1) := by decide +kernel
theorem dX5_takeDay_127 : decode cX5_takeDay 127 = .ok (.aload_n 0, 1) := by decide +kernel
theorem dX5_takeDay_128 : decode cX5_takeDay 128 = .ok (.getfield 47, 3) := by decide +kernel
theorem dX5_takeDay_131 : decode cX5_takeDay 131 = .ok (.iconst 3, 1) := by decide +kernel
theorem dX5_takeDay_132 : decode cX5_takeDay 132 = .ok (.iload_n 1, 1) := by decide +kernel
theorem dX5_takeDay_133 : decode cX5_takeDay 133 = .ok (.imul, 1) := by decide +kernel
theorem dX5_takeDay_134 : decode cX5_takeDay 134 = .ok (.iconst 1, 1) := by decide +kernel
theorem dX5_takeDay_135 : decode cX5_takeDay 135 = .ok (.iadd, 1) := by decide +kernel
theorem dX5_takeDay_136 : decode cX5_takeDay 136 = .ok (.iaload, 1) := by decide +kernel
theorem dX5_takeDay_137 : decode cX5_takeDay 137 = .ok (.iastore, 1) := by decide +kernel
theorem dX5_takeDay_138 : decode cX5_takeDay 138 = .ok (.aload_n 0, 1) := by decide +kernel
theorem dX5_takeDay_139 : decode cX5_takeDay 139 = .ok (.getfield 38, 3) := by decide +kernel
theorem dX5_takeDay_142 : decode cX5_takeDay 142 = .ok (.iload_n 1, 1) := by decide +kernel
theorem dX5_takeDay_143 : decode cX5_takeDay 143 = .ok (.aload_n 0, 1) := by decide +kernel
theorem dX5_takeDay_144 : decode cX5_takeDay 144 = .ok (.getfield 47, 3) := by decide +kernel
theorem dX5_takeDay_147 : decode cX5_takeDay 147 = .ok (.iconst 3, 1) := by decide +kernel
theorem dX5_takeDay_148 : decode cX5_takeDay 148 = .ok (.iload_n 1, 1) := by decide +kernel
theorem dX5_takeDay_149 : decode cX5_takeDay 149 = .ok (.imul, 1) := by decide +kernel
theorem dX5_takeDay_150 : decode cX5_takeDay 150 = .ok (.iconst 2, 1) := by decide +kernel
theorem dX5_takeDay_151 : decode cX5_takeDay 151 = .ok (.iadd, 1) := by decide +kernel
theorem dX5_takeDay_152 : decode cX5_takeDay 152 = .ok (.iaload, 1) := by decide +kernel
theorem dX5_takeDay_153 : decode cX5_takeDay 153 = .ok (.iastore, 1) := by decide +kernel
theorem dX5_takeDay_154 : decode cX5_takeDay 154 = .ok (.iinc 1 1, 3) := by decide +kernel
theorem dX5_takeDay_157 : decode cX5_takeDay 157 = .ok (.goto (-57), 3) := by decide +kernel
theorem dX5_takeDay_160 : decode cX5_takeDay 160 = .ok (.aload_n 0, 1) := by decide +kernel
theorem dX5_takeDay_161 : decode cX5_takeDay 161 = .ok (.bipush (-9), 2) := by decide +kernel
theorem dX5_takeDay_163 : decode cX5_takeDay 163 = .ok (.putfield 19, 3) := by decide +kernel
theorem dX5_takeDay_166 : decode cX5_takeDay 166 = .ok (.aload_n 0, 1) := by decide +kernel
theorem dX5_takeDay_167 : decode cX5_takeDay 167 = .ok (.iconst 0, 1) := by decide +kernel
theorem dX5_takeDay_168 : decode cX5_takeDay 168 = .ok (.putfield 113, 3) := by decide +kernel
theorem dX5_takeDay_171 : decode cX5_takeDay 171 = .ok (.aload_n 0, 1) := by decide +kernel
theorem dX5_takeDay_172 : decode cX5_takeDay 172 = .ok (.iconst 0, 1) := by decide +kernel
theorem dX5_takeDay_173 : decode cX5_takeDay 173 = .ok (.putfield 116, 3) := by decide +kernel
theorem dX5_takeDay_176 : decode cX5_takeDay 176 = .ok (.return_, 1) := by decide +kernel
theorem dX5_readDay_0 : decode cX5_readDay 0 = .ok (.aload_n 0, 1) := by decide +kernel
theorem dX5_readDay_1 : decode cX5_readDay 1 = .ok (.iconst 0, 1) := by decide +kernel
theorem dX5_readDay_2 : decode cX5_readDay 2 = .ok (.putfield 104, 3) := by decide +kernel
theorem dX5_readDay_5 : decode cX5_readDay 5 = .ok (.aload_n 0, 1) := by decide +kernel
theorem dX5_readDay_6 : decode cX5_readDay 6 = .ok (.iconst 0, 1) := by decide +kernel
theorem dX5_readDay_7 : decode cX5_readDay 7 = .ok (.putfield 107, 3) := by decide +kernel
theorem dX5_readDay_10 : decode cX5_readDay 10 = .ok (.aload_n 0, 1) := by decide +kernel
theorem dX5_readDay_11 : decode cX5_readDay 11 = .ok (.iconst 0, 1) := by decide +kernel
theorem dX5_readDay_12 : decode cX5_readDay 12 = .ok (.putfield 110, 3) := by decide +kernel
theorem dX5_readDay_15 : decode cX5_readDay 15 = .ok (.aload_n 0, 1) := by decide +kernel
theorem dX5_readDay_16 : decode cX5_readDay 16 = .ok (.iload_n 1, 1) := by decide +kernel
theorem dX5_readDay_17 : decode cX5_readDay 17 = .ok (.bipush 111, 2) := by decide +kernel
theorem dX5_readDay_19 : decode cX5_readDay 19 = .ok (.invokevirtual 119, 3) := by decide +kernel
theorem dX5_readDay_22 : decode cX5_readDay 22 = .ok (.ifCond .ne 5, 3) := by decide +kernel
theorem dX5_readDay_25 : decode cX5_readDay 25 = .ok (.iconst 0, 1) := by decide +kernel
theorem dX5_readDay_26 : decode cX5_readDay 26 = .ok (.ireturn, 1) := by decide +kernel
theorem dX5_readDay_27 : decode cX5_readDay 27 = .ok (.aload_n 0, 1) := by decide +kernel
theorem dX5_readDay_28 : decode cX5_readDay 28 = .ok (.iload_n 1, 1) := by decide +kernel
theorem dX5_readDay_29 : decode cX5_readDay 29 = .ok (.bipush 9, 2) := by decide +kernel
theorem dX5_readDay_31 : decode cX5_readDay 31 = .ok (.invokevirtual 123, 3) := by decide +kernel
theorem dX5_readDay_34 : decode cX5_readDay 34 = .ok (.istore_n 2, 1) := by decide +kernel
theorem dX5_readDay_35 : decode cX5_readDay 35 = .ok (.iload_n 2, 1) := by decide +kernel
theorem dX5_readDay_36 : decode cX5_readDay 36 = .ok (.bipush (-9), 2) := by decide +kernel
theorem dX5_readDay_38 : decode cX5_readDay 38 = .ok (.if_icmp .eq 48, 3) := by decide +kernel
theorem dX5_readDay_41 : decode cX5_readDay 41 = .ok (.aload_n 0, 1) := by decide +kernel
theorem dX5_readDay_42 : decode cX5_readDay 42 = .ok (.getfield 41, 3) := by decide +kernel
theorem dX5_readDay_45 : decode cX5_readDay 45 = .ok (.aload_n 0, 1) := by decide +kernel
theorem dX5_readDay_46 : decode cX5_readDay 46 = .ok (.getfield 104, 3) := by decide +kernel
theorem dX5_readDay_49 : decode cX5_readDay 49 = .ok (.iload_n 2, 1) := by decide +kernel
theorem dX5_readDay_50 : decode cX5_readDay 50 = .ok (.iastore, 1) := by decide +kernel
theorem dX5_readDay_51 : decode cX5_readDay 51 = .ok (.aload_n 0, 1) := by decide +kernel
theorem dX5_readDay_52 : decode cX5_readDay 52 = .ok (.dup, 1) := by decide +kernel
theorem dX5_readDay_53 : decode cX5_readDay 53 = .ok (.getfield 104, 3) := by decide +kernel
theorem dX5_readDay_56 : decode cX5_readDay 56 = .ok (.iconst 1, 1) := by decide +kernel
theorem dX5_readDay_57 : decode cX5_readDay 57 = .ok (.iadd, 1) := by decide +kernel
theorem dX5_readDay_58 : decode cX5_readDay 58 = .ok (.putfield 104, 3) := by decide +kernel
theorem dX5_readDay_61 : decode cX5_readDay 61 = .ok (.aload_n 0, 1) := by decide +kernel
theorem dX5_readDay_62 : decode cX5_readDay 62 = .ok (.getfield 104, 3) := by decide +kernel
theorem dX5_readDay_65 : decode cX5_readDay 65 = .ok (.bipush 6, 2) := by decide +kernel
theorem dX5_readDay_67 : decode cX5_readDay 67 = .ok (.if_icmp .ge 13, 3) := by decide +kernel
theorem dX5_readDay_70 : decode cX5_readDay 70 = .ok (.aload_n 0, 1) := by decide +kernel
theorem dX5_readDay_71 : decode cX5_readDay 71 = .ok (.iload_n 1, 1) := by decide +kernel
theorem dX5_readDay_72 : decode cX5_readDay 72 = .ok (.bipush 9, 2) := by decide +kernel
theorem dX5_readDay_74 : decode cX5_readDay 74 = .ok (.invokevirtual 123, 3) := by decide +kernel
theorem dX5_readDay_77 : decode cX5_readDay 77 = .ok (.goto 5, 3) := by decide +kernel
theorem dX5_readDay_80 : decode cX5_readDay 80 = .ok (.bipush (-9), 2) := by decide +kernel
theorem dX5_readDay_82 : decode cX5_readDay 82 = .ok (.istore_n 2, 1) := by decide +kernel
theorem dX5_readDay_83 : decode cX5_readDay 83 = .ok (.goto (-48), 3) := by decide +kernel
theorem dX5_readDay_86 : decode cX5_readDay 86 = .ok (.aload_n 0, 1) := by decide +kernel
theorem dX5_readDay_87 : decode cX5_readDay 87 = .ok (.getfield 104, 3) := by decide +kernel
theorem dX5_readDay_90 : decode cX5_readDay 90 = .ok (.ifCond .ne 5, 3) := by decide +kernel
theorem dX5_readDay_93 : decode cX5_readDay 93 = .ok (.iconst 0, 1) := by decide +kernel
theorem dX5_readDay_94 : decode cX5_readDay 94 = .ok (.ireturn, 1) := by decide +kernel
theorem dX5_readDay_95 : decode cX5_readDay 95 = .ok (.aload_n 0, 1) := by decide +kernel
theorem dX5_readDay_96 : decode cX5_readDay 96 = .ok (.getfield 107, 3) := by decide +kernel
theorem dX5_readDay_99 : decode cX5_readDay 99 = .ok (.ifCond .eq 33, 3) := by decide +kernel
theorem dX5_readDay_102 : decode cX5_readDay 102 = .ok (.aload_n 0, 1) := by decide +kernel
theorem dX5_readDay_103 : decode cX5_readDay 103 = .ok (.getfield 107, 3) := by decide +kernel
theorem dX5_readDay_106 : decode cX5_readDay 106 = .ok (.iconst 4, 1) := by decide +kernel
theorem dX5_readDay_107 : decode cX5_readDay 107 = .ok (.if_icmp .ge 45, 3) := by decide +kernel
theorem dX5_readDay_110 : decode cX5_readDay 110 = .ok (.aload_n 0, 1) := by decide +kernel
theorem dX5_readDay_111 : decode cX5_readDay 111 = .ok (.getfield 80, 3) := by decide +kernel
theorem dX5_readDay_114 : decode cX5_readDay 114 = .ok (.iload_n 1, 1) := by decide +kernel
theorem dX5_readDay_115 : decode cX5_readDay 115 = .ok (.if_icmp .ge 37, 3) := by decide +kernel
theorem dX5_readDay_118 : decode cX5_readDay 118 = .ok (.aload_n 0, 1) := by decide +kernel
theorem dX5_readDay_119 : decode cX5_readDay 119 = .ok (.getfield 16, 3) := by decide +kernel
theorem dX5_readDay_122 : decode cX5_readDay 122 = .ok (.aload_n 0, 1) := by decide +kernel
theorem dX5_readDay_123 : decode cX5_readDay 123 = .ok (.getfield 80, 3) := by decide +kernel
theorem dX5_readDay_126 : decode cX5_readDay 126 = .ok (.iaload, 1) := by decide +kernel
theorem dX5_readDay_127 : decode cX5_readDay 127 = .ok (.bipush 59, 2) := by decide +kernel
theorem dX5_readDay_129 : decode cX5_readDay 129 = .ok (.if_icmp .ne 23, 3) := by decide +kernel
theorem dX5_readDay_132 : decode cX5_readDay 132 = .ok (.aload_n 0, 1) := by decide +kernel
theorem dX5_readDay_133 : decode cX5_readDay 133 = .ok (.iload_n 1, 1) := by decide +kernel
theorem dX5_readDay_134 : decode cX5_readDay 134 = .ok (.bipush 59, 2) := by decide +kernel
theorem dX5_readDay_136 : decode cX5_readDay 136 = .ok (.invokevirtual 119, 3) := by decide +kernel
theorem dX5_readDay_139 : decode cX5_readDay 139 = .ok (.ifCond .eq 11, 3) := by decide +kernel
theorem dX5_readDay_142 : decode cX5_readDay 142 = .ok (.aload_n 0, 1) := by decide +kernel
theorem dX5_readDay_143 : decode cX5_readDay 143 = .ok (.iload_n 1, 1) := by decide +kernel
theorem dX5_readDay_144 : decode cX5_readDay 144 = .ok (.invokevirtual 127, 3) := by decide +kernel
theorem dX5_readDay_147 : decode cX5_readDay 147 = .ok (.ifCond .ne (-52), 3) := by decide +kernel
theorem dX5_readDay_150 : decode cX5_readDay 150 = .ok (.iconst 0, 1) := by decide +kernel
theorem dX5_readDay_151 : decode cX5_readDay 151 = .ok (.ireturn, 1) := by decide +kernel
theorem dX5_readDay_152 : decode cX5_readDay 152 = .ok (.aload_n 0, 1) := by decide +kernel
theorem dX5_readDay_153 : decode cX5_readDay 153 = .ok (.getfield 110, 3) := by decide +kernel
theorem dX5_readDay_156 : decode cX5_readDay 156 = .ok (.bipush 6, 2) := by decide +kernel
theorem dX5_readDay_158 : decode cX5_readDay 158 = .ok (.if_icmp .ge 31, 3) := by decide +kernel
theorem dX5_readDay_161 : decode cX5_readDay 161 = .ok (.aload_n 0, 1) := by decide +kernel
theorem dX5_readDay_162 : decode cX5_readDay 162 = .ok (.getfield 80, 3) := by decide +kernel
theorem dX5_readDay_165 : decode cX5_readDay 165 = .ok (.iload_n 1, 1) := by decide +kernel
theorem dX5_readDay_166 : decode cX5_readDay 166 = .ok (.if_icmp .ge 23, 3) := by decide +kernel
theorem dX5_readDay_169 : decode cX5_readDay 169 = .ok (.aload_n 0, 1) := by decide +kernel
theorem dX5_readDay_170 : decode cX5_readDay 170 = .ok (.iload_n 1, 1) := by decide +kernel
theorem dX5_readDay_171 : decode cX5_readDay 171 = .ok (.bipush 44, 2) := by decide +kernel
theorem dX5_readDay_173 : decode cX5_readDay 173 = .ok (.invokevirtual 119, 3) := by decide +kernel
theorem dX5_readDay_176 : decode cX5_readDay 176 = .ok (.ifCond .eq 11, 3) := by decide +kernel
theorem dX5_readDay_179 : decode cX5_readDay 179 = .ok (.aload_n 0, 1) := by decide +kernel
theorem dX5_readDay_180 : decode cX5_readDay 180 = .ok (.iload_n 1, 1) := by decide +kernel
theorem dX5_readDay_181 : decode cX5_readDay 181 = .ok (.invokevirtual 130, 3) := by decide +kernel
theorem dX5_readDay_184 : decode cX5_readDay 184 = .ok (.ifCond .ne (-32), 3) := by decide +kernel
theorem dX5_readDay_187 : decode cX5_readDay 187 = .ok (.iconst 0, 1) := by decide +kernel
theorem dX5_readDay_188 : decode cX5_readDay 188 = .ok (.ireturn, 1) := by decide +kernel
theorem dX5_readDay_189 : decode cX5_readDay 189 = .ok (.aload_n 0, 1) := by decide +kernel
theorem dX5_readDay_190 : decode cX5_readDay 190 = .ok (.getfield 80, 3) := by decide +kernel
theorem dX5_readDay_193 : decode cX5_readDay 193 = .ok (.iload_n 1, 1) := by decide +kernel
theorem dX5_readDay_194 : decode cX5_readDay 194 = .ok (.if_icmp .ne 7, 3) := by decide +kernel
theorem dX5_readDay_197 : decode cX5_readDay 197 = .ok (.iconst 1, 1) := by decide +kernel
theorem dX5_readDay_198 : decode cX5_readDay 198 = .ok (.goto 4, 3) := by decide +kernel
theorem dX5_readDay_201 : decode cX5_readDay 201 = .ok (.iconst 0, 1) := by decide +kernel
theorem dX5_readDay_202 : decode cX5_readDay 202 = .ok (.ireturn, 1) := by decide +kernel
theorem dX5_readSwearerNext_0 : decode cX5_readSwearerNext 0 = .ok (.aload_n 0, 1) := by decide +kernel
theorem dX5_readSwearerNext_1 : decode cX5_readSwearerNext 1 = .ok (.getfield 80, 3) := by decide +kernel
theorem dX5_readSwearerNext_4 : decode cX5_readSwearerNext 4 = .ok (.iload_n 1, 1) := by decide +kernel
theorem dX5_readSwearerNext_5 : decode cX5_readSwearerNext 5 = .ok (.if_icmp .ge 15, 3) := by decide +kernel
theorem dX5_readSwearerNext_8 : decode cX5_readSwearerNext 8 = .ok (.aload_n 0, 1) := by decide +kernel
theorem dX5_readSwearerNext_9 : decode cX5_readSwearerNext 9 = .ok (.getfield 16, 3) := by decide +kernel
theorem dX5_readSwearerNext_12 : decode cX5_readSwearerNext 12 = .ok (.aload_n 0, 1) := by decide +kernel
theorem dX5_readSwearerNext_13 : decode cX5_readSwearerNext 13 = .ok (.getfield 80, 3) := by decide +kernel
theorem dX5_readSwearerNext_16 : decode cX5_readSwearerNext 16 = .ok (.iaload, 1) := by decide +kernel
theorem dX5_readSwearerNext_17 : decode cX5_readSwearerNext 17 = .ok (.goto 4, 3) := by decide +kernel
theorem dX5_readSwearerNext_20 : decode cX5_readSwearerNext 20 = .ok (.iconst 0, 1) := by decide +kernel
theorem dX5_readSwearerNext_21 : decode cX5_readSwearerNext 21 = .ok (.istore_n 2, 1) := by decide +kernel
theorem dX5_readSwearerNext_22 : decode cX5_readSwearerNext 22 = .ok (.iconst 2, 1) := by decide +kernel
theorem dX5_readSwearerNext_23 : decode cX5_readSwearerNext 23 = .ok (.aload_n 0, 1) := by decide +kernel
theorem dX5_readSwearerNext_24 : decode cX5_readSwearerNext 24 = .ok (.getfield 107, 3) := by decide +kernel
theorem dX5_readSwearerNext_27 : decode cX5_readSwearerNext 27 = .ok (.imul, 1) := by decide +kernel
theorem dX5_readSwearerNext_28 : decode cX5_readSwearerNext 28 = .ok (.istore_n 3, 1) := by decide +kernel
theorem dX5_readSwearerNext_29 : decode cX5_readSwearerNext 29 = .ok (.aload_n 0, 1) := by decide +kernel
theorem dX5_readSwearerNext_30 : decode cX5_readSwearerNext 30 = .ok (.getfield 44, 3) := by decide +kernel
theorem dX5_readSwearerNext_33 : decode cX5_readSwearerNext 33 = .ok (.iload_n 3, 1) := by decide +kernel
theorem dX5_readSwearerNext_34 : decode cX5_readSwearerNext 34 = .ok (.iload_n 2, 1) := by decide +kernel
theorem dX5_readSwearerNext_35 : decode cX5_readSwearerNext 35 = .ok (.bipush 112, 2) := by decide +kernel
theorem dX5_readSwearerNext_37 : decode cX5_readSwearerNext 37 = .ok (.if_icmp .ne 7, 3) := by decide +kernel
theorem dX5_readSwearerNext_40 : decode cX5_readSwearerNext 40 = .ok (.iconst 0, 1) := by decide +kernel
theorem dX5_readSwearerNext_41 : decode cX5_readSwearerNext 41 = .ok (.goto 25, 3) := by decide +kernel
theorem dX5_readSwearerNext_44 : decode cX5_readSwearerNext 44 = .ok (.iload_n 2, 1) := by decide +kernel
theorem dX5_readSwearerNext_45 : decode cX5_readSwearerNext 45 = .ok (.bipush 98, 2) := by decide +kernel
theorem dX5_readSwearerNext_47 : decode cX5_readSwearerNext 47 = .ok (.if_icmp .ne 7, 3) := by decide +kernel
theorem dX5_readSwearerNext_50 : decode cX5_readSwearerNext 50 = .ok (.iconst 1, 1) := by decide +kernel
theorem dX5_readSwearerNext_51 : decode cX5_readSwearerNext 51 = .ok (.goto 15, 3) := by decide +kernel
theorem dX5_readSwearerNext_54 : decode cX5_readSwearerNext 54 = .ok (.iload_n 2, 1) := by decide +kernel
theorem dX5_readSwearerNext_55 : decode cX5_readSwearerNext 55 = .ok (.bipush 100, 2) := by decide +kernel
theorem dX5_readSwearerNext_57 : decode cX5_readSwearerNext 57 = .ok (.if_icmp .ne 7, 3) := by decide +kernel
theorem dX5_readSwearerNext_60 : decode cX5_readSwearerNext 60 = .ok (.iconst 2, 1) := by decide +kernel
theorem dX5_readSwearerNext_61 : decode cX5_readSwearerNext 61 = .ok (.goto 5, 3) := by decide +kernel
theorem dX5_readSwearerNext_64 : decode cX5_readSwearerNext 64 = .ok (.bipush (-9), 2) := by decide +kernel
theorem dX5_readSwearerNext_66 : decode cX5_readSwearerNext 66 = .ok (.iastore, 1) := by decide +kernel
theorem dX5_readSwearerNext_67 : decode cX5_readSwearerNext 67 = .ok (.aload_n 0, 1) := by decide +kernel
theorem dX5_readSwearerNext_68 : decode cX5_readSwearerNext 68 = .ok (.getfield 44, 3) := by decide +kernel
theorem dX5_readSwearerNext_71 : decode cX5_readSwearerNext 71 = .ok (.iload_n 3, 1) := by decide +kernel
theorem dX5_readSwearerNext_72 : decode cX5_readSwearerNext 72 = .ok (.iaload, 1) := by decide +kernel
theorem dX5_readSwearerNext_73 : decode cX5_readSwearerNext 73 = .ok (.bipush (-9), 2) := by decide +kernel
theorem dX5_readSwearerNext_75 : decode cX5_readSwearerNext 75 = .ok (.if_icmp .ne 5, 3) := by decide +kernel
theorem dX5_readSwearerNext_78 : decode cX5_readSwearerNext 78 = .ok (.iconst 0, 1) := by decide +kernel
theorem dX5_readSwearerNext_79 : decode cX5_readSwearerNext 79 = .ok (.ireturn, 1) := by decide +kernel
theorem dX5_readSwearerNext_80 : decode cX5_readSwearerNext 80 = .ok (.aload_n 0, 1) := by decide +kernel
theorem dX5_readSwearerNext_81 : decode cX5_readSwearerNext 81 = .ok (.dup, 1) := by decide +kernel
theorem dX5_readSwearerNext_82 : decode cX5_readSwearerNext 82 = .ok (.getfield 80, 3) := by decide +kernel
theorem dX5_readSwearerNext_85 : decode cX5_readSwearerNext 85 = .ok (.iconst 1, 1) := by decide +kernel
theorem dX5_readSwearerNext_86 : decode cX5_readSwearerNext 86 = .ok (.iadd, 1) := by decide +kernel
theorem dX5_readSwearerNext_87 : decode cX5_readSwearerNext 87 = .ok (.putfield 80, 3) := by decide +kernel
theorem dX5_readSwearerNext_90 : decode cX5_readSwearerNext 90 = .ok (.aload_n 0, 1) := by decide +kernel
theorem dX5_readSwearerNext_91 : decode cX5_readSwearerNext 91 = .ok (.getfield 44, 3) := by decide +kernel
theorem dX5_readSwearerNext_94 : decode cX5_readSwearerNext 94 = .ok (.iload_n 3, 1) := by decide +kernel
theorem dX5_readSwearerNext_95 : decode cX5_readSwearerNext 95 = .ok (.iconst 1, 1) := by decide +kernel
theorem dX5_readSwearerNext_96 : decode cX5_readSwearerNext 96 = .ok (.iadd, 1) := by decide +kernel
theorem dX5_readSwearerNext_97 : decode cX5_readSwearerNext 97 = .ok (.aload_n 0, 1) := by decide +kernel
theorem dX5_readSwearerNext_98 : decode cX5_readSwearerNext 98 = .ok (.iload_n 1, 1) := by decide +kernel
theorem dX5_readSwearerNext_99 : decode cX5_readSwearerNext 99 = .ok (.bipush 9, 2) := by decide +kernel
theorem dX5_readSwearerNext_101 : decode cX5_readSwearerNext 101 = .ok (.invokevirtual 123, 3) := by decide +kernel
theorem dX5_readSwearerNext_104 : decode cX5_readSwearerNext 104 = .ok (.iastore, 1) := by decide +kernel
theorem dX5_readSwearerNext_105 : decode cX5_readSwearerNext 105 = .ok (.aload_n 0, 1) := by decide +kernel
theorem dX5_readSwearerNext_106 : decode cX5_readSwearerNext 106 = .ok (.dup, 1) := by decide +kernel
theorem dX5_readSwearerNext_107 : decode cX5_readSwearerNext 107 = .ok (.getfield 107, 3) := by decide +kernel
theorem dX5_readSwearerNext_110 : decode cX5_readSwearerNext 110 = .ok (.iconst 1, 1) := by decide +kernel
theorem dX5_readSwearerNext_111 : decode cX5_readSwearerNext 111 = .ok (.iadd, 1) := by decide +kernel
theorem dX5_readSwearerNext_112 : decode cX5_readSwearerNext 112 = .ok (.putfield 107, 3) := by decide +kernel
theorem dX5_readSwearerNext_115 : decode cX5_readSwearerNext 115 = .ok (.aload_n 0, 1) := by decide +kernel
theorem dX5_readSwearerNext_116 : decode cX5_readSwearerNext 116 = .ok (.getfield 44, 3) := by decide +kernel
theorem dX5_readSwearerNext_119 : decode cX5_readSwearerNext 119 = .ok (.iload_n 3, 1) := by decide +kernel
theorem dX5_readSwearerNext_120 : decode cX5_readSwearerNext 120 = .ok (.iconst 1, 1) := by decide +kernel
theorem dX5_readSwearerNext_121 : decode cX5_readSwearerNext 121 = .ok (.iadd, 1) := by decide +kernel
theorem dX5_readSwearerNext_122 : decode cX5_readSwearerNext 122 = .ok (.iaload, 1) := by decide +kernel
theorem dX5_readSwearerNext_123 : decode cX5_readSwearerNext 123 = .ok (.bipush (-9), 2) := by decide +kernel
theorem dX5_readSwearerNext_125 : decode cX5_readSwearerNext 125 = .ok (.if_icmp .eq 7, 3) := by decide +kernel
theorem dX5_readSwearerNext_128 : decode cX5_readSwearerNext 128 = .ok (.iconst 1, 1) := by decide +kernel
theorem dX5_readSwearerNext_129 : decode cX5_readSwearerNext 129 = .ok (.goto 4, 3) := by decide +kernel
theorem dX5_readSwearerNext_132 : decode cX5_readSwearerNext 132 = .ok (.iconst 0, 1) := by decide +kernel
theorem dX5_readSwearerNext_133 : decode cX5_readSwearerNext 133 = .ok (.ireturn, 1) := by decide +kernel
theorem dX5_readOathNext_0 : decode cX5_readOathNext 0 = .ok (.iconst 3, 1) := by decide +kernel
theorem dX5_readOathNext_1 : decode cX5_readOathNext 1 = .ok (.aload_n 0, 1) := by decide +kernel
theorem dX5_readOathNext_2 : decode cX5_readOathNext 2 = .ok (.getfield 110, 3) := by decide +kernel
theorem dX5_readOathNext_5 : decode cX5_readOathNext 5 = .ok (.imul, 1) := by decide +kernel
theorem dX5_readOathNext_6 : decode cX5_readOathNext 6 = .ok (.istore_n 2, 1) := by decide +kernel
theorem dX5_readOathNext_7 : decode cX5_readOathNext 7 = .ok (.aload_n 0, 1) := by decide +kernel
theorem dX5_readOathNext_8 : decode cX5_readOathNext 8 = .ok (.getfield 47, 3) := by decide +kernel
theorem dX5_readOathNext_11 : decode cX5_readOathNext 11 = .ok (.iload_n 2, 1) := by decide +kernel
theorem dX5_readOathNext_12 : decode cX5_readOathNext 12 = .ok (.aload_n 0, 1) := by decide +kernel
theorem dX5_readOathNext_13 : decode cX5_readOathNext 13 = .ok (.iload_n 1, 1) := by decide +kernel
theorem dX5_readOathNext_14 : decode cX5_readOathNext 14 = .ok (.aload_n 0, 1) := by decide +kernel
theorem dX5_readOathNext_15 : decode cX5_readOathNext 15 = .ok (.getfield 107, 3) := by decide +kernel
theorem dX5_readOathNext_18 : decode cX5_readOathNext 18 = .ok (.iconst 1, 1) := by decide +kernel
theorem dX5_readOathNext_19 : decode cX5_readOathNext 19 = .ok (.isub, 1) := by decide +kernel
theorem dX5_readOathNext_20 : decode cX5_readOathNext 20 = .ok (.invokevirtual 123, 3) := by decide +kernel
theorem dX5_readOathNext_23 : decode cX5_readOathNext 23 = .ok (.iastore, 1) := by decide +kernel
theorem dX5_readOathNext_24 : decode cX5_readOathNext 24 = .ok (.aload_n 0, 1) := by decide +kernel
theorem dX5_readOathNext_25 : decode cX5_readOathNext 25 = .ok (.getfield 47, 3) := by decide +kernel
theorem dX5_readOathNext_28 : decode cX5_readOathNext 28 = .ok (.iload_n 2, 1) := by decide +kernel
theorem dX5_readOathNext_29 : decode cX5_readOathNext 29 = .ok (.iaload, 1) := by decide +kernel
theorem dX5_readOathNext_30 : decode cX5_readOathNext 30 = .ok (.bipush (-9), 2) := by decide +kernel
theorem dX5_readOathNext_32 : decode cX5_readOathNext 32 = .ok (.if_icmp .ne 5, 3) := by decide +kernel
theorem dX5_readOathNext_35 : decode cX5_readOathNext 35 = .ok (.iconst 0, 1) := by decide +kernel
theorem dX5_readOathNext_36 : decode cX5_readOathNext 36 = .ok (.ireturn, 1) := by decide +kernel
theorem dX5_readOathNext_37 : decode cX5_readOathNext 37 = .ok (.aload_n 0, 1) := by decide +kernel
theorem dX5_readOathNext_38 : decode cX5_readOathNext 38 = .ok (.getfield 80, 3) := by decide +kernel
theorem dX5_readOathNext_41 : decode cX5_readOathNext 41 = .ok (.iload_n 1, 1) := by decide +kernel
theorem dX5_readOathNext_42 : decode cX5_readOathNext 42 = .ok (.if_icmp .ge 26, 3) := by decide +kernel
theorem dX5_readOathNext_45 : decode cX5_readOathNext 45 = .ok (.aload_n 0, 1) := by decide +kernel
theorem dX5_readOathNext_46 : decode cX5_readOathNext 46 = .ok (.getfield 16, 3) := by decide +kernel
theorem dX5_readOathNext_49 : decode cX5_readOathNext 49 = .ok (.aload_n 0, 1) := by decide +kernel
theorem dX5_readOathNext_50 : decode cX5_readOathNext 50 = .ok (.getfield 80, 3) := by decide +kernel
theorem dX5_readOathNext_53 : decode cX5_readOathNext 53 = .ok (.iaload, 1) := by decide +kernel
theorem dX5_readOathNext_54 : decode cX5_readOathNext 54 = .ok (.bipush 48, 2) := by decide +kernel
theorem dX5_readOathNext_56 : decode cX5_readOathNext 56 = .ok (.aload_n 0, 1) := by decide +kernel
theorem dX5_readOathNext_57 : decode cX5_readOathNext 57 = .ok (.getfield 47, 3) := by decide +kernel
theorem dX5_readOathNext_60 : decode cX5_readOathNext 60 = .ok (.iload_n 2, 1) := by decide +kernel
theorem dX5_readOathNext_61 : decode cX5_readOathNext 61 = .ok (.iaload, 1) := by decide +kernel
theorem dX5_readOathNext_62 : decode cX5_readOathNext 62 = .ok (.iadd, 1) := by decide +kernel
theorem dX5_readOathNext_63 : decode cX5_readOathNext 63 = .ok (.if_icmp .ne 5, 3) := by decide +kernel
theorem dX5_readOathNext_66 : decode cX5_readOathNext 66 = .ok (.iconst 0, 1) := by decide +kernel
theorem dX5_readOathNext_67 : decode cX5_readOathNext 67 = .ok (.ireturn, 1) := by decide +kernel
theorem dX5_readOathNext_68 : decode cX5_readOathNext 68 = .ok (.aload_n 0, 1) := by decide +kernel
theorem dX5_readOathNext_69 : decode cX5_readOathNext 69 = .ok (.getfield 47, 3) := by decide +kernel
theorem dX5_readOathNext_72 : decode cX5_readOathNext 72 = .ok (.iload_n 2, 1) := by decide +kernel
theorem dX5_readOathNext_73 : decode cX5_readOathNext 73 = .ok (.iconst 1, 1) := by decide +kernel
theorem dX5_readOathNext_74 : decode cX5_readOathNext 74 = .ok (.iadd, 1) := by decide +kernel
theorem dX5_readOathNext_75 : decode cX5_readOathNext 75 = .ok (.aload_n 0, 1) := by decide +kernel
theorem dX5_readOathNext_76 : decode cX5_readOathNext 76 = .ok (.iload_n 1, 1) := by decide +kernel
theorem dX5_readOathNext_77 : decode cX5_readOathNext 77 = .ok (.aload_n 0, 1) := by decide +kernel
theorem dX5_readOathNext_78 : decode cX5_readOathNext 78 = .ok (.getfield 107, 3) := by decide +kernel
theorem dX5_readOathNext_81 : decode cX5_readOathNext 81 = .ok (.iconst 1, 1) := by decide +kernel
theorem dX5_readOathNext_82 : decode cX5_readOathNext 82 = .ok (.isub, 1) := by decide +kernel
theorem dX5_readOathNext_83 : decode cX5_readOathNext 83 = .ok (.invokevirtual 123, 3) := by decide +kernel
theorem dX5_readOathNext_86 : decode cX5_readOathNext 86 = .ok (.iastore, 1) := by decide +kernel
theorem dX5_readOathNext_87 : decode cX5_readOathNext 87 = .ok (.aload_n 0, 1) := by decide +kernel
theorem dX5_readOathNext_88 : decode cX5_readOathNext 88 = .ok (.getfield 47, 3) := by decide +kernel
theorem dX5_readOathNext_91 : decode cX5_readOathNext 91 = .ok (.iload_n 2, 1) := by decide +kernel
theorem dX5_readOathNext_92 : decode cX5_readOathNext 92 = .ok (.iconst 1, 1) := by decide +kernel
theorem dX5_readOathNext_93 : decode cX5_readOathNext 93 = .ok (.iadd, 1) := by decide +kernel
theorem dX5_readOathNext_94 : decode cX5_readOathNext 94 = .ok (.iaload, 1) := by decide +kernel
theorem dX5_readOathNext_95 : decode cX5_readOathNext 95 = .ok (.bipush (-9), 2) := by decide +kernel
theorem dX5_readOathNext_97 : decode cX5_readOathNext 97 = .ok (.if_icmp .ne 5, 3) := by decide +kernel
theorem dX5_readOathNext_100 : decode cX5_readOathNext 100 = .ok (.iconst 0, 1) := by decide +kernel
theorem dX5_readOathNext_101 : decode cX5_readOathNext 101 = .ok (.ireturn, 1) := by decide +kernel
theorem dX5_readOathNext_102 : decode cX5_readOathNext 102 = .ok (.aload_n 0, 1) := by decide +kernel
theorem dX5_readOathNext_103 : decode cX5_readOathNext 103 = .ok (.getfield 47, 3) := by decide +kernel
theorem dX5_readOathNext_106 : decode cX5_readOathNext 106 = .ok (.iload_n 2, 1) := by decide +kernel
theorem dX5_readOathNext_107 : decode cX5_readOathNext 107 = .ok (.iconst 2, 1) := by decide +kernel
theorem dX5_readOathNext_108 : decode cX5_readOathNext 108 = .ok (.iadd, 1) := by decide +kernel
theorem dX5_readOathNext_109 : decode cX5_readOathNext 109 = .ok (.aload_n 0, 1) := by decide +kernel
theorem dX5_readOathNext_110 : decode cX5_readOathNext 110 = .ok (.iload_n 1, 1) := by decide +kernel
theorem dX5_readOathNext_111 : decode cX5_readOathNext 111 = .ok (.aload_n 0, 1) := by decide +kernel
theorem dX5_readOathNext_112 : decode cX5_readOathNext 112 = .ok (.getfield 104, 3) := by decide +kernel
theorem dX5_readOathNext_115 : decode cX5_readOathNext 115 = .ok (.iconst 1, 1) := by decide +kernel
theorem dX5_readOathNext_116 : decode cX5_readOathNext 116 = .ok (.isub, 1) := by decide +kernel
theorem dX5_readOathNext_117 : decode cX5_readOathNext 117 = .ok (.invokevirtual 123, 3) := by decide +kernel
theorem dX5_readOathNext_120 : decode cX5_readOathNext 120 = .ok (.iastore, 1) := by decide +kernel
theorem dX5_readOathNext_121 : decode cX5_readOathNext 121 = .ok (.aload_n 0, 1) := by decide +kernel
theorem dX5_readOathNext_122 : decode cX5_readOathNext 122 = .ok (.dup, 1) := by decide +kernel
theorem dX5_readOathNext_123 : decode cX5_readOathNext 123 = .ok (.getfield 110, 3) := by decide +kernel
theorem dX5_readOathNext_126 : decode cX5_readOathNext 126 = .ok (.iconst 1, 1) := by decide +kernel
theorem dX5_readOathNext_127 : decode cX5_readOathNext 127 = .ok (.iadd, 1) := by decide +kernel
theorem dX5_readOathNext_128 : decode cX5_readOathNext 128 = .ok (.putfield 110, 3) := by decide +kernel
theorem dX5_readOathNext_131 : decode cX5_readOathNext 131 = .ok (.aload_n 0, 1) := by decide +kernel
theorem dX5_readOathNext_132 : decode cX5_readOathNext 132 = .ok (.getfield 47, 3) := by decide +kernel
theorem dX5_readOathNext_135 : decode cX5_readOathNext 135 = .ok (.iload_n 2, 1) := by decide +kernel
theorem dX5_readOathNext_136 : decode cX5_readOathNext 136 = .ok (.iconst 2, 1) := by decide +kernel
theorem dX5_readOathNext_137 : decode cX5_readOathNext 137 = .ok (.iadd, 1) := by decide +kernel
theorem dX5_readOathNext_138 : decode cX5_readOathNext 138 = .ok (.iaload, 1) := by decide +kernel
theorem dX5_readOathNext_139 : decode cX5_readOathNext 139 = .ok (.bipush (-9), 2) := by decide +kernel
theorem dX5_readOathNext_141 : decode cX5_readOathNext 141 = .ok (.if_icmp .eq 7, 3) := by decide +kernel
theorem dX5_readOathNext_144 : decode cX5_readOathNext 144 = .ok (.iconst 1, 1) := by decide +kernel
theorem dX5_readOathNext_145 : decode cX5_readOathNext 145 = .ok (.goto 4, 3) := by decide +kernel
theorem dX5_readOathNext_148 : decode cX5_readOathNext 148 = .ok (.iconst 0, 1) := by decide +kernel
theorem dX5_readOathNext_149 : decode cX5_readOathNext 149 = .ok (.ireturn, 1) := by decide +kernel
theorem dX5_warmthOf_0 : decode cX5_warmthOf 0 = .ok (.aload_n 0, 1) := by decide +kernel
theorem dX5_warmthOf_1 : decode cX5_warmthOf 1 = .ok (.getfield 26, 3) := by decide +kernel
theorem dX5_warmthOf_4 : decode cX5_warmthOf 4 = .ok (.iload_n 1, 1) := by decide +kernel
theorem dX5_warmthOf_5 : decode cX5_warmthOf 5 = .ok (.iaload, 1) := by decide +kernel
theorem dX5_warmthOf_6 : decode cX5_warmthOf 6 = .ok (.ifCond .ne 12, 3) := by decide +kernel
theorem dX5_warmthOf_9 : decode cX5_warmthOf 9 = .ok (.aload_n 0, 1) := by decide +kernel
theorem dX5_warmthOf_10 : decode cX5_warmthOf 10 = .ok (.getfield 29, 3) := by decide +kernel
theorem dX5_warmthOf_13 : decode cX5_warmthOf 13 = .ok (.iload_n 1, 1) := by decide +kernel
theorem dX5_warmthOf_14 : decode cX5_warmthOf 14 = .ok (.iaload, 1) := by decide +kernel
theorem dX5_warmthOf_15 : decode cX5_warmthOf 15 = .ok (.goto 32, 3) := by decide +kernel
theorem dX5_warmthOf_18 : decode cX5_warmthOf 18 = .ok (.aload_n 0, 1) := by decide +kernel
theorem dX5_warmthOf_19 : decode cX5_warmthOf 19 = .ok (.getfield 26, 3) := by decide +kernel
theorem dX5_warmthOf_22 : decode cX5_warmthOf 22 = .ok (.iload_n 1, 1) := by decide +kernel
theorem dX5_warmthOf_23 : decode cX5_warmthOf 23 = .ok (.iaload, 1) := by decide +kernel
theorem dX5_warmthOf_24 : decode cX5_warmthOf 24 = .ok (.iconst 1, 1) := by decide +kernel
theorem dX5_warmthOf_25 : decode cX5_warmthOf 25 = .ok (.if_icmp .ne 14, 3) := by decide +kernel
theorem dX5_warmthOf_28 : decode cX5_warmthOf 28 = .ok (.aload_n 0, 1) := by decide +kernel
theorem dX5_warmthOf_29 : decode cX5_warmthOf 29 = .ok (.getfield 29, 3) := by decide +kernel
theorem dX5_warmthOf_32 : decode cX5_warmthOf 32 = .ok (.iload_n 1, 1) := by decide +kernel
theorem dX5_warmthOf_33 : decode cX5_warmthOf 33 = .ok (.iaload, 1) := by decide +kernel
theorem dX5_warmthOf_34 : decode cX5_warmthOf 34 = .ok (.iconst 1, 1) := by decide +kernel
theorem dX5_warmthOf_35 : decode cX5_warmthOf 35 = .ok (.iadd, 1) := by decide +kernel
theorem dX5_warmthOf_36 : decode cX5_warmthOf 36 = .ok (.goto 11, 3) := by decide +kernel
theorem dX5_warmthOf_39 : decode cX5_warmthOf 39 = .ok (.iconst 2, 1) := by decide +kernel
theorem dX5_warmthOf_40 : decode cX5_warmthOf 40 = .ok (.aload_n 0, 1) := by decide +kernel
theorem dX5_warmthOf_41 : decode cX5_warmthOf 41 = .ok (.getfield 29, 3) := by decide +kernel
theorem dX5_warmthOf_44 : decode cX5_warmthOf 44 = .ok (.iload_n 1, 1) := by decide +kernel
theorem dX5_warmthOf_45 : decode cX5_warmthOf 45 = .ok (.iaload, 1) := by decide +kernel
theorem dX5_warmthOf_46 : decode cX5_warmthOf 46 = .ok (.imul, 1) := by decide +kernel
theorem dX5_warmthOf_47 : decode cX5_warmthOf 47 = .ok (.ireturn, 1) := by decide +kernel
theorem dX5_chillOf_0 : decode cX5_chillOf 0 = .ok (.aload_n 0, 1) := by decide +kernel
theorem dX5_chillOf_1 : decode cX5_chillOf 1 = .ok (.getfield 23, 3) := by decide +kernel
theorem dX5_chillOf_4 : decode cX5_chillOf 4 = .ok (.iload_n 2, 1) := by decide +kernel
theorem dX5_chillOf_5 : decode cX5_chillOf 5 = .ok (.iaload, 1) := by decide +kernel
theorem dX5_chillOf_6 : decode cX5_chillOf 6 = .ok (.iload_n 2, 1) := by decide +kernel
theorem dX5_chillOf_7 : decode cX5_chillOf 7 = .ok (.aload_n 0, 1) := by decide +kernel
theorem dX5_chillOf_8 : decode cX5_chillOf 8 = .ok (.getfield 19, 3) := by decide +kernel
theorem dX5_chillOf_11 : decode cX5_chillOf 11 = .ok (.if_icmp .ne 10, 3) := by decide +kernel
theorem dX5_chillOf_14 : decode cX5_chillOf 14 = .ok (.aload_n 0, 1) := by decide +kernel
theorem dX5_chillOf_15 : decode cX5_chillOf 15 = .ok (.getfield 113, 3) := by decide +kernel
theorem dX5_chillOf_18 : decode cX5_chillOf 18 = .ok (.goto 4, 3) := by decide +kernel
theorem dX5_chillOf_21 : decode cX5_chillOf 21 = .ok (.iconst 0, 1) := by decide +kernel
theorem dX5_chillOf_22 : decode cX5_chillOf 22 = .ok (.isub, 1) := by decide +kernel
theorem dX5_chillOf_23 : decode cX5_chillOf 23 = .ok (.aload_n 0, 1) := by decide +kernel
theorem dX5_chillOf_24 : decode cX5_chillOf 24 = .ok (.iload_n 1, 1) := by decide +kernel
theorem dX5_chillOf_25 : decode cX5_chillOf 25 = .ok (.invokevirtual 133, 3) := by decide +kernel
theorem dX5_chillOf_28 : decode cX5_chillOf 28 = .ok (.isub, 1) := by decide +kernel
theorem dX5_chillOf_29 : decode cX5_chillOf 29 = .ok (.ireturn, 1) := by decide +kernel
theorem dX5_isCold_0 : decode cX5_isCold 0 = .ok (.aload_n 0, 1) := by decide +kernel
theorem dX5_isCold_1 : decode cX5_isCold 1 = .ok (.iload_n 1, 1) := by decide +kernel
theorem dX5_isCold_2 : decode cX5_isCold 2 = .ok (.iload_n 2, 1) := by decide +kernel
theorem dX5_isCold_3 : decode cX5_isCold 3 = .ok (.invokevirtual 136, 3) := by decide +kernel
theorem dX5_isCold_6 : decode cX5_isCold 6 = .ok (.ifCond .le 7, 3) := by decide +kernel
theorem dX5_isCold_9 : decode cX5_isCold 9 = .ok (.iconst 1, 1) := by decide +kernel
theorem dX5_isCold_10 : decode cX5_isCold 10 = .ok (.goto 4, 3) := by decide +kernel
theorem dX5_isCold_13 : decode cX5_isCold 13 = .ok (.iconst 0, 1) := by decide +kernel
theorem dX5_isCold_14 : decode cX5_isCold 14 = .ok (.ireturn, 1) := by decide +kernel
theorem dX5_coldHours_0 : decode cX5_coldHours 0 = .ok (.iconst 0, 1) := by decide +kernel
theorem dX5_coldHours_1 : decode cX5_coldHours 1 = .ok (.istore_n 2, 1) := by decide +kernel
theorem dX5_coldHours_2 : decode cX5_coldHours 2 = .ok (.iconst 0, 1) := by decide +kernel
theorem dX5_coldHours_3 : decode cX5_coldHours 3 = .ok (.istore_n 3, 1) := by decide +kernel
theorem dX5_coldHours_4 : decode cX5_coldHours 4 = .ok (.iload_n 3, 1) := by decide +kernel
theorem dX5_coldHours_5 : decode cX5_coldHours 5 = .ok (.aload_n 0, 1) := by decide +kernel
theorem dX5_coldHours_6 : decode cX5_coldHours 6 = .ok (.getfield 71, 3) := by decide +kernel
theorem dX5_coldHours_9 : decode cX5_coldHours 9 = .ok (.if_icmp .ge 28, 3) := by decide +kernel
theorem dX5_coldHours_12 : decode cX5_coldHours 12 = .ok (.iload_n 2, 1) := by decide +kernel
theorem dX5_coldHours_13 : decode cX5_coldHours 13 = .ok (.aload_n 0, 1) := by decide +kernel
theorem dX5_coldHours_14 : decode cX5_coldHours 14 = .ok (.iload_n 1, 1) := by decide +kernel
theorem dX5_coldHours_15 : decode cX5_coldHours 15 = .ok (.iload_n 3, 1) := by decide +kernel
theorem dX5_coldHours_16 : decode cX5_coldHours 16 = .ok (.invokevirtual 139, 3) := by decide +kernel
theorem dX5_coldHours_19 : decode cX5_coldHours 19 = .ok (.ifCond .eq 9, 3) := by decide +kernel
theorem dX5_coldHours_22 : decode cX5_coldHours 22 = .ok (.iconst 1, 1) := by decide +kernel
theorem dX5_coldHours_23 : decode cX5_coldHours 23 = .ok (.iload_n 3, 1) := by decide +kernel
theorem dX5_coldHours_24 : decode cX5_coldHours 24 = .ok (.ishl, 1) := by decide +kernel
theorem dX5_coldHours_25 : decode cX5_coldHours 25 = .ok (.goto 4, 3) := by decide +kernel
theorem dX5_coldHours_28 : decode cX5_coldHours 28 = .ok (.iconst 0, 1) := by decide +kernel
theorem dX5_coldHours_29 : decode cX5_coldHours 29 = .ok (.ior, 1) := by decide +kernel
theorem dX5_coldHours_30 : decode cX5_coldHours 30 = .ok (.istore_n 2, 1) := by decide +kernel
theorem dX5_coldHours_31 : decode cX5_coldHours 31 = .ok (.iinc 3 1, 3) := by decide +kernel
theorem dX5_coldHours_34 : decode cX5_coldHours 34 = .ok (.goto (-30), 3) := by decide +kernel
theorem dX5_coldHours_37 : decode cX5_coldHours 37 = .ok (.iload_n 2, 1) := by decide +kernel
theorem dX5_coldHours_38 : decode cX5_coldHours 38 = .ok (.ireturn, 1) := by decide +kernel
theorem dX5_binds_0 : decode cX5_binds 0 = .ok (.aload_n 0, 1) := by decide +kernel
theorem dX5_binds_1 : decode cX5_binds 1 = .ok (.aload_n 0, 1) := by decide +kernel
theorem dX5_binds_2 : decode cX5_binds 2 = .ok (.getfield 32, 3) := by decide +kernel
theorem dX5_binds_5 : decode cX5_binds 5 = .ok (.iload_n 1, 1) := by decide +kernel
theorem dX5_binds_6 : decode cX5_binds 6 = .ok (.iaload, 1) := by decide +kernel
theorem dX5_binds_7 : decode cX5_binds 7 = .ok (.aload_n 0, 1) := by decide +kernel
theorem dX5_binds_8 : decode cX5_binds 8 = .ok (.getfield 38, 3) := by decide +kernel
theorem dX5_binds_11 : decode cX5_binds 11 = .ok (.iload_n 1, 1) := by decide +kernel
theorem dX5_binds_12 : decode cX5_binds 12 = .ok (.iaload, 1) := by decide +kernel
theorem dX5_binds_13 : decode cX5_binds 13 = .ok (.invokevirtual 139, 3) := by decide +kernel
theorem dX5_binds_16 : decode cX5_binds 16 = .ok (.ireturn, 1) := by decide +kernel
theorem dX5_whichBind_0 : decode cX5_whichBind 0 = .ok (.iconst 0, 1) := by decide +kernel
theorem dX5_whichBind_1 : decode cX5_whichBind 1 = .ok (.istore_n 1, 1) := by decide +kernel
theorem dX5_whichBind_2 : decode cX5_whichBind 2 = .ok (.iconst 0, 1) := by decide +kernel
theorem dX5_whichBind_3 : decode cX5_whichBind 3 = .ok (.istore_n 2, 1) := by decide +kernel
theorem dX5_whichBind_4 : decode cX5_whichBind 4 = .ok (.iload_n 2, 1) := by decide +kernel
theorem dX5_whichBind_5 : decode cX5_whichBind 5 = .ok (.aload_n 0, 1) := by decide +kernel
theorem dX5_whichBind_6 : decode cX5_whichBind 6 = .ok (.getfield 77, 3) := by decide +kernel
theorem dX5_whichBind_9 : decode cX5_whichBind 9 = .ok (.if_icmp .ge 27, 3) := by decide +kernel
theorem dX5_whichBind_12 : decode cX5_whichBind 12 = .ok (.iload_n 1, 1) := by decide +kernel
theorem dX5_whichBind_13 : decode cX5_whichBind 13 = .ok (.aload_n 0, 1) := by decide +kernel
theorem dX5_whichBind_14 : decode cX5_whichBind 14 = .ok (.iload_n 2, 1) := by decide +kernel
theorem dX5_whichBind_15 : decode cX5_whichBind 15 = .ok (.invokevirtual 142, 3) := by decide +kernel
theorem dX5_whichBind_18 : decode cX5_whichBind 18 = .ok (.ifCond .eq 9, 3) := by decide +kernel
theorem dX5_whichBind_21 : decode cX5_whichBind 21 = .ok (.iconst 1, 1) := by decide +kernel
theorem dX5_whichBind_22 : decode cX5_whichBind 22 = .ok (.iload_n 2, 1) := by decide +kernel
theorem dX5_whichBind_23 : decode cX5_whichBind 23 = .ok (.ishl, 1) := by decide +kernel
theorem dX5_whichBind_24 : decode cX5_whichBind 24 = .ok (.goto 4, 3) := by decide +kernel
theorem dX5_whichBind_27 : decode cX5_whichBind 27 = .ok (.iconst 0, 1) := by decide +kernel
theorem dX5_whichBind_28 : decode cX5_whichBind 28 = .ok (.ior, 1) := by decide +kernel
theorem dX5_whichBind_29 : decode cX5_whichBind 29 = .ok (.istore_n 1, 1) := by decide +kernel
theorem dX5_whichBind_30 : decode cX5_whichBind 30 = .ok (.iinc 2 1, 3) := by decide +kernel
theorem dX5_whichBind_33 : decode cX5_whichBind 33 = .ok (.goto (-29), 3) := by decide +kernel
theorem dX5_whichBind_36 : decode cX5_whichBind 36 = .ok (.iload_n 1, 1) := by decide +kernel
theorem dX5_whichBind_37 : decode cX5_whichBind 37 = .ok (.ireturn, 1) := by decide +kernel
theorem dX5_swornBy_0 : decode cX5_swornBy 0 = .ok (.iconst 0, 1) := by decide +kernel
theorem dX5_swornBy_1 : decode cX5_swornBy 1 = .ok (.istore_n 2, 1) := by decide +kernel
theorem dX5_swornBy_2 : decode cX5_swornBy 2 = .ok (.iconst 0, 1) := by decide +kernel
theorem dX5_swornBy_3 : decode cX5_swornBy 3 = .ok (.istore_n 3, 1) := by decide +kernel
theorem dX5_swornBy_4 : decode cX5_swornBy 4 = .ok (.iload_n 3, 1) := by decide +kernel
theorem dX5_swornBy_5 : decode cX5_swornBy 5 = .ok (.aload_n 0, 1) := by decide +kernel
theorem dX5_swornBy_6 : decode cX5_swornBy 6 = .ok (.getfield 77, 3) := by decide +kernel
theorem dX5_swornBy_9 : decode cX5_swornBy 9 = .ok (.if_icmp .ge 29, 3) := by decide +kernel
theorem dX5_swornBy_12 : decode cX5_swornBy 12 = .ok (.iload_n 2, 1) := by decide +kernel
theorem dX5_swornBy_13 : decode cX5_swornBy 13 = .ok (.aload_n 0, 1) := by decide +kernel
theorem dX5_swornBy_14 : decode cX5_swornBy 14 = .ok (.getfield 32, 3) := by decide +kernel
theorem dX5_swornBy_17 : decode cX5_swornBy 17 = .ok (.iload_n 3, 1) := by decide +kernel
theorem dX5_swornBy_18 : decode cX5_swornBy 18 = .ok (.iaload, 1) := by decide +kernel
theorem dX5_swornBy_19 : decode cX5_swornBy 19 = .ok (.iload_n 1, 1) := by decide +kernel
theorem dX5_swornBy_20 : decode cX5_swornBy 20 = .ok (.if_icmp .ne 9, 3) := by decide +kernel
theorem dX5_swornBy_23 : decode cX5_swornBy 23 = .ok (.iconst 1, 1) := by decide +kernel
theorem dX5_swornBy_24 : decode cX5_swornBy 24 = .ok (.iload_n 3, 1) := by decide +kernel
theorem dX5_swornBy_25 : decode cX5_swornBy 25 = .ok (.ishl, 1) := by decide +kernel
theorem dX5_swornBy_26 : decode cX5_swornBy 26 = .ok (.goto 4, 3) := by decide +kernel
theorem dX5_swornBy_29 : decode cX5_swornBy 29 = .ok (.iconst 0, 1) := by decide +kernel
theorem dX5_swornBy_30 : decode cX5_swornBy 30 = .ok (.ior, 1) := by decide +kernel
theorem dX5_swornBy_31 : decode cX5_swornBy 31 = .ok (.istore_n 2, 1) := by decide +kernel
theorem dX5_swornBy_32 : decode cX5_swornBy 32 = .ok (.iinc 3 1, 3) := by decide +kernel
theorem dX5_swornBy_35 : decode cX5_swornBy 35 = .ok (.goto (-31), 3) := by decide +kernel
theorem dX5_swornBy_38 : decode cX5_swornBy 38 = .ok (.iload_n 2, 1) := by decide +kernel
theorem dX5_swornBy_39 : decode cX5_swornBy 39 = .ok (.ireturn, 1) := by decide +kernel
theorem dX5_whoCold_0 : decode cX5_whoCold 0 = .ok (.iconst 0, 1) := by decide +kernel
theorem dX5_whoCold_1 : decode cX5_whoCold 1 = .ok (.istore_n 2, 1) := by decide +kernel
theorem dX5_whoCold_2 : decode cX5_whoCold 2 = .ok (.iconst 0, 1) := by decide +kernel
theorem dX5_whoCold_3 : decode cX5_whoCold 3 = .ok (.istore_n 3, 1) := by decide +kernel
theorem dX5_whoCold_4 : decode cX5_whoCold 4 = .ok (.iload_n 3, 1) := by decide +kernel
theorem dX5_whoCold_5 : decode cX5_whoCold 5 = .ok (.aload_n 0, 1) := by decide +kernel
theorem dX5_whoCold_6 : decode cX5_whoCold 6 = .ok (.getfield 74, 3) := by decide +kernel
theorem dX5_whoCold_9 : decode cX5_whoCold 9 = .ok (.if_icmp .ge 28, 3) := by decide +kernel
theorem dX5_whoCold_12 : decode cX5_whoCold 12 = .ok (.iload_n 2, 1) := by decide +kernel
theorem dX5_whoCold_13 : decode cX5_whoCold 13 = .ok (.aload_n 0, 1) := by decide +kernel
theorem dX5_whoCold_14 : decode cX5_whoCold 14 = .ok (.iload_n 3, 1) := by decide +kernel
theorem dX5_whoCold_15 : decode cX5_whoCold 15 = .ok (.iload_n 1, 1) := by decide +kernel
theorem dX5_whoCold_16 : decode cX5_whoCold 16 = .ok (.invokevirtual 139, 3) := by decide +kernel
theorem dX5_whoCold_19 : decode cX5_whoCold 19 = .ok (.ifCond .eq 9, 3) := by decide +kernel
theorem dX5_whoCold_22 : decode cX5_whoCold 22 = .ok (.iconst 1, 1) := by decide +kernel
theorem dX5_whoCold_23 : decode cX5_whoCold 23 = .ok (.iload_n 3, 1) := by decide +kernel
theorem dX5_whoCold_24 : decode cX5_whoCold 24 = .ok (.ishl, 1) := by decide +kernel
theorem dX5_whoCold_25 : decode cX5_whoCold 25 = .ok (.goto 4, 3) := by decide +kernel
theorem dX5_whoCold_28 : decode cX5_whoCold 28 = .ok (.iconst 0, 1) := by decide +kernel
theorem dX5_whoCold_29 : decode cX5_whoCold 29 = .ok (.ior, 1) := by decide +kernel
theorem dX5_whoCold_30 : decode cX5_whoCold 30 = .ok (.istore_n 2, 1) := by decide +kernel
theorem dX5_whoCold_31 : decode cX5_whoCold 31 = .ok (.iinc 3 1, 3) := by decide +kernel
theorem dX5_whoCold_34 : decode cX5_whoCold 34 = .ok (.goto (-30), 3) := by decide +kernel
theorem dX5_whoCold_37 : decode cX5_whoCold 37 = .ok (.iload_n 2, 1) := by decide +kernel
theorem dX5_whoCold_38 : decode cX5_whoCold 38 = .ok (.ireturn, 1) := by decide +kernel
theorem dX5_ofSwearer_0 : decode cX5_ofSwearer 0 = .ok (.aload_n 0, 1) := by decide +kernel
theorem dX5_ofSwearer_1 : decode cX5_ofSwearer 1 = .ok (.iload_n 1, 1) := by decide +kernel
theorem dX5_ofSwearer_2 : decode cX5_ofSwearer 2 = .ok (.invokevirtual 145, 3) := by decide +kernel
theorem dX5_ofSwearer_5 : decode cX5_ofSwearer 5 = .ok (.ifCond .ne 5, 3) := by decide +kernel
theorem dX5_ofSwearer_8 : decode cX5_ofSwearer 8 = .ok (.iconst (-1), 1) := by decide +kernel
theorem dX5_ofSwearer_9 : decode cX5_ofSwearer 9 = .ok (.ireturn, 1) := by decide +kernel
theorem dX5_ofSwearer_10 : decode cX5_ofSwearer 10 = .ok (.iload_n 2, 1) := by decide +kernel
theorem dX5_ofSwearer_11 : decode cX5_ofSwearer 11 = .ok (.tableswitch 80 0 5 #[37, 44, 51, 57, 63, 69], 37) := by decide +kernel
theorem dX5_ofSwearer_48 : decode cX5_ofSwearer 48 = .ok (.aload_n 0, 1) := by decide +kernel
theorem dX5_ofSwearer_49 : decode cX5_ofSwearer 49 = .ok (.getfield 26, 3) := by decide +kernel
theorem dX5_ofSwearer_52 : decode cX5_ofSwearer 52 = .ok (.iload_n 1, 1) := by decide +kernel
theorem dX5_ofSwearer_53 : decode cX5_ofSwearer 53 = .ok (.iaload, 1) := by decide +kernel
theorem dX5_ofSwearer_54 : decode cX5_ofSwearer 54 = .ok (.ireturn, 1) := by decide +kernel
theorem dX5_ofSwearer_55 : decode cX5_ofSwearer 55 = .ok (.aload_n 0, 1) := by decide +kernel
theorem dX5_ofSwearer_56 : decode cX5_ofSwearer 56 = .ok (.getfield 29, 3) := by decide +kernel
theorem dX5_ofSwearer_59 : decode cX5_ofSwearer 59 = .ok (.iload_n 1, 1) := by decide +kernel
theorem dX5_ofSwearer_60 : decode cX5_ofSwearer 60 = .ok (.iaload, 1) := by decide +kernel
theorem dX5_ofSwearer_61 : decode cX5_ofSwearer 61 = .ok (.ireturn, 1) := by decide +kernel
theorem dX5_ofSwearer_62 : decode cX5_ofSwearer 62 = .ok (.aload_n 0, 1) := by decide +kernel
theorem dX5_ofSwearer_63 : decode cX5_ofSwearer 63 = .ok (.iload_n 1, 1) := by decide +kernel
theorem dX5_ofSwearer_64 : decode cX5_ofSwearer 64 = .ok (.invokevirtual 133, 3) := by decide +kernel
theorem dX5_ofSwearer_67 : decode cX5_ofSwearer 67 = .ok (.ireturn, 1) := by decide +kernel
theorem dX5_ofSwearer_68 : decode cX5_ofSwearer 68 = .ok (.aload_n 0, 1) := by decide +kernel
theorem dX5_ofSwearer_69 : decode cX5_ofSwearer 69 = .ok (.iload_n 1, 1) := by decide +kernel
theorem dX5_ofSwearer_70 : decode cX5_ofSwearer 70 = .ok (.invokevirtual 148, 3) := by decide +kernel
theorem dX5_ofSwearer_73 : decode cX5_ofSwearer 73 = .ok (.ireturn, 1) := by decide +kernel
theorem dX5_ofSwearer_74 : decode cX5_ofSwearer 74 = .ok (.aload_n 0, 1) := by decide +kernel
theorem dX5_ofSwearer_75 : decode cX5_ofSwearer 75 = .ok (.iload_n 1, 1) := by decide +kernel
theorem dX5_ofSwearer_76 : decode cX5_ofSwearer 76 = .ok (.invokevirtual 151, 3) := by decide +kernel
theorem dX5_ofSwearer_79 : decode cX5_ofSwearer 79 = .ok (.ireturn, 1) := by decide +kernel
theorem dX5_ofSwearer_80 : decode cX5_ofSwearer 80 = .ok (.aload_n 0, 1) := by decide +kernel
theorem dX5_ofSwearer_81 : decode cX5_ofSwearer 81 = .ok (.iload_n 1, 1) := by decide +kernel
theorem dX5_ofSwearer_82 : decode cX5_ofSwearer 82 = .ok (.invokevirtual 151, 3) := by decide +kernel
theorem dX5_ofSwearer_85 : decode cX5_ofSwearer 85 = .ok (.aload_n 0, 1) := by decide +kernel
theorem dX5_ofSwearer_86 : decode cX5_ofSwearer 86 = .ok (.invokevirtual 154, 3) := by decide +kernel
theorem dX5_ofSwearer_89 : decode cX5_ofSwearer 89 = .ok (.iand, 1) := by decide +kernel
theorem dX5_ofSwearer_90 : decode cX5_ofSwearer 90 = .ok (.ireturn, 1) := by decide +kernel
theorem dX5_ofSwearer_91 : decode cX5_ofSwearer 91 = .ok (.bipush (-2), 2) := by decide +kernel
theorem dX5_ofSwearer_93 : decode cX5_ofSwearer 93 = .ok (.ireturn, 1) := by decide +kernel
theorem dX5_ofOath_0 : decode cX5_ofOath 0 = .ok (.aload_n 0, 1) := by decide +kernel
theorem dX5_ofOath_1 : decode cX5_ofOath 1 = .ok (.iload_n 1, 1) := by decide +kernel
theorem dX5_ofOath_2 : decode cX5_ofOath 2 = .ok (.invokevirtual 158, 3) := by decide +kernel
theorem dX5_ofOath_5 : decode cX5_ofOath 5 = .ok (.ifCond .ne 5, 3) := by decide +kernel
theorem dX5_ofOath_8 : decode cX5_ofOath 8 = .ok (.iconst (-1), 1) := by decide +kernel
theorem dX5_ofOath_9 : decode cX5_ofOath 9 = .ok (.ireturn, 1) := by decide +kernel
theorem dX5_ofOath_10 : decode cX5_ofOath 10 = .ok (.iload_n 2, 1) := by decide +kernel
theorem dX5_ofOath_11 : decode cX5_ofOath 11 = .ok (.tableswitch 88 0 4 #[33, 40, 47, 54, 74], 33) := by decide +kernel
theorem dX5_ofOath_44 : decode cX5_ofOath 44 = .ok (.aload_n 0, 1) := by decide +kernel
theorem dX5_ofOath_45 : decode cX5_ofOath 45 = .ok (.getfield 32, 3) := by decide +kernel
theorem dX5_ofOath_48 : decode cX5_ofOath 48 = .ok (.iload_n 1, 1) := by decide +kernel
theorem dX5_ofOath_49 : decode cX5_ofOath 49 = .ok (.iaload, 1) := by decide +kernel
theorem dX5_ofOath_50 : decode cX5_ofOath 50 = .ok (.ireturn, 1) := by decide +kernel
theorem dX5_ofOath_51 : decode cX5_ofOath 51 = .ok (.aload_n 0, 1) := by decide +kernel
theorem dX5_ofOath_52 : decode cX5_ofOath 52 = .ok (.getfield 35, 3) := by decide +kernel
theorem dX5_ofOath_55 : decode cX5_ofOath 55 = .ok (.iload_n 1, 1) := by decide +kernel
theorem dX5_ofOath_56 : decode cX5_ofOath 56 = .ok (.iaload, 1) := by decide +kernel
theorem dX5_ofOath_57 : decode cX5_ofOath 57 = .ok (.ireturn, 1) := by decide +kernel
theorem dX5_ofOath_58 : decode cX5_ofOath 58 = .ok (.aload_n 0, 1) := by decide +kernel
theorem dX5_ofOath_59 : decode cX5_ofOath 59 = .ok (.getfield 38, 3) := by decide +kernel
theorem dX5_ofOath_62 : decode cX5_ofOath 62 = .ok (.iload_n 1, 1) := by decide +kernel
theorem dX5_ofOath_63 : decode cX5_ofOath 63 = .ok (.iaload, 1) := by decide +kernel
theorem dX5_ofOath_64 : decode cX5_ofOath 64 = .ok (.ireturn, 1) := by decide +kernel
theorem dX5_ofOath_65 : decode cX5_ofOath 65 = .ok (.aload_n 0, 1) := by decide +kernel
theorem dX5_ofOath_66 : decode cX5_ofOath 66 = .ok (.aload_n 0, 1) := by decide +kernel
theorem dX5_ofOath_67 : decode cX5_ofOath 67 = .ok (.getfield 32, 3) := by decide +kernel
theorem dX5_ofOath_70 : decode cX5_ofOath 70 = .ok (.iload_n 1, 1) := by decide +kernel
theorem dX5_ofOath_71 : decode cX5_ofOath 71 = .ok (.iaload, 1) := by decide +kernel
theorem dX5_ofOath_72 : decode cX5_ofOath 72 = .ok (.aload_n 0, 1) := by decide +kernel
theorem dX5_ofOath_73 : decode cX5_ofOath 73 = .ok (.getfield 38, 3) := by decide +kernel
theorem dX5_ofOath_76 : decode cX5_ofOath 76 = .ok (.iload_n 1, 1) := by decide +kernel
theorem dX5_ofOath_77 : decode cX5_ofOath 77 = .ok (.iaload, 1) := by decide +kernel
theorem dX5_ofOath_78 : decode cX5_ofOath 78 = .ok (.invokevirtual 136, 3) := by decide +kernel
theorem dX5_ofOath_81 : decode cX5_ofOath 81 = .ok (.bipush 100, 2) := by decide +kernel
theorem dX5_ofOath_83 : decode cX5_ofOath 83 = .ok (.iadd, 1) := by decide +kernel
theorem dX5_ofOath_84 : decode cX5_ofOath 84 = .ok (.ireturn, 1) := by decide +kernel
theorem dX5_ofOath_85 : decode cX5_ofOath 85 = .ok (.aload_n 0, 1) := by decide +kernel
theorem dX5_ofOath_86 : decode cX5_ofOath 86 = .ok (.iload_n 1, 1) := by decide +kernel
theorem dX5_ofOath_87 : decode cX5_ofOath 87 = .ok (.invokevirtual 142, 3) := by decide +kernel
theorem dX5_ofOath_90 : decode cX5_ofOath 90 = .ok (.ifCond .eq 7, 3) := by decide +kernel
theorem dX5_ofOath_93 : decode cX5_ofOath 93 = .ok (.iconst 1, 1) := by decide +kernel
theorem dX5_ofOath_94 : decode cX5_ofOath 94 = .ok (.goto 4, 3) := by decide +kernel
theorem dX5_ofOath_97 : decode cX5_ofOath 97 = .ok (.iconst 0, 1) := by decide +kernel
theorem dX5_ofOath_98 : decode cX5_ofOath 98 = .ok (.ireturn, 1) := by decide +kernel
theorem dX5_ofOath_99 : decode cX5_ofOath 99 = .ok (.bipush (-2), 2) := by decide +kernel
theorem dX5_ofOath_101 : decode cX5_ofOath 101 = .ok (.ireturn, 1) := by decide +kernel
theorem dX5_ofHour_0 : decode cX5_ofHour 0 = .ok (.aload_n 0, 1) := by decide +kernel
theorem dX5_ofHour_1 : decode cX5_ofHour 1 = .ok (.iload_n 1, 1) := by decide +kernel
theorem dX5_ofHour_2 : decode cX5_ofHour 2 = .ok (.invokevirtual 161, 3) := by decide +kernel
theorem dX5_ofHour_5 : decode cX5_ofHour 5 = .ok (.ifCond .ne 5, 3) := by decide +kernel
theorem dX5_ofHour_8 : decode cX5_ofHour 8 = .ok (.iconst (-1), 1) := by decide +kernel
theorem dX5_ofHour_9 : decode cX5_ofHour 9 = .ok (.ireturn, 1) := by decide +kernel
theorem dX5_ofHour_10 : decode cX5_ofHour 10 = .ok (.iload_n 2, 1) := by decide +kernel
theorem dX5_ofHour_11 : decode cX5_ofHour 11 = .ok (.ifCond .ne 12, 3) := by decide +kernel
theorem dX5_ofHour_14 : decode cX5_ofHour 14 = .ok (.aload_n 0, 1) := by decide +kernel
theorem dX5_ofHour_15 : decode cX5_ofHour 15 = .ok (.getfield 23, 3) := by decide +kernel
theorem dX5_ofHour_18 : decode cX5_ofHour 18 = .ok (.iload_n 1, 1) := by decide +kernel
theorem dX5_ofHour_19 : decode cX5_ofHour 19 = .ok (.iaload, 1) := by decide +kernel
theorem dX5_ofHour_20 : decode cX5_ofHour 20 = .ok (.goto 43, 3) := by decide +kernel
theorem dX5_ofHour_23 : decode cX5_ofHour 23 = .ok (.iload_n 2, 1) := by decide +kernel
theorem dX5_ofHour_24 : decode cX5_ofHour 24 = .ok (.iconst 1, 1) := by decide +kernel
theorem dX5_ofHour_25 : decode cX5_ofHour 25 = .ok (.if_icmp .ne 23, 3) := by decide +kernel
theorem dX5_ofHour_28 : decode cX5_ofHour 28 = .ok (.iload_n 1, 1) := by decide +kernel
theorem dX5_ofHour_29 : decode cX5_ofHour 29 = .ok (.aload_n 0, 1) := by decide +kernel
theorem dX5_ofHour_30 : decode cX5_ofHour 30 = .ok (.getfield 19, 3) := by decide +kernel
theorem dX5_ofHour_33 : decode cX5_ofHour 33 = .ok (.if_icmp .ne 10, 3) := by decide +kernel
theorem dX5_ofHour_36 : decode cX5_ofHour 36 = .ok (.aload_n 0, 1) := by decide +kernel
theorem dX5_ofHour_37 : decode cX5_ofHour 37 = .ok (.getfield 113, 3) := by decide +kernel
theorem dX5_ofHour_40 : decode cX5_ofHour 40 = .ok (.goto 23, 3) := by decide +kernel
theorem dX5_ofHour_43 : decode cX5_ofHour 43 = .ok (.bipush (-9), 2) := by decide +kernel
theorem dX5_ofHour_45 : decode cX5_ofHour 45 = .ok (.goto 18, 3) := by decide +kernel
theorem dX5_ofHour_48 : decode cX5_ofHour 48 = .ok (.iload_n 2, 1) := by decide +kernel
theorem dX5_ofHour_49 : decode cX5_ofHour 49 = .ok (.iconst 2, 1) := by decide +kernel
theorem dX5_ofHour_50 : decode cX5_ofHour 50 = .ok (.if_icmp .ne 11, 3) := by decide +kernel
theorem dX5_ofHour_53 : decode cX5_ofHour 53 = .ok (.aload_n 0, 1) := by decide +kernel
theorem dX5_ofHour_54 : decode cX5_ofHour 54 = .ok (.iload_n 1, 1) := by decide +kernel
theorem dX5_ofHour_55 : decode cX5_ofHour 55 = .ok (.invokevirtual 164, 3) := by decide +kernel
theorem dX5_ofHour_58 : decode cX5_ofHour 58 = .ok (.goto 5, 3) := by decide +kernel
theorem dX5_ofHour_61 : decode cX5_ofHour 61 = .ok (.bipush (-2), 2) := by decide +kernel
theorem dX5_ofHour_63 : decode cX5_ofHour 63 = .ok (.ireturn, 1) := by decide +kernel
theorem dX5_chill_0 : decode cX5_chill 0 = .ok (.aload_n 0, 1) := by decide +kernel
theorem dX5_chill_1 : decode cX5_chill 1 = .ok (.iload_n 1, 1) := by decide +kernel
theorem dX5_chill_2 : decode cX5_chill 2 = .ok (.invokevirtual 145, 3) := by decide +kernel
theorem dX5_chill_5 : decode cX5_chill 5 = .ok (.ifCond .eq 23, 3) := by decide +kernel
theorem dX5_chill_8 : decode cX5_chill 8 = .ok (.aload_n 0, 1) := by decide +kernel
theorem dX5_chill_9 : decode cX5_chill 9 = .ok (.iload_n 2, 1) := by decide +kernel
theorem dX5_chill_10 : decode cX5_chill 10 = .ok (.invokevirtual 161, 3) := by decide +kernel
theorem dX5_chill_13 : decode cX5_chill 13 = .ok (.ifCond .eq 15, 3) := by decide +kernel
theorem dX5_chill_16 : decode cX5_chill 16 = .ok (.aload_n 0, 1) := by decide +kernel
theorem dX5_chill_17 : decode cX5_chill 17 = .ok (.iload_n 1, 1) := by decide +kernel
theorem dX5_chill_18 : decode cX5_chill 18 = .ok (.iload_n 2, 1) := by decide +kernel
theorem dX5_chill_19 : decode cX5_chill 19 = .ok (.invokevirtual 136, 3) := by decide +kernel
theorem dX5_chill_22 : decode cX5_chill 22 = .ok (.bipush 100, 2) := by decide +kernel
theorem dX5_chill_24 : decode cX5_chill 24 = .ok (.iadd, 1) := by decide +kernel
theorem dX5_chill_25 : decode cX5_chill 25 = .ok (.goto 4, 3) := by decide +kernel
theorem dX5_chill_28 : decode cX5_chill 28 = .ok (.iconst (-1), 1) := by decide +kernel
theorem dX5_chill_29 : decode cX5_chill 29 = .ok (.ireturn, 1) := by decide +kernel
theorem dX5_coat_0 : decode cX5_coat 0 = .ok (.aload_n 0, 1) := by decide +kernel
theorem dX5_coat_1 : decode cX5_coat 1 = .ok (.iload_n 1, 1) := by decide +kernel
theorem dX5_coat_2 : decode cX5_coat 2 = .ok (.invokevirtual 145, 3) := by decide +kernel
theorem dX5_coat_5 : decode cX5_coat 5 = .ok (.ifCond .ne 5, 3) := by decide +kernel
theorem dX5_coat_8 : decode cX5_coat 8 = .ok (.iconst (-1), 1) := by decide +kernel
theorem dX5_coat_9 : decode cX5_coat 9 = .ok (.ireturn, 1) := by decide +kernel
theorem dX5_coat_10 : decode cX5_coat 10 = .ok (.iload_n 2, 1) := by decide +kernel
theorem dX5_coat_11 : decode cX5_coat 11 = .ok (.iconst 0, 1) := by decide +kernel
theorem dX5_coat_12 : decode cX5_coat 12 = .ok (.bipush 9, 2) := by decide +kernel
theorem dX5_coat_14 : decode cX5_coat 14 = .ok (.invokestatic 67, 3) := by decide +kernel
theorem dX5_coat_17 : decode cX5_coat 17 = .ok (.ifCond .ne 6, 3) := by decide +kernel
theorem dX5_coat_20 : decode cX5_coat 20 = .ok (.bipush (-2), 2) := by decide +kernel
theorem dX5_coat_22 : decode cX5_coat 22 = .ok (.ireturn, 1) := by decide +kernel
theorem dX5_coat_23 : decode cX5_coat 23 = .ok (.aload_n 0, 1) := by decide +kernel
theorem dX5_coat_24 : decode cX5_coat 24 = .ok (.getfield 29, 3) := by decide +kernel
theorem dX5_coat_27 : decode cX5_coat 27 = .ok (.iload_n 1, 1) := by decide +kernel
theorem dX5_coat_28 : decode cX5_coat 28 = .ok (.iaload, 1) := by decide +kernel
theorem dX5_coat_29 : decode cX5_coat 29 = .ok (.istore_n 3, 1) := by decide +kernel
theorem dX5_coat_30 : decode cX5_coat 30 = .ok (.aload_n 0, 1) := by decide +kernel
theorem dX5_coat_31 : decode cX5_coat 31 = .ok (.getfield 29, 3) := by decide +kernel
theorem dX5_coat_34 : decode cX5_coat 34 = .ok (.iload_n 1, 1) := by decide +kernel
theorem dX5_coat_35 : decode cX5_coat 35 = .ok (.iload_n 2, 1) := by decide +kernel
theorem dX5_coat_36 : decode cX5_coat 36 = .ok (.iastore, 1) := by decide +kernel
theorem dX5_coat_37 : decode cX5_coat 37 = .ok (.iload_n 3, 1) := by decide +kernel
theorem dX5_coat_38 : decode cX5_coat 38 = .ok (.ireturn, 1) := by decide +kernel
theorem dX5_frost_0 : decode cX5_frost 0 = .ok (.aload_n 0, 1) := by decide +kernel
theorem dX5_frost_1 : decode cX5_frost 1 = .ok (.iload_n 1, 1) := by decide +kernel
theorem dX5_frost_2 : decode cX5_frost 2 = .ok (.invokevirtual 161, 3) := by decide +kernel
theorem dX5_frost_5 : decode cX5_frost 5 = .ok (.ifCond .ne 5, 3) := by decide +kernel
theorem dX5_frost_8 : decode cX5_frost 8 = .ok (.iconst (-1), 1) := by decide +kernel
theorem dX5_frost_9 : decode cX5_frost 9 = .ok (.ireturn, 1) := by decide +kernel
theorem dX5_frost_10 : decode cX5_frost 10 = .ok (.iload_n 2, 1) := by decide +kernel
theorem dX5_frost_11 : decode cX5_frost 11 = .ok (.iconst 0, 1) := by decide +kernel
theorem dX5_frost_12 : decode cX5_frost 12 = .ok (.bipush 9, 2) := by decide +kernel
theorem dX5_frost_14 : decode cX5_frost 14 = .ok (.invokestatic 67, 3) := by decide +kernel
theorem dX5_frost_17 : decode cX5_frost 17 = .ok (.ifCond .ne 6, 3) := by decide +kernel
theorem dX5_frost_20 : decode cX5_frost 20 = .ok (.bipush (-2), 2) := by decide +kernel
theorem dX5_frost_22 : decode cX5_frost 22 = .ok (.ireturn, 1) := by decide +kernel
theorem dX5_frost_23 : decode cX5_frost 23 = .ok (.aload_n 0, 1) := by decide +kernel
theorem dX5_frost_24 : decode cX5_frost 24 = .ok (.getfield 23, 3) := by decide +kernel
theorem dX5_frost_27 : decode cX5_frost 27 = .ok (.iload_n 1, 1) := by decide +kernel
theorem dX5_frost_28 : decode cX5_frost 28 = .ok (.iaload, 1) := by decide +kernel
theorem dX5_frost_29 : decode cX5_frost 29 = .ok (.istore_n 3, 1) := by decide +kernel
theorem dX5_frost_30 : decode cX5_frost 30 = .ok (.aload_n 0, 1) := by decide +kernel
theorem dX5_frost_31 : decode cX5_frost 31 = .ok (.getfield 23, 3) := by decide +kernel
theorem dX5_frost_34 : decode cX5_frost 34 = .ok (.iload_n 1, 1) := by decide +kernel
theorem dX5_frost_35 : decode cX5_frost 35 = .ok (.iload_n 2, 1) := by decide +kernel
theorem dX5_frost_36 : decode cX5_frost 36 = .ok (.iastore, 1) := by decide +kernel
theorem dX5_frost_37 : decode cX5_frost 37 = .ok (.iload_n 3, 1) := by decide +kernel
theorem dX5_frost_38 : decode cX5_frost 38 = .ok (.ireturn, 1) := by decide +kernel
theorem dX5_swear_0 : decode cX5_swear 0 = .ok (.aload_n 0, 1) := by decide +kernel
theorem dX5_swear_1 : decode cX5_swear 1 = .ok (.iload_n 1, 1) := by decide +kernel
theorem dX5_swear_2 : decode cX5_swear 2 = .ok (.invokevirtual 145, 3) := by decide +kernel
theorem dX5_swear_5 : decode cX5_swear 5 = .ok (.ifCond .eq 24, 3) := by decide +kernel
theorem dX5_swear_8 : decode cX5_swear 8 = .ok (.aload_n 0, 1) := by decide +kernel
theorem dX5_swear_9 : decode cX5_swear 9 = .ok (.iload_n 2, 1) := by decide +kernel
theorem dX5_swear_10 : decode cX5_swear 10 = .ok (.invokevirtual 145, 3) := by decide +kernel
theorem dX5_swear_13 : decode cX5_swear 13 = .ok (.ifCond .eq 16, 3) := by decide +kernel
theorem dX5_swear_16 : decode cX5_swear 16 = .ok (.iload_n 1, 1) := by decide +kernel
theorem dX5_swear_17 : decode cX5_swear 17 = .ok (.iload_n 2, 1) := by decide +kernel
theorem dX5_swear_18 : decode cX5_swear 18 = .ok (.if_icmp .eq 11, 3) := by decide +kernel
theorem dX5_swear_21 : decode cX5_swear 21 = .ok (.aload_n 0, 1) := by decide +kernel
theorem dX5_swear_22 : decode cX5_swear 22 = .ok (.iload_n 3, 1) := by decide +kernel
theorem dX5_swear_23 : decode cX5_swear 23 = .ok (.invokevirtual 161, 3) := by decide +kernel
theorem dX5_swear_26 : decode cX5_swear 26 = .ok (.ifCond .ne 5, 3) := by decide +kernel
theorem dX5_swear_29 : decode cX5_swear 29 = .ok (.iconst (-1), 1) := by decide +kernel
theorem dX5_swear_30 : decode cX5_swear 30 = .ok (.ireturn, 1) := by decide +kernel
theorem dX5_swear_31 : decode cX5_swear 31 = .ok (.aload_n 0, 1) := by decide +kernel
theorem dX5_swear_32 : decode cX5_swear 32 = .ok (.getfield 77, 3) := by decide +kernel
theorem dX5_swear_35 : decode cX5_swear 35 = .ok (.bipush 6, 2) := by decide +kernel
theorem dX5_swear_37 : decode cX5_swear 37 = .ok (.if_icmp .ne 6, 3) := by decide +kernel
theorem dX5_swear_40 : decode cX5_swear 40 = .ok (.bipush (-4), 2) := by decide +kernel
theorem dX5_swear_42 : decode cX5_swear 42 = .ok (.ireturn, 1) := by decide +kernel
theorem dX5_swear_43 : decode cX5_swear 43 = .ok (.aload_n 0, 1) := by decide +kernel
theorem dX5_swear_44 : decode cX5_swear 44 = .ok (.getfield 32, 3) := by decide +kernel
theorem dX5_swear_47 : decode cX5_swear 47 = .ok (.aload_n 0, 1) := by decide +kernel
theorem dX5_swear_48 : decode cX5_swear 48 = .ok (.getfield 77, 3) := by decide +kernel
theorem dX5_swear_51 : decode cX5_swear 51 = .ok (.iload_n 1, 1) := by decide +kernel
theorem dX5_swear_52 : decode cX5_swear 52 = .ok (.iastore, 1) := by decide +kernel
theorem dX5_swear_53 : decode cX5_swear 53 = .ok (.aload_n 0, 1) := by decide +kernel
theorem dX5_swear_54 : decode cX5_swear 54 = .ok (.getfield 35, 3) := by decide +kernel
theorem dX5_swear_57 : decode cX5_swear 57 = .ok (.aload_n 0, 1) := by decide +kernel
theorem dX5_swear_58 : decode cX5_swear 58 = .ok (.getfield 77, 3) := by decide +kernel
theorem dX5_swear_61 : decode cX5_swear 61 = .ok (.iload_n 2, 1) := by decide +kernel
theorem dX5_swear_62 : decode cX5_swear 62 = .ok (.iastore, 1) := by decide +kernel
theorem dX5_swear_63 : decode cX5_swear 63 = .ok (.aload_n 0, 1) := by decide +kernel
theorem dX5_swear_64 : decode cX5_swear 64 = .ok (.getfield 38, 3) := by decide +kernel
theorem dX5_swear_67 : decode cX5_swear 67 = .ok (.aload_n 0, 1) := by decide +kernel
theorem dX5_swear_68 : decode cX5_swear 68 = .ok (.getfield 77, 3) := by decide +kernel
theorem dX5_swear_71 : decode cX5_swear 71 = .ok (.iload_n 3, 1) := by decide +kernel
theorem dX5_swear_72 : decode cX5_swear 72 = .ok (.iastore, 1) := by decide +kernel
theorem dX5_swear_73 : decode cX5_swear 73 = .ok (.aload_n 0, 1) := by decide +kernel
theorem dX5_swear_74 : decode cX5_swear 74 = .ok (.dup, 1) := by decide +kernel
theorem dX5_swear_75 : decode cX5_swear 75 = .ok (.getfield 77, 3) := by decide +kernel
theorem dX5_swear_78 : decode cX5_swear 78 = .ok (.iconst 1, 1) := by decide +kernel
theorem dX5_swear_79 : decode cX5_swear 79 = .ok (.iadd, 1) := by decide +kernel
theorem dX5_swear_80 : decode cX5_swear 80 = .ok (.putfield 77, 3) := by decide +kernel
theorem dX5_swear_83 : decode cX5_swear 83 = .ok (.aload_n 0, 1) := by decide +kernel
theorem dX5_swear_84 : decode cX5_swear 84 = .ok (.getfield 77, 3) := by decide +kernel
theorem dX5_swear_87 : decode cX5_swear 87 = .ok (.iconst 1, 1) := by decide +kernel
theorem dX5_swear_88 : decode cX5_swear 88 = .ok (.isub, 1) := by decide +kernel
theorem dX5_swear_89 : decode cX5_swear 89 = .ok (.ireturn, 1) := by decide +kernel
theorem dX5_letOff_0 : decode cX5_letOff 0 = .ok (.aload_n 0, 1) := by decide +kernel
theorem dX5_letOff_1 : decode cX5_letOff 1 = .ok (.dup, 1) := by decide +kernel
theorem dX5_letOff_2 : decode cX5_letOff 2 = .ok (.getfield 77, 3) := by decide +kernel
theorem dX5_letOff_5 : decode cX5_letOff 5 = .ok (.iconst 1, 1) := by decide +kernel
theorem dX5_letOff_6 : decode cX5_letOff 6 = .ok (.isub, 1) := by decide +kernel
theorem dX5_letOff_7 : decode cX5_letOff 7 = .ok (.putfield 77, 3) := by decide +kernel
theorem dX5_letOff_10 : decode cX5_letOff 10 = .ok (.iload_n 1, 1) := by decide +kernel
theorem dX5_letOff_11 : decode cX5_letOff 11 = .ok (.istore_n 2, 1) := by decide +kernel
theorem dX5_letOff_12 : decode cX5_letOff 12 = .ok (.iload_n 2, 1) := by decide +kernel
theorem dX5_letOff_13 : decode cX5_letOff 13 = .ok (.aload_n 0, 1) := by decide +kernel
theorem dX5_letOff_14 : decode cX5_letOff 14 = .ok (.getfield 77, 3) := by decide +kernel
theorem dX5_letOff_17 : decode cX5_letOff 17 = .ok (.if_icmp .ge 51, 3) := by decide +kernel
theorem dX5_letOff_20 : decode cX5_letOff 20 = .ok (.aload_n 0, 1) := by decide +kernel
theorem dX5_letOff_21 : decode cX5_letOff 21 = .ok (.getfield 32, 3) := by decide +kernel
theorem dX5_letOff_24 : decode cX5_letOff 24 = .ok (.iload_n 2, 1) := by decide +kernel
theorem dX5_letOff_25 : decode cX5_letOff 25 = .ok (.aload_n 0, 1) := by decide +kernel
theorem dX5_letOff_26 : decode cX5_letOff 26 = .ok (.getfield 32, 3) := by decide +kernel
theorem dX5_letOff_29 : decode cX5_letOff 29 = .ok (.iload_n 2, 1) := by decide +kernel
theorem dX5_letOff_30 : decode cX5_letOff 30 = .ok (.iconst 1, 1) := by decide +kernel
theorem dX5_letOff_31 : decode cX5_letOff 31 = .ok (.iadd, 1) := by decide +kernel
theorem dX5_letOff_32 : decode cX5_letOff 32 = .ok (.iaload, 1) := by decide +kernel
theorem dX5_letOff_33 : decode cX5_letOff 33 = .ok (.iastore, 1) := by decide +kernel
theorem dX5_letOff_34 : decode cX5_letOff 34 = .ok (.aload_n 0, 1) := by decide +kernel
theorem dX5_letOff_35 : decode cX5_letOff 35 = .ok (.getfield 35, 3) := by decide +kernel
theorem dX5_letOff_38 : decode cX5_letOff 38 = .ok (.iload_n 2, 1) := by decide +kernel
theorem dX5_letOff_39 : decode cX5_letOff 39 = .ok (.aload_n 0, 1) := by decide +kernel
theorem dX5_letOff_40 : decode cX5_letOff 40 = .ok (.getfield 35, 3) := by decide +kernel
theorem dX5_letOff_43 : decode cX5_letOff 43 = .ok (.iload_n 2, 1) := by decide +kernel
theorem dX5_letOff_44 : decode cX5_letOff 44 = .ok (.iconst 1, 1) := by decide +kernel
theorem dX5_letOff_45 : decode cX5_letOff 45 = .ok (.iadd, 1) := by decide +kernel
theorem dX5_letOff_46 : decode cX5_letOff 46 = .ok (.iaload, 1) := by decide +kernel
theorem dX5_letOff_47 : decode cX5_letOff 47 = .ok (.iastore, 1) := by decide +kernel
theorem dX5_letOff_48 : decode cX5_letOff 48 = .ok (.aload_n 0, 1) := by decide +kernel
theorem dX5_letOff_49 : decode cX5_letOff 49 = .ok (.getfield 38, 3) := by decide +kernel
theorem dX5_letOff_52 : decode cX5_letOff 52 = .ok (.iload_n 2, 1) := by decide +kernel
theorem dX5_letOff_53 : decode cX5_letOff 53 = .ok (.aload_n 0, 1) := by decide +kernel
theorem dX5_letOff_54 : decode cX5_letOff 54 = .ok (.getfield 38, 3) := by decide +kernel
theorem dX5_letOff_57 : decode cX5_letOff 57 = .ok (.iload_n 2, 1) := by decide +kernel
theorem dX5_letOff_58 : decode cX5_letOff 58 = .ok (.iconst 1, 1) := by decide +kernel
theorem dX5_letOff_59 : decode cX5_letOff 59 = .ok (.iadd, 1) := by decide +kernel
theorem dX5_letOff_60 : decode cX5_letOff 60 = .ok (.iaload, 1) := by decide +kernel
theorem dX5_letOff_61 : decode cX5_letOff 61 = .ok (.iastore, 1) := by decide +kernel
theorem dX5_letOff_62 : decode cX5_letOff 62 = .ok (.iinc 2 1, 3) := by decide +kernel
theorem dX5_letOff_65 : decode cX5_letOff 65 = .ok (.goto (-53), 3) := by decide +kernel
theorem dX5_letOff_68 : decode cX5_letOff 68 = .ok (.return_, 1) := by decide +kernel
theorem dX5_release_0 : decode cX5_release 0 = .ok (.aload_n 0, 1) := by decide +kernel
theorem dX5_release_1 : decode cX5_release 1 = .ok (.iload_n 1, 1) := by decide +kernel
theorem dX5_release_2 : decode cX5_release 2 = .ok (.invokevirtual 158, 3) := by decide +kernel
theorem dX5_release_5 : decode cX5_release 5 = .ok (.ifCond .ne 5, 3) := by decide +kernel
theorem dX5_release_8 : decode cX5_release 8 = .ok (.iconst (-1), 1) := by decide +kernel
theorem dX5_release_9 : decode cX5_release 9 = .ok (.ireturn, 1) := by decide +kernel
theorem dX5_release_10 : decode cX5_release 10 = .ok (.aload_n 0, 1) := by decide +kernel
theorem dX5_release_11 : decode cX5_release 11 = .ok (.iload_n 1, 1) := by decide +kernel
theorem dX5_release_12 : decode cX5_release 12 = .ok (.invokevirtual 167, 3) := by decide +kernel
theorem dX5_release_15 : decode cX5_release 15 = .ok (.aload_n 0, 1) := by decide +kernel
theorem dX5_release_16 : decode cX5_release 16 = .ok (.getfield 77, 3) := by decide +kernel
theorem dX5_release_19 : decode cX5_release 19 = .ok (.ireturn, 1) := by decide +kernel
theorem dX5_stove_0 : decode cX5_stove 0 = .ok (.aload_n 0, 1) := by decide +kernel
theorem dX5_stove_1 : decode cX5_stove 1 = .ok (.getfield 71, 3) := by decide +kernel
theorem dX5_stove_4 : decode cX5_stove 4 = .ok (.ifCond .ne 6, 3) := by decide +kernel
theorem dX5_stove_7 : decode cX5_stove 7 = .ok (.bipush (-3), 2) := by decide +kernel
theorem dX5_stove_9 : decode cX5_stove 9 = .ok (.ireturn, 1) := by decide +kernel
theorem dX5_stove_10 : decode cX5_stove 10 = .ok (.iload_n 1, 1) := by decide +kernel
theorem dX5_stove_11 : decode cX5_stove 11 = .ok (.bipush (-9), 2) := by decide +kernel
theorem dX5_stove_13 : decode cX5_stove 13 = .ok (.if_icmp .ne 17, 3) := by decide +kernel
theorem dX5_stove_16 : decode cX5_stove 16 = .ok (.aload_n 0, 1) := by decide +kernel
theorem dX5_stove_17 : decode cX5_stove 17 = .ok (.bipush (-9), 2) := by decide +kernel
theorem dX5_stove_19 : decode cX5_stove 19 = .ok (.putfield 19, 3) := by decide +kernel
theorem dX5_stove_22 : decode cX5_stove 22 = .ok (.aload_n 0, 1) := by decide +kernel
theorem dX5_stove_23 : decode cX5_stove 23 = .ok (.invokevirtual 154, 3) := by decide +kernel
theorem dX5_stove_26 : decode cX5_stove 26 = .ok (.invokestatic 171, 3) := by decide +kernel
theorem dX5_stove_29 : decode cX5_stove 29 = .ok (.ireturn, 1) := by decide +kernel
theorem dX5_stove_30 : decode cX5_stove 30 = .ok (.aload_n 0, 1) := by decide +kernel
theorem dX5_stove_31 : decode cX5_stove 31 = .ok (.iload_n 1, 1) := by decide +kernel
theorem dX5_stove_32 : decode cX5_stove 32 = .ok (.invokevirtual 161, 3) := by decide +kernel
theorem dX5_stove_35 : decode cX5_stove 35 = .ok (.ifCond .ne 5, 3) := by decide +kernel
theorem dX5_stove_38 : decode cX5_stove 38 = .ok (.iconst (-1), 1) := by decide +kernel
theorem dX5_stove_39 : decode cX5_stove 39 = .ok (.ireturn, 1) := by decide +kernel
theorem dX5_stove_40 : decode cX5_stove 40 = .ok (.iload_n 2, 1) := by decide +kernel
theorem dX5_stove_41 : decode cX5_stove 41 = .ok (.iconst 0, 1) := by decide +kernel
theorem dX5_stove_42 : decode cX5_stove 42 = .ok (.bipush 9, 2) := by decide +kernel
theorem dX5_stove_44 : decode cX5_stove 44 = .ok (.invokestatic 67, 3) := by decide +kernel
theorem dX5_stove_47 : decode cX5_stove 47 = .ok (.ifCond .ne 6, 3) := by decide +kernel
theorem dX5_stove_50 : decode cX5_stove 50 = .ok (.bipush (-2), 2) := by decide +kernel
theorem dX5_stove_52 : decode cX5_stove 52 = .ok (.ireturn, 1) := by decide +kernel
theorem dX5_stove_53 : decode cX5_stove 53 = .ok (.aload_n 0, 1) := by decide +kernel
theorem dX5_stove_54 : decode cX5_stove 54 = .ok (.iload_n 1, 1) := by decide +kernel
theorem dX5_stove_55 : decode cX5_stove 55 = .ok (.putfield 19, 3) := by decide +kernel
theorem dX5_stove_58 : decode cX5_stove 58 = .ok (.aload_n 0, 1) := by decide +kernel
theorem dX5_stove_59 : decode cX5_stove 59 = .ok (.iload_n 2, 1) := by decide +kernel
theorem dX5_stove_60 : decode cX5_stove 60 = .ok (.putfield 113, 3) := by decide +kernel
theorem dX5_stove_63 : decode cX5_stove 63 = .ok (.aload_n 0, 1) := by decide +kernel
theorem dX5_stove_64 : decode cX5_stove 64 = .ok (.invokevirtual 154, 3) := by decide +kernel
theorem dX5_stove_67 : decode cX5_stove 67 = .ok (.invokestatic 171, 3) := by decide +kernel
theorem dX5_stove_70 : decode cX5_stove 70 = .ok (.ireturn, 1) := by decide +kernel
theorem dX5_keep_0 : decode cX5_keep 0 = .ok (.aload_n 0, 1) := by decide +kernel
theorem dX5_keep_1 : decode cX5_keep 1 = .ok (.getfield 50, 3) := by decide +kernel
theorem dX5_keep_4 : decode cX5_keep 4 = .ok (.iconst 0, 1) := by decide +kernel
theorem dX5_keep_5 : decode cX5_keep 5 = .ok (.aload_n 0, 1) := by decide +kernel
theorem dX5_keep_6 : decode cX5_keep 6 = .ok (.getfield 77, 3) := by decide +kernel
theorem dX5_keep_9 : decode cX5_keep 9 = .ok (.iastore, 1) := by decide +kernel
theorem dX5_keep_10 : decode cX5_keep 10 = .ok (.aload_n 0, 1) := by decide +kernel
theorem dX5_keep_11 : decode cX5_keep 11 = .ok (.getfield 50, 3) := by decide +kernel
theorem dX5_keep_14 : decode cX5_keep 14 = .ok (.iconst 1, 1) := by decide +kernel
theorem dX5_keep_15 : decode cX5_keep 15 = .ok (.aload_n 0, 1) := by decide +kernel
theorem dX5_keep_16 : decode cX5_keep 16 = .ok (.getfield 19, 3) := by decide +kernel
theorem dX5_keep_19 : decode cX5_keep 19 = .ok (.iastore, 1) := by decide +kernel
theorem dX5_keep_20 : decode cX5_keep 20 = .ok (.aload_n 0, 1) := by decide +kernel
theorem dX5_keep_21 : decode cX5_keep 21 = .ok (.getfield 50, 3) := by decide +kernel
theorem dX5_keep_24 : decode cX5_keep 24 = .ok (.iconst 2, 1) := by decide +kernel
theorem dX5_keep_25 : decode cX5_keep 25 = .ok (.aload_n 0, 1) := by decide +kernel
theorem dX5_keep_26 : decode cX5_keep 26 = .ok (.getfield 113, 3) := by decide +kernel
theorem dX5_keep_29 : decode cX5_keep 29 = .ok (.iastore, 1) := by decide +kernel
theorem dX5_keep_30 : decode cX5_keep 30 = .ok (.iconst 0, 1) := by decide +kernel
theorem dX5_keep_31 : decode cX5_keep 31 = .ok (.istore_n 1, 1) := by decide +kernel
theorem dX5_keep_32 : decode cX5_keep 32 = .ok (.iload_n 1, 1) := by decide +kernel
theorem dX5_keep_33 : decode cX5_keep 33 = .ok (.bipush 6, 2) := by decide +kernel
theorem dX5_keep_35 : decode cX5_keep 35 = .ok (.if_icmp .ge 68, 3) := by decide +kernel
theorem dX5_keep_38 : decode cX5_keep 38 = .ok (.aload_n 0, 1) := by decide +kernel
theorem dX5_keep_39 : decode cX5_keep 39 = .ok (.getfield 50, 3) := by decide +kernel
theorem dX5_keep_42 : decode cX5_keep 42 = .ok (.iconst 3, 1) := by decide +kernel
theorem dX5_keep_43 : decode cX5_keep 43 = .ok (.iload_n 1, 1) := by decide +kernel
theorem dX5_keep_44 : decode cX5_keep 44 = .ok (.iadd, 1) := by decide +kernel
theorem dX5_keep_45 : decode cX5_keep 45 = .ok (.aload_n 0, 1) := by decide +kernel
theorem dX5_keep_46 : decode cX5_keep 46 = .ok (.getfield 23, 3) := by decide +kernel
theorem dX5_keep_49 : decode cX5_keep 49 = .ok (.iload_n 1, 1) := by decide +kernel
theorem dX5_keep_50 : decode cX5_keep 50 = .ok (.iaload, 1) := by decide +kernel
theorem dX5_keep_51 : decode cX5_keep 51 = .ok (.iastore, 1) := by decide +kernel
theorem dX5_keep_52 : decode cX5_keep 52 = .ok (.aload_n 0, 1) := by decide +kernel
theorem dX5_keep_53 : decode cX5_keep 53 = .ok (.getfield 50, 3) := by decide +kernel
theorem dX5_keep_56 : decode cX5_keep 56 = .ok (.bipush 9, 2) := by decide +kernel
theorem dX5_keep_58 : decode cX5_keep 58 = .ok (.iload_n 1, 1) := by decide +kernel
theorem dX5_keep_59 : decode cX5_keep 59 = .ok (.iadd, 1) := by decide +kernel
theorem dX5_keep_60 : decode cX5_keep 60 = .ok (.aload_n 0, 1) := by decide +kernel
theorem dX5_keep_61 : decode cX5_keep 61 = .ok (.getfield 32, 3) := by decide +kernel
theorem dX5_keep_64 : decode cX5_keep 64 = .ok (.iload_n 1, 1) := by decide +kernel
theorem dX5_keep_65 : decode cX5_keep 65 = .ok (.iaload, 1) := by decide +kernel
theorem dX5_keep_66 : decode cX5_keep 66 = .ok (.iastore, 1) := by decide +kernel
theorem dX5_keep_67 : decode cX5_keep 67 = .ok (.aload_n 0, 1) := by decide +kernel
theorem dX5_keep_68 : decode cX5_keep 68 = .ok (.getfield 50, 3) := by decide +kernel
theorem dX5_keep_71 : decode cX5_keep 71 = .ok (.bipush 15, 2) := by decide +kernel
theorem dX5_keep_73 : decode cX5_keep 73 = .ok (.iload_n 1, 1) := by decide +kernel
theorem dX5_keep_74 : decode cX5_keep 74 = .ok (.iadd, 1) := by decide +kernel
theorem dX5_keep_75 : decode cX5_keep 75 = .ok (.aload_n 0, 1) := by decide +kernel
theorem dX5_keep_76 : decode cX5_keep 76 = .ok (.getfield 35, 3) := by decide +kernel
theorem dX5_keep_79 : decode cX5_keep 79 = .ok (.iload_n 1, 1) := by decide +kernel
theorem dX5_keep_80 : decode cX5_keep 80 = .ok (.iaload, 1) := by decide +kernel
theorem dX5_keep_81 : decode cX5_keep 81 = .ok (.iastore, 1) := by decide +kernel
theorem dX5_keep_82 : decode cX5_keep 82 = .ok (.aload_n 0, 1) := by decide +kernel
theorem dX5_keep_83 : decode cX5_keep 83 = .ok (.getfield 50, 3) := by decide +kernel
theorem dX5_keep_86 : decode cX5_keep 86 = .ok (.bipush 21, 2) := by decide +kernel
theorem dX5_keep_88 : decode cX5_keep 88 = .ok (.iload_n 1, 1) := by decide +kernel
theorem dX5_keep_89 : decode cX5_keep 89 = .ok (.iadd, 1) := by decide +kernel
theorem dX5_keep_90 : decode cX5_keep 90 = .ok (.aload_n 0, 1) := by decide +kernel
theorem dX5_keep_91 : decode cX5_keep 91 = .ok (.getfield 38, 3) := by decide +kernel
theorem dX5_keep_94 : decode cX5_keep 94 = .ok (.iload_n 1, 1) := by decide +kernel
theorem dX5_keep_95 : decode cX5_keep 95 = .ok (.iaload, 1) := by decide +kernel
theorem dX5_keep_96 : decode cX5_keep 96 = .ok (.iastore, 1) := by decide +kernel
theorem dX5_keep_97 : decode cX5_keep 97 = .ok (.iinc 1 1, 3) := by decide +kernel
theorem dX5_keep_100 : decode cX5_keep 100 = .ok (.goto (-68), 3) := by decide +kernel
theorem dX5_keep_103 : decode cX5_keep 103 = .ok (.iconst 0, 1) := by decide +kernel
theorem dX5_keep_104 : decode cX5_keep 104 = .ok (.istore_n 1, 1) := by decide +kernel
theorem dX5_keep_105 : decode cX5_keep 105 = .ok (.iload_n 1, 1) := by decide +kernel
theorem dX5_keep_106 : decode cX5_keep 106 = .ok (.iconst 4, 1) := by decide +kernel
theorem dX5_keep_107 : decode cX5_keep 107 = .ok (.if_icmp .ge 24, 3) := by decide +kernel
theorem dX5_keep_110 : decode cX5_keep 110 = .ok (.aload_n 0, 1) := by decide +kernel
theorem dX5_keep_111 : decode cX5_keep 111 = .ok (.getfield 50, 3) := by decide +kernel
theorem dX5_keep_114 : decode cX5_keep 114 = .ok (.bipush 27, 2) := by decide +kernel
theorem dX5_keep_116 : decode cX5_keep 116 = .ok (.iload_n 1, 1) := by decide +kernel
theorem dX5_keep_117 : decode cX5_keep 117 = .ok (.iadd, 1) := by decide +kernel
theorem dX5_keep_118 : decode cX5_keep 118 = .ok (.aload_n 0, 1) := by decide +kernel
theorem dX5_keep_119 : decode cX5_keep 119 = .ok (.getfield 29, 3) := by decide +kernel
theorem dX5_keep_122 : decode cX5_keep 122 = .ok (.iload_n 1, 1) := by decide +kernel
theorem dX5_keep_123 : decode cX5_keep 123 = .ok (.iaload, 1) := by decide +kernel
theorem dX5_keep_124 : decode cX5_keep 124 = .ok (.iastore, 1) := by decide +kernel
theorem dX5_keep_125 : decode cX5_keep 125 = .ok (.iinc 1 1, 3) := by decide +kernel
theorem dX5_keep_128 : decode cX5_keep 128 = .ok (.goto (-23), 3) := by decide +kernel
theorem dX5_keep_131 : decode cX5_keep 131 = .ok (.return_, 1) := by decide +kernel
theorem dX5_putBack_0 : decode cX5_putBack 0 = .ok (.aload_n 0, 1) := by decide +kernel
theorem dX5_putBack_1 : decode cX5_putBack 1 = .ok (.aload_n 0, 1) := by decide +kernel
theorem dX5_putBack_2 : decode cX5_putBack 2 = .ok (.getfield 50, 3) := by decide +kernel
theorem dX5_putBack_5 : decode cX5_putBack 5 = .ok (.iconst 0, 1) := by decide +kernel
theorem dX5_putBack_6 : decode cX5_putBack 6 = .ok (.iaload, 1) := by decide +kernel
theorem dX5_putBack_7 : decode cX5_putBack 7 = .ok (.putfield 77, 3) := by decide +kernel
theorem dX5_putBack_10 : decode cX5_putBack 10 = .ok (.aload_n 0, 1) := by decide +kernel
theorem dX5_putBack_11 : decode cX5_putBack 11 = .ok (.aload_n 0, 1) := by decide +kernel
theorem dX5_putBack_12 : decode cX5_putBack 12 = .ok (.getfield 50, 3) := by decide +kernel
theorem dX5_putBack_15 : decode cX5_putBack 15 = .ok (.iconst 1, 1) := by decide +kernel
theorem dX5_putBack_16 : decode cX5_putBack 16 = .ok (.iaload, 1) := by decide +kernel
theorem dX5_putBack_17 : decode cX5_putBack 17 = .ok (.putfield 19, 3) := by decide +kernel
theorem dX5_putBack_20 : decode cX5_putBack 20 = .ok (.aload_n 0, 1) := by decide +kernel
theorem dX5_putBack_21 : decode cX5_putBack 21 = .ok (.aload_n 0, 1) := by decide +kernel
theorem dX5_putBack_22 : decode cX5_putBack 22 = .ok (.getfield 50, 3) := by decide +kernel
theorem dX5_putBack_25 : decode cX5_putBack 25 = .ok (.iconst 2, 1) := by decide +kernel
theorem dX5_putBack_26 : decode cX5_putBack 26 = .ok (.iaload, 1) := by decide +kernel
theorem dX5_putBack_27 : decode cX5_putBack 27 = .ok (.putfield 113, 3) := by decide +kernel
theorem dX5_putBack_30 : decode cX5_putBack 30 = .ok (.iconst 0, 1) := by decide +kernel
theorem dX5_putBack_31 : decode cX5_putBack 31 = .ok (.istore_n 1, 1) := by decide +kernel
theorem dX5_putBack_32 : decode cX5_putBack 32 = .ok (.iload_n 1, 1) := by decide +kernel
theorem dX5_putBack_33 : decode cX5_putBack 33 = .ok (.bipush 6, 2) := by decide +kernel
theorem dX5_putBack_35 : decode cX5_putBack 35 = .ok (.if_icmp .ge 68, 3) := by decide +kernel
theorem dX5_putBack_38 : decode cX5_putBack 38 = .ok (.aload_n 0, 1) := by decide +kernel
theorem dX5_putBack_39 : decode cX5_putBack 39 = .ok (.getfield 23, 3) := by decide +kernel
theorem dX5_putBack_42 : decode cX5_putBack 42 = .ok (.iload_n 1, 1) := by decide +kernel
theorem dX5_putBack_43 : decode cX5_putBack 43 = .ok (.aload_n 0, 1) := by decide +kernel
theorem dX5_putBack_44 : decode cX5_putBack 44 = .ok (.getfield 50, 3) := by decide +kernel
theorem dX5_putBack_47 : decode cX5_putBack 47 = .ok (.iconst 3, 1) := by decide +kernel
theorem dX5_putBack_48 : decode cX5_putBack 48 = .ok (.iload_n 1, 1) := by decide +kernel
theorem dX5_putBack_49 : decode cX5_putBack 49 = .ok (.iadd, 1) := by decide +kernel
theorem dX5_putBack_50 : decode cX5_putBack 50 = .ok (.iaload, 1) := by decide +kernel
theorem dX5_putBack_51 : decode cX5_putBack 51 = .ok (.iastore, 1) := by decide +kernel
theorem dX5_putBack_52 : decode cX5_putBack 52 = .ok (.aload_n 0, 1) := by decide +kernel
theorem dX5_putBack_53 : decode cX5_putBack 53 = .ok (.getfield 32, 3) := by decide +kernel
theorem dX5_putBack_56 : decode cX5_putBack 56 = .ok (.iload_n 1, 1) := by decide +kernel
theorem dX5_putBack_57 : decode cX5_putBack 57 = .ok (.aload_n 0, 1) := by decide +kernel
theorem dX5_putBack_58 : decode cX5_putBack 58 = .ok (.getfield 50, 3) := by decide +kernel
theorem dX5_putBack_61 : decode cX5_putBack 61 = .ok (.bipush 9, 2) := by decide +kernel
theorem dX5_putBack_63 : decode cX5_putBack 63 = .ok (.iload_n 1, 1) := by decide +kernel
theorem dX5_putBack_64 : decode cX5_putBack 64 = .ok (.iadd, 1) := by decide +kernel
theorem dX5_putBack_65 : decode cX5_putBack 65 = .ok (.iaload, 1) := by decide +kernel
theorem dX5_putBack_66 : decode cX5_putBack 66 = .ok (.iastore, 1) := by decide +kernel
theorem dX5_putBack_67 : decode cX5_putBack 67 = .ok (.aload_n 0, 1) := by decide +kernel
theorem dX5_putBack_68 : decode cX5_putBack 68 = .ok (.getfield 35, 3) := by decide +kernel
theorem dX5_putBack_71 : decode cX5_putBack 71 = .ok (.iload_n 1, 1) := by decide +kernel
theorem dX5_putBack_72 : decode cX5_putBack 72 = .ok (.aload_n 0, 1) := by decide +kernel
theorem dX5_putBack_73 : decode cX5_putBack 73 = .ok (.getfield 50, 3) := by decide +kernel
theorem dX5_putBack_76 : decode cX5_putBack 76 = .ok (.bipush 15, 2) := by decide +kernel
theorem dX5_putBack_78 : decode cX5_putBack 78 = .ok (.iload_n 1, 1) := by decide +kernel
theorem dX5_putBack_79 : decode cX5_putBack 79 = .ok (.iadd, 1) := by decide +kernel
theorem dX5_putBack_80 : decode cX5_putBack 80 = .ok (.iaload, 1) := by decide +kernel
theorem dX5_putBack_81 : decode cX5_putBack 81 = .ok (.iastore, 1) := by decide +kernel
theorem dX5_putBack_82 : decode cX5_putBack 82 = .ok (.aload_n 0, 1) := by decide +kernel
theorem dX5_putBack_83 : decode cX5_putBack 83 = .ok (.getfield 38, 3) := by decide +kernel
theorem dX5_putBack_86 : decode cX5_putBack 86 = .ok (.iload_n 1, 1) := by decide +kernel
theorem dX5_putBack_87 : decode cX5_putBack 87 = .ok (.aload_n 0, 1) := by decide +kernel
theorem dX5_putBack_88 : decode cX5_putBack 88 = .ok (.getfield 50, 3) := by decide +kernel
theorem dX5_putBack_91 : decode cX5_putBack 91 = .ok (.bipush 21, 2) := by decide +kernel
theorem dX5_putBack_93 : decode cX5_putBack 93 = .ok (.iload_n 1, 1) := by decide +kernel
theorem dX5_putBack_94 : decode cX5_putBack 94 = .ok (.iadd, 1) := by decide +kernel
theorem dX5_putBack_95 : decode cX5_putBack 95 = .ok (.iaload, 1) := by decide +kernel
theorem dX5_putBack_96 : decode cX5_putBack 96 = .ok (.iastore, 1) := by decide +kernel
theorem dX5_putBack_97 : decode cX5_putBack 97 = .ok (.iinc 1 1, 3) := by decide +kernel
theorem dX5_putBack_100 : decode cX5_putBack 100 = .ok (.goto (-68), 3) := by decide +kernel
theorem dX5_putBack_103 : decode cX5_putBack 103 = .ok (.iconst 0, 1) := by decide +kernel
theorem dX5_putBack_104 : decode cX5_putBack 104 = .ok (.istore_n 1, 1) := by decide +kernel
theorem dX5_putBack_105 : decode cX5_putBack 105 = .ok (.iload_n 1, 1) := by decide +kernel
theorem dX5_putBack_106 : decode cX5_putBack 106 = .ok (.iconst 4, 1) := by decide +kernel
theorem dX5_putBack_107 : decode cX5_putBack 107 = .ok (.if_icmp .ge 24, 3) := by decide +kernel
theorem dX5_putBack_110 : decode cX5_putBack 110 = .ok (.aload_n 0, 1) := by decide +kernel
theorem dX5_putBack_111 : decode cX5_putBack 111 = .ok (.getfield 29, 3) := by decide +kernel
theorem dX5_putBack_114 : decode cX5_putBack 114 = .ok (.iload_n 1, 1) := by decide +kernel
theorem dX5_putBack_115 : decode cX5_putBack 115 = .ok (.aload_n 0, 1) := by decide +kernel
theorem dX5_putBack_116 : decode cX5_putBack 116 = .ok (.getfield 50, 3) := by decide +kernel
theorem dX5_putBack_119 : decode cX5_putBack 119 = .ok (.bipush 27, 2) := by decide +kernel
theorem dX5_putBack_121 : decode cX5_putBack 121 = .ok (.iload_n 1, 1) := by decide +kernel
theorem dX5_putBack_122 : decode cX5_putBack 122 = .ok (.iadd, 1) := by decide +kernel
theorem dX5_putBack_123 : decode cX5_putBack 123 = .ok (.iaload, 1) := by decide +kernel
theorem dX5_putBack_124 : decode cX5_putBack 124 = .ok (.iastore, 1) := by decide +kernel
theorem dX5_putBack_125 : decode cX5_putBack 125 = .ok (.iinc 1 1, 3) := by decide +kernel
theorem dX5_putBack_128 : decode cX5_putBack 128 = .ok (.goto (-23), 3) := by decide +kernel
theorem dX5_putBack_131 : decode cX5_putBack 131 = .ok (.return_, 1) := by decide +kernel
theorem dX5_does_0 : decode cX5_does 0 = .ok (.iload_n 2, 1) := by decide +kernel
theorem dX5_does_1 : decode cX5_does 1 = .ok (.iconst 4, 1) := by decide +kernel
theorem dX5_does_2 : decode cX5_does 2 = .ok (.if_icmp .ge 23, 3) := by decide +kernel
theorem dX5_does_5 : decode cX5_does 5 = .ok (.aload_n 0, 1) := by decide +kernel
theorem dX5_does_6 : decode cX5_does 6 = .ok (.iload_n 2, 1) := by decide +kernel
theorem dX5_does_7 : decode cX5_does 7 = .ok (.invokevirtual 145, 3) := by decide +kernel
theorem dX5_does_10 : decode cX5_does 10 = .ok (.ifCond .ne 5, 3) := by decide +kernel
theorem dX5_does_13 : decode cX5_does 13 = .ok (.iconst 0, 1) := by decide +kernel
theorem dX5_does_14 : decode cX5_does 14 = .ok (.ireturn, 1) := by decide +kernel
theorem dX5_does_15 : decode cX5_does 15 = .ok (.aload_n 0, 1) := by decide +kernel
theorem dX5_does_16 : decode cX5_does 16 = .ok (.getfield 29, 3) := by decide +kernel
theorem dX5_does_19 : decode cX5_does 19 = .ok (.iload_n 2, 1) := by decide +kernel
theorem dX5_does_20 : decode cX5_does 20 = .ok (.iload_n 1, 1) := by decide +kernel
theorem dX5_does_21 : decode cX5_does 21 = .ok (.iastore, 1) := by decide +kernel
theorem dX5_does_22 : decode cX5_does 22 = .ok (.goto 98, 3) := by decide +kernel
theorem dX5_does_25 : decode cX5_does 25 = .ok (.iload_n 2, 1) := by decide +kernel
theorem dX5_does_26 : decode cX5_does 26 = .ok (.bipush 10, 2) := by decide +kernel
theorem dX5_does_28 : decode cX5_does 28 = .ok (.if_icmp .ge 27, 3) := by decide +kernel
theorem dX5_does_31 : decode cX5_does 31 = .ok (.aload_n 0, 1) := by decide +kernel
theorem dX5_does_32 : decode cX5_does 32 = .ok (.iload_n 2, 1) := by decide +kernel
theorem dX5_does_33 : decode cX5_does 33 = .ok (.iconst 4, 1) := by decide +kernel
theorem dX5_does_34 : decode cX5_does 34 = .ok (.isub, 1) := by decide +kernel
theorem dX5_does_35 : decode cX5_does 35 = .ok (.invokevirtual 161, 3) := by decide +kernel
theorem dX5_does_38 : decode cX5_does 38 = .ok (.ifCond .ne 5, 3) := by decide +kernel
theorem dX5_does_41 : decode cX5_does 41 = .ok (.iconst 0, 1) := by decide +kernel
theorem dX5_does_42 : decode cX5_does 42 = .ok (.ireturn, 1) := by decide +kernel
theorem dX5_does_43 : decode cX5_does 43 = .ok (.aload_n 0, 1) := by decide +kernel
theorem dX5_does_44 : decode cX5_does 44 = .ok (.getfield 23, 3) := by decide +kernel
theorem dX5_does_47 : decode cX5_does 47 = .ok (.iload_n 2, 1) := by decide +kernel
theorem dX5_does_48 : decode cX5_does 48 = .ok (.iconst 4, 1) := by decide +kernel
theorem dX5_does_49 : decode cX5_does 49 = .ok (.isub, 1) := by decide +kernel
theorem dX5_does_50 : decode cX5_does 50 = .ok (.iload_n 1, 1) := by decide +kernel
theorem dX5_does_51 : decode cX5_does 51 = .ok (.iastore, 1) := by decide +kernel
theorem dX5_does_52 : decode cX5_does 52 = .ok (.goto 68, 3) := by decide +kernel
theorem dX5_does_55 : decode cX5_does 55 = .ok (.iload_n 2, 1) := by decide +kernel
theorem dX5_does_56 : decode cX5_does 56 = .ok (.bipush 10, 2) := by decide +kernel
theorem dX5_does_58 : decode cX5_does 58 = .ok (.if_icmp .ne 21, 3) := by decide +kernel
theorem dX5_does_61 : decode cX5_does 61 = .ok (.aload_n 0, 1) := by decide +kernel
theorem dX5_does_62 : decode cX5_does 62 = .ok (.iload_n 1, 1) := by decide +kernel
theorem dX5_does_63 : decode cX5_does 63 = .ok (.invokevirtual 158, 3) := by decide +kernel
theorem dX5_does_66 : decode cX5_does 66 = .ok (.ifCond .ne 5, 3) := by decide +kernel
theorem dX5_does_69 : decode cX5_does 69 = .ok (.iconst 0, 1) := by decide +kernel
theorem dX5_does_70 : decode cX5_does 70 = .ok (.ireturn, 1) := by decide +kernel
theorem dX5_does_71 : decode cX5_does 71 = .ok (.aload_n 0, 1) := by decide +kernel
theorem dX5_does_72 : decode cX5_does 72 = .ok (.iload_n 1, 1) := by decide +kernel
theorem dX5_does_73 : decode cX5_does 73 = .ok (.invokevirtual 167, 3) := by decide +kernel
theorem dX5_does_76 : decode cX5_does 76 = .ok (.goto 44, 3) := by decide +kernel
theorem dX5_does_79 : decode cX5_does 79 = .ok (.iload_n 2, 1) := by decide +kernel
theorem dX5_does_80 : decode cX5_does 80 = .ok (.bipush 17, 2) := by decide +kernel
theorem dX5_does_82 : decode cX5_does 82 = .ok (.if_icmp .ne 12, 3) := by decide +kernel
theorem dX5_does_85 : decode cX5_does 85 = .ok (.aload_n 0, 1) := by decide +kernel
theorem dX5_does_86 : decode cX5_does 86 = .ok (.bipush (-9), 2) := by decide +kernel
theorem dX5_does_88 : decode cX5_does 88 = .ok (.putfield 19, 3) := by decide +kernel
theorem dX5_does_91 : decode cX5_does 91 = .ok (.goto 29, 3) := by decide +kernel
theorem dX5_does_94 : decode cX5_does 94 = .ok (.aload_n 0, 1) := by decide +kernel
theorem dX5_does_95 : decode cX5_does 95 = .ok (.iload_n 2, 1) := by decide +kernel
theorem dX5_does_96 : decode cX5_does 96 = .ok (.bipush 11, 2) := by decide +kernel
theorem dX5_does_98 : decode cX5_does 98 = .ok (.isub, 1) := by decide +kernel
theorem dX5_does_99 : decode cX5_does 99 = .ok (.invokevirtual 161, 3) := by decide +kernel
theorem dX5_does_102 : decode cX5_does 102 = .ok (.ifCond .ne 5, 3) := by decide +kernel
theorem dX5_does_105 : decode cX5_does 105 = .ok (.iconst 0, 1) := by decide +kernel
theorem dX5_does_106 : decode cX5_does 106 = .ok (.ireturn, 1) := by decide +kernel
theorem dX5_does_107 : decode cX5_does 107 = .ok (.aload_n 0, 1) := by decide +kernel
theorem dX5_does_108 : decode cX5_does 108 = .ok (.iload_n 2, 1) := by decide +kernel
theorem dX5_does_109 : decode cX5_does 109 = .ok (.bipush 11, 2) := by decide +kernel
theorem dX5_does_111 : decode cX5_does 111 = .ok (.isub, 1) := by decide +kernel
theorem dX5_does_112 : decode cX5_does 112 = .ok (.putfield 19, 3) := by decide +kernel
theorem dX5_does_115 : decode cX5_does 115 = .ok (.aload_n 0, 1) := by decide +kernel
theorem dX5_does_116 : decode cX5_does 116 = .ok (.iload_n 1, 1) := by decide +kernel
theorem dX5_does_117 : decode cX5_does 117 = .ok (.putfield 113, 3) := by decide +kernel
theorem dX5_does_120 : decode cX5_does 120 = .ok (.iconst 1, 1) := by decide +kernel
theorem dX5_does_121 : decode cX5_does 121 = .ok (.ireturn, 1) := by decide +kernel
theorem dX5_isPair_0 : decode cX5_isPair 0 = .ok (.iload_n 1, 1) := by decide +kernel
theorem dX5_isPair_1 : decode cX5_isPair 1 = .ok (.iconst 0, 1) := by decide +kernel
theorem dX5_isPair_2 : decode cX5_isPair 2 = .ok (.bipush 17, 2) := by decide +kernel
theorem dX5_isPair_4 : decode cX5_isPair 4 = .ok (.invokestatic 67, 3) := by decide +kernel
theorem dX5_isPair_7 : decode cX5_isPair 7 = .ok (.ifCond .eq 37, 3) := by decide +kernel
theorem dX5_isPair_10 : decode cX5_isPair 10 = .ok (.iload_n 0, 1) := by decide +kernel
theorem dX5_isPair_11 : decode cX5_isPair 11 = .ok (.iconst 0, 1) := by decide +kernel
theorem dX5_isPair_12 : decode cX5_isPair 12 = .ok (.iload_n 1, 1) := by decide +kernel
theorem dX5_isPair_13 : decode cX5_isPair 13 = .ok (.bipush 10, 2) := by decide +kernel
theorem dX5_isPair_15 : decode cX5_isPair 15 = .ok (.if_icmp .ne 7, 3) := by decide +kernel
theorem dX5_isPair_18 : decode cX5_isPair 18 = .ok (.iconst 5, 1) := by decide +kernel
theorem dX5_isPair_19 : decode cX5_isPair 19 = .ok (.goto 15, 3) := by decide +kernel
theorem dX5_isPair_22 : decode cX5_isPair 22 = .ok (.iload_n 1, 1) := by decide +kernel
theorem dX5_isPair_23 : decode cX5_isPair 23 = .ok (.bipush 17, 2) := by decide +kernel
theorem dX5_isPair_25 : decode cX5_isPair 25 = .ok (.if_icmp .ne 7, 3) := by decide +kernel
theorem dX5_isPair_28 : decode cX5_isPair 28 = .ok (.iconst 0, 1) := by decide +kernel
theorem dX5_isPair_29 : decode cX5_isPair 29 = .ok (.goto 5, 3) := by decide +kernel
theorem dX5_isPair_32 : decode cX5_isPair 32 = .ok (.bipush 9, 2) := by decide +kernel
theorem dX5_isPair_34 : decode cX5_isPair 34 = .ok (.invokestatic 67, 3) := by decide +kernel
theorem dX5_isPair_37 : decode cX5_isPair 37 = .ok (.ifCond .eq 7, 3) := by decide +kernel
theorem dX5_isPair_40 : decode cX5_isPair 40 = .ok (.iconst 1, 1) := by decide +kernel
theorem dX5_isPair_41 : decode cX5_isPair 41 = .ok (.goto 4, 3) := by decide +kernel
theorem dX5_isPair_44 : decode cX5_isPair 44 = .ok (.iconst 0, 1) := by decide +kernel
theorem dX5_isPair_45 : decode cX5_isPair 45 = .ok (.ireturn, 1) := by decide +kernel
theorem dX5_goCase_0 : decode cX5_goCase 0 = .ok (.iconst 0, 1) := by decide +kernel
theorem dX5_goCase_1 : decode cX5_goCase 1 = .ok (.istore_n 3, 1) := by decide +kernel
theorem dX5_goCase_2 : decode cX5_goCase 2 = .ok (.iload_n 3, 1) := by decide +kernel
theorem dX5_goCase_3 : decode cX5_goCase 3 = .ok (.iload_n 2, 1) := by decide +kernel
theorem dX5_goCase_4 : decode cX5_goCase 4 = .ok (.if_icmp .ge 40, 3) := by decide +kernel
theorem dX5_goCase_7 : decode cX5_goCase 7 = .ok (.aload_n 0, 1) := by decide +kernel
theorem dX5_goCase_8 : decode cX5_goCase 8 = .ok (.aload_n 0, 1) := by decide +kernel
theorem dX5_goCase_9 : decode cX5_goCase 9 = .ok (.getfield 16, 3) := by decide +kernel
theorem dX5_goCase_12 : decode cX5_goCase 12 = .ok (.iload_n 1, 1) := by decide +kernel
theorem dX5_goCase_13 : decode cX5_goCase 13 = .ok (.iconst 2, 1) := by decide +kernel
theorem dX5_goCase_14 : decode cX5_goCase 14 = .ok (.iload_n 3, 1) := by decide +kernel
theorem dX5_goCase_15 : decode cX5_goCase 15 = .ok (.imul, 1) := by decide +kernel
theorem dX5_goCase_16 : decode cX5_goCase 16 = .ok (.iadd, 1) := by decide +kernel
theorem dX5_goCase_17 : decode cX5_goCase 17 = .ok (.iaload, 1) := by decide +kernel
theorem dX5_goCase_18 : decode cX5_goCase 18 = .ok (.aload_n 0, 1) := by decide +kernel
theorem dX5_goCase_19 : decode cX5_goCase 19 = .ok (.getfield 16, 3) := by decide +kernel
theorem dX5_goCase_22 : decode cX5_goCase 22 = .ok (.iload_n 1, 1) := by decide +kernel
theorem dX5_goCase_23 : decode cX5_goCase 23 = .ok (.iconst 2, 1) := by decide +kernel
theorem dX5_goCase_24 : decode cX5_goCase 24 = .ok (.iload_n 3, 1) := by decide +kernel
theorem dX5_goCase_25 : decode cX5_goCase 25 = .ok (.imul, 1) := by decide +kernel
theorem dX5_goCase_26 : decode cX5_goCase 26 = .ok (.iadd, 1) := by decide +kernel
theorem dX5_goCase_27 : decode cX5_goCase 27 = .ok (.iconst 1, 1) := by decide +kernel
theorem dX5_goCase_28 : decode cX5_goCase 28 = .ok (.iadd, 1) := by decide +kernel
theorem dX5_goCase_29 : decode cX5_goCase 29 = .ok (.iaload, 1) := by decide +kernel
theorem dX5_goCase_30 : decode cX5_goCase 30 = .ok (.invokevirtual 174, 3) := by decide +kernel
theorem dX5_goCase_33 : decode cX5_goCase 33 = .ok (.ifCond .ne 5, 3) := by decide +kernel
theorem dX5_goCase_36 : decode cX5_goCase 36 = .ok (.iload_n 3, 1) := by decide +kernel
theorem dX5_goCase_37 : decode cX5_goCase 37 = .ok (.ireturn, 1) := by decide +kernel
theorem dX5_goCase_38 : decode cX5_goCase 38 = .ok (.iinc 3 1, 3) := by decide +kernel
theorem dX5_goCase_41 : decode cX5_goCase 41 = .ok (.goto (-39), 3) := by decide +kernel
theorem dX5_goCase_44 : decode cX5_goCase 44 = .ok (.bipush (-9), 2) := by decide +kernel
theorem dX5_goCase_46 : decode cX5_goCase 46 = .ok (.ireturn, 1) := by decide +kernel
theorem dX5_trial_0 : decode cX5_trial 0 = .ok (.aload_n 0, 1) := by decide +kernel
theorem dX5_trial_1 : decode cX5_trial 1 = .ok (.iconst 0, 1) := by decide +kernel
theorem dX5_trial_2 : decode cX5_trial 2 = .ok (.putfield 62, 3) := by decide +kernel
theorem dX5_trial_5 : decode cX5_trial 5 = .ok (.iload_n 1, 1) := by decide +kernel
theorem dX5_trial_6 : decode cX5_trial 6 = .ok (.invokestatic 83, 3) := by decide +kernel
theorem dX5_trial_9 : decode cX5_trial 9 = .ok (.ifCond .ne 5, 3) := by decide +kernel
theorem dX5_trial_12 : decode cX5_trial 12 = .ok (.iconst (-1), 1) := by decide +kernel
theorem dX5_trial_13 : decode cX5_trial 13 = .ok (.ireturn, 1) := by decide +kernel
theorem dX5_trial_14 : decode cX5_trial 14 = .ok (.iload_n 2, 1) := by decide +kernel
theorem dX5_trial_15 : decode cX5_trial 15 = .ok (.invokestatic 87, 3) := by decide +kernel
theorem dX5_trial_18 : decode cX5_trial 18 = .ok (.ifCond .eq 36, 3) := by decide +kernel
theorem dX5_trial_21 : decode cX5_trial 21 = .ok (.iload 4, 2) := by decide +kernel
theorem dX5_trial_23 : decode cX5_trial 23 = .ok (.iconst 0, 1) := by decide +kernel
theorem dX5_trial_24 : decode cX5_trial 24 = .ok (.bipush 20, 2) := by decide +kernel
theorem dX5_trial_26 : decode cX5_trial 26 = .ok (.invokestatic 67, 3) := by decide +kernel
theorem dX5_trial_29 : decode cX5_trial 29 = .ok (.ifCond .eq 25, 3) := by decide +kernel
theorem dX5_trial_32 : decode cX5_trial 32 = .ok (.iload 5, 2) := by decide +kernel
theorem dX5_trial_34 : decode cX5_trial 34 = .ok (.iconst 0, 1) := by decide +kernel
theorem dX5_trial_35 : decode cX5_trial 35 = .ok (.iconst 4, 1) := by decide +kernel
theorem dX5_trial_36 : decode cX5_trial 36 = .ok (.invokestatic 67, 3) := by decide +kernel
theorem dX5_trial_39 : decode cX5_trial 39 = .ok (.ifCond .ne 18, 3) := by decide +kernel
theorem dX5_trial_42 : decode cX5_trial 42 = .ok (.iload 5, 2) := by decide +kernel
theorem dX5_trial_44 : decode cX5_trial 44 = .ok (.bipush 10, 2) := by decide +kernel
theorem dX5_trial_46 : decode cX5_trial 46 = .ok (.bipush 13, 2) := by decide +kernel
theorem dX5_trial_48 : decode cX5_trial 48 = .ok (.invokestatic 67, 3) := by decide +kernel
theorem dX5_trial_51 : decode cX5_trial 51 = .ok (.ifCond .ne 6, 3) := by decide +kernel
theorem dX5_trial_54 : decode cX5_trial 54 = .ok (.bipush (-2), 2) := by decide +kernel
theorem dX5_trial_56 : decode cX5_trial 56 = .ok (.ireturn, 1) := by decide +kernel
theorem dX5_trial_57 : decode cX5_trial 57 = .ok (.aload_n 0, 1) := by decide +kernel
theorem dX5_trial_58 : decode cX5_trial 58 = .ok (.iload_n 1, 1) := by decide +kernel
theorem dX5_trial_59 : decode cX5_trial 59 = .ok (.iload_n 2, 1) := by decide +kernel
theorem dX5_trial_60 : decode cX5_trial 60 = .ok (.iload_n 3, 1) := by decide +kernel
theorem dX5_trial_61 : decode cX5_trial 61 = .ok (.iconst 2, 1) := by decide +kernel
theorem dX5_trial_62 : decode cX5_trial 62 = .ok (.iload 4, 2) := by decide +kernel
theorem dX5_trial_64 : decode cX5_trial 64 = .ok (.imul, 1) := by decide +kernel
theorem dX5_trial_65 : decode cX5_trial 65 = .ok (.invokevirtual 90, 3) := by decide +kernel
theorem dX5_trial_68 : decode cX5_trial 68 = .ok (.istore 6, 2) := by decide +kernel
theorem dX5_trial_70 : decode cX5_trial 70 = .ok (.iload 6, 2) := by decide +kernel
theorem dX5_trial_72 : decode cX5_trial 72 = .ok (.ifCond .eq 10, 3) := by decide +kernel
theorem dX5_trial_75 : decode cX5_trial 75 = .ok (.aload_n 0, 1) := by decide +kernel
theorem dX5_trial_76 : decode cX5_trial 76 = .ok (.iload 6, 2) := by decide +kernel
theorem dX5_trial_78 : decode cX5_trial 78 = .ok (.invokevirtual 94, 3) := by decide +kernel
theorem dX5_trial_81 : decode cX5_trial 81 = .ok (.ireturn, 1) := by decide +kernel
theorem dX5_trial_82 : decode cX5_trial 82 = .ok (.aload_n 0, 1) := by decide +kernel
theorem dX5_trial_83 : decode cX5_trial 83 = .ok (.getfield 71, 3) := by decide +kernel
theorem dX5_trial_86 : decode cX5_trial 86 = .ok (.ifCond .ne 6, 3) := by decide +kernel
theorem dX5_trial_89 : decode cX5_trial 89 = .ok (.bipush (-3), 2) := by decide +kernel
theorem dX5_trial_91 : decode cX5_trial 91 = .ok (.ireturn, 1) := by decide +kernel
theorem dX5_trial_92 : decode cX5_trial 92 = .ok (.bipush 60, 2) := by decide +kernel
theorem dX5_trial_94 : decode cX5_trial 94 = .ok (.iload_n 1, 1) := by decide +kernel
theorem dX5_trial_95 : decode cX5_trial 95 = .ok (.imul, 1) := by decide +kernel
theorem dX5_trial_96 : decode cX5_trial 96 = .ok (.iload_n 3, 1) := by decide +kernel
theorem dX5_trial_97 : decode cX5_trial 97 = .ok (.iadd, 1) := by decide +kernel
theorem dX5_trial_98 : decode cX5_trial 98 = .ok (.istore 7, 2) := by decide +kernel
theorem dX5_trial_100 : decode cX5_trial 100 = .ok (.iconst 0, 1) := by decide +kernel
theorem dX5_trial_101 : decode cX5_trial 101 = .ok (.istore 8, 2) := by decide +kernel
theorem dX5_trial_103 : decode cX5_trial 103 = .ok (.iload 8, 2) := by decide +kernel
theorem dX5_trial_105 : decode cX5_trial 105 = .ok (.iload 4, 2) := by decide +kernel
theorem dX5_trial_107 : decode cX5_trial 107 = .ok (.if_icmp .ge 44, 3) := by decide +kernel
theorem dX5_trial_110 : decode cX5_trial 110 = .ok (.aload_n 0, 1) := by decide +kernel
theorem dX5_trial_111 : decode cX5_trial 111 = .ok (.getfield 16, 3) := by decide +kernel
theorem dX5_trial_114 : decode cX5_trial 114 = .ok (.iload 7, 2) := by decide +kernel
theorem dX5_trial_116 : decode cX5_trial 116 = .ok (.iconst 2, 1) := by decide +kernel
theorem dX5_trial_117 : decode cX5_trial 117 = .ok (.iload 8, 2) := by decide +kernel
theorem dX5_trial_119 : decode cX5_trial 119 = .ok (.imul, 1) := by decide +kernel
theorem dX5_trial_120 : decode cX5_trial 120 = .ok (.iadd, 1) := by decide +kernel
theorem dX5_trial_121 : decode cX5_trial 121 = .ok (.iaload, 1) := by decide +kernel
theorem dX5_trial_122 : decode cX5_trial 122 = .ok (.aload_n 0, 1) := by decide +kernel
theorem dX5_trial_123 : decode cX5_trial 123 = .ok (.getfield 16, 3) := by decide +kernel
theorem dX5_trial_126 : decode cX5_trial 126 = .ok (.iload 7, 2) := by decide +kernel
theorem dX5_trial_128 : decode cX5_trial 128 = .ok (.iconst 2, 1) := by decide +kernel
theorem dX5_trial_129 : decode cX5_trial 129 = .ok (.iload 8, 2) := by decide +kernel
theorem dX5_trial_131 : decode cX5_trial 131 = .ok (.imul, 1) := by decide +kernel
theorem dX5_trial_132 : decode cX5_trial 132 = .ok (.iadd, 1) := by decide +kernel
theorem dX5_trial_133 : decode cX5_trial 133 = .ok (.iconst 1, 1) := by decide +kernel
theorem dX5_trial_134 : decode cX5_trial 134 = .ok (.iadd, 1) := by decide +kernel
theorem dX5_trial_135 : decode cX5_trial 135 = .ok (.iaload, 1) := by decide +kernel
theorem dX5_trial_136 : decode cX5_trial 136 = .ok (.invokestatic 177, 3) := by decide +kernel
theorem dX5_trial_139 : decode cX5_trial 139 = .ok (.ifCond .ne 6, 3) := by decide +kernel
theorem dX5_trial_142 : decode cX5_trial 142 = .ok (.bipush (-2), 2) := by decide +kernel
theorem dX5_trial_144 : decode cX5_trial 144 = .ok (.ireturn, 1) := by decide +kernel
theorem dX5_trial_145 : decode cX5_trial 145 = .ok (.iinc 8 1, 3) := by decide +kernel
theorem dX5_trial_148 : decode cX5_trial 148 = .ok (.goto (-45), 3) := by decide +kernel
theorem dX5_trial_151 : decode cX5_trial 151 = .ok (.aload_n 0, 1) := by decide +kernel
theorem dX5_trial_152 : decode cX5_trial 152 = .ok (.invokevirtual 180, 3) := by decide +kernel
theorem dX5_trial_155 : decode cX5_trial 155 = .ok (.aload_n 0, 1) := by decide +kernel
theorem dX5_trial_156 : decode cX5_trial 156 = .ok (.iload 7, 2) := by decide +kernel
theorem dX5_trial_158 : decode cX5_trial 158 = .ok (.iload 4, 2) := by decide +kernel
theorem dX5_trial_160 : decode cX5_trial 160 = .ok (.invokevirtual 183, 3) := by decide +kernel
theorem dX5_trial_163 : decode cX5_trial 163 = .ok (.istore 8, 2) := by decide +kernel
theorem dX5_trial_165 : decode cX5_trial 165 = .ok (.aload_n 0, 1) := by decide +kernel
theorem dX5_trial_166 : decode cX5_trial 166 = .ok (.iload 5, 2) := by decide +kernel
theorem dX5_trial_168 : decode cX5_trial 168 = .ok (.invokevirtual 186, 3) := by decide +kernel
theorem dX5_trial_171 : decode cX5_trial 171 = .ok (.istore 9, 2) := by decide +kernel
theorem dX5_trial_173 : decode cX5_trial 173 = .ok (.aload_n 0, 1) := by decide +kernel
theorem dX5_trial_174 : decode cX5_trial 174 = .ok (.invokevirtual 189, 3) := by decide +kernel
theorem dX5_trial_177 : decode cX5_trial 177 = .ok (.iload 5, 2) := by decide +kernel
theorem dX5_trial_179 : decode cX5_trial 179 = .ok (.iconst 1, 1) := by decide +kernel
theorem dX5_trial_180 : decode cX5_trial 180 = .ok (.if_icmp .ne 8, 3) := by decide +kernel
theorem dX5_trial_183 : decode cX5_trial 183 = .ok (.iload 8, 2) := by decide +kernel
theorem dX5_trial_185 : decode cX5_trial 185 = .ok (.goto 20, 3) := by decide +kernel
theorem dX5_trial_188 : decode cX5_trial 188 = .ok (.iload 8, 2) := by decide +kernel
theorem dX5_trial_190 : decode cX5_trial 190 = .ok (.bipush (-9), 2) := by decide +kernel
theorem dX5_trial_192 : decode cX5_trial 192 = .ok (.if_icmp .ne 8, 3) := by decide +kernel
theorem dX5_trial_195 : decode cX5_trial 195 = .ok (.iload 9, 2) := by decide +kernel
theorem dX5_trial_197 : decode cX5_trial 197 = .ok (.goto 8, 3) := by decide +kernel
theorem dX5_trial_200 : decode cX5_trial 200 = .ok (.bipush (-100), 2) := by decide +kernel
theorem dX5_trial_202 : decode cX5_trial 202 = .ok (.iload 8, 2) := by decide +kernel
theorem dX5_trial_204 : decode cX5_trial 204 = .ok (.isub, 1) := by decide +kernel
theorem dX5_trial_205 : decode cX5_trial 205 = .ok (.ireturn, 1) := by decide +kernel
theorem dX5_tellCase_0 : decode cX5_tellCase 0 = .ok (.iload_n 1, 1) := by decide +kernel
theorem dX5_tellCase_1 : decode cX5_tellCase 1 = .ok (.bipush 10, 2) := by decide +kernel
theorem dX5_tellCase_3 : decode cX5_tellCase 3 = .ok (.if_icmp .lt 28, 3) := by decide +kernel
theorem dX5_tellCase_6 : decode cX5_tellCase 6 = .ok (.aload_n 0, 1) := by decide +kernel
theorem dX5_tellCase_7 : decode cX5_tellCase 7 = .ok (.iload_n 1, 1) := by decide +kernel
theorem dX5_tellCase_8 : decode cX5_tellCase 8 = .ok (.bipush 10, 2) := by decide +kernel
theorem dX5_tellCase_10 : decode cX5_tellCase 10 = .ok (.isub, 1) := by decide +kernel
theorem dX5_tellCase_11 : decode cX5_tellCase 11 = .ok (.invokevirtual 145, 3) := by decide +kernel
theorem dX5_tellCase_14 : decode cX5_tellCase 14 = .ok (.ifCond .eq 14, 3) := by decide +kernel
theorem dX5_tellCase_17 : decode cX5_tellCase 17 = .ok (.aload_n 0, 1) := by decide +kernel
theorem dX5_tellCase_18 : decode cX5_tellCase 18 = .ok (.iload_n 1, 1) := by decide +kernel
theorem dX5_tellCase_19 : decode cX5_tellCase 19 = .ok (.bipush 10, 2) := by decide +kernel
theorem dX5_tellCase_21 : decode cX5_tellCase 21 = .ok (.isub, 1) := by decide +kernel
theorem dX5_tellCase_22 : decode cX5_tellCase 22 = .ok (.invokevirtual 148, 3) := by decide +kernel
theorem dX5_tellCase_25 : decode cX5_tellCase 25 = .ok (.goto 5, 3) := by decide +kernel
theorem dX5_tellCase_28 : decode cX5_tellCase 28 = .ok (.bipush (-9), 2) := by decide +kernel
theorem dX5_tellCase_30 : decode cX5_tellCase 30 = .ok (.ireturn, 1) := by decide +kernel
theorem dX5_tellCase_31 : decode cX5_tellCase 31 = .ok (.iload_n 1, 1) := by decide +kernel
theorem dX5_tellCase_32 : decode cX5_tellCase 32 = .ok (.tableswitch 73 0 3 #[32, 73, 37, 42], 32) := by decide +kernel
theorem dX5_tellCase_64 : decode cX5_tellCase 64 = .ok (.aload_n 0, 1) := by decide +kernel
theorem dX5_tellCase_65 : decode cX5_tellCase 65 = .ok (.invokevirtual 154, 3) := by decide +kernel
theorem dX5_tellCase_68 : decode cX5_tellCase 68 = .ok (.ireturn, 1) := by decide +kernel
theorem dX5_tellCase_69 : decode cX5_tellCase 69 = .ok (.aload_n 0, 1) := by decide +kernel
theorem dX5_tellCase_70 : decode cX5_tellCase 70 = .ok (.getfield 77, 3) := by decide +kernel
theorem dX5_tellCase_73 : decode cX5_tellCase 73 = .ok (.ireturn, 1) := by decide +kernel
theorem dX5_tellCase_74 : decode cX5_tellCase 74 = .ok (.iconst 0, 1) := by decide +kernel
theorem dX5_tellCase_75 : decode cX5_tellCase 75 = .ok (.istore_n 2, 1) := by decide +kernel
theorem dX5_tellCase_76 : decode cX5_tellCase 76 = .ok (.iconst 0, 1) := by decide +kernel
theorem dX5_tellCase_77 : decode cX5_tellCase 77 = .ok (.istore_n 3, 1) := by decide +kernel
theorem dX5_tellCase_78 : decode cX5_tellCase 78 = .ok (.iload_n 3, 1) := by decide +kernel
theorem dX5_tellCase_79 : decode cX5_tellCase 79 = .ok (.aload_n 0, 1) := by decide +kernel
theorem dX5_tellCase_80 : decode cX5_tellCase 80 = .ok (.getfield 71, 3) := by decide +kernel
theorem dX5_tellCase_83 : decode cX5_tellCase 83 = .ok (.if_icmp .ge 20, 3) := by decide +kernel
theorem dX5_tellCase_86 : decode cX5_tellCase 86 = .ok (.iload_n 2, 1) := by decide +kernel
theorem dX5_tellCase_87 : decode cX5_tellCase 87 = .ok (.aload_n 0, 1) := by decide +kernel
theorem dX5_tellCase_88 : decode cX5_tellCase 88 = .ok (.iload_n 3, 1) := by decide +kernel
theorem dX5_tellCase_89 : decode cX5_tellCase 89 = .ok (.invokevirtual 164, 3) := by decide +kernel
theorem dX5_tellCase_92 : decode cX5_tellCase 92 = .ok (.invokestatic 171, 3) := by decide +kernel
theorem dX5_tellCase_95 : decode cX5_tellCase 95 = .ok (.iadd, 1) := by decide +kernel
theorem dX5_tellCase_96 : decode cX5_tellCase 96 = .ok (.istore_n 2, 1) := by decide +kernel
theorem dX5_tellCase_97 : decode cX5_tellCase 97 = .ok (.iinc 3 1, 3) := by decide +kernel
theorem dX5_tellCase_100 : decode cX5_tellCase 100 = .ok (.goto (-22), 3) := by decide +kernel
theorem dX5_tellCase_103 : decode cX5_tellCase 103 = .ok (.iload_n 2, 1) := by decide +kernel
theorem dX5_tellCase_104 : decode cX5_tellCase 104 = .ok (.ireturn, 1) := by decide +kernel
theorem dX5_tellCase_105 : decode cX5_tellCase 105 = .ok (.aload_n 0, 1) := by decide +kernel
theorem dX5_tellCase_106 : decode cX5_tellCase 106 = .ok (.invokevirtual 192, 3) := by decide +kernel
theorem dX5_tellCase_109 : decode cX5_tellCase 109 = .ok (.invokestatic 171, 3) := by decide +kernel
theorem dX5_tellCase_112 : decode cX5_tellCase 112 = .ok (.ireturn, 1) := by decide +kernel
theorem dX5_boundBy_0 : decode cX5_boundBy 0 = .ok (.iconst 0, 1) := by decide +kernel
theorem dX5_boundBy_1 : decode cX5_boundBy 1 = .ok (.istore_n 3, 1) := by decide +kernel
theorem dX5_boundBy_2 : decode cX5_boundBy 2 = .ok (.iconst 0, 1) := by decide +kernel
theorem dX5_boundBy_3 : decode cX5_boundBy 3 = .ok (.istore 4, 2) := by decide +kernel
theorem dX5_boundBy_5 : decode cX5_boundBy 5 = .ok (.iload 4, 2) := by decide +kernel
theorem dX5_boundBy_7 : decode cX5_boundBy 7 = .ok (.aload_n 0, 1) := by decide +kernel
theorem dX5_boundBy_8 : decode cX5_boundBy 8 = .ok (.getfield 77, 3) := by decide +kernel
theorem dX5_boundBy_11 : decode cX5_boundBy 11 = .ok (.if_icmp .ge 48, 3) := by decide +kernel
theorem dX5_boundBy_14 : decode cX5_boundBy 14 = .ok (.iload_n 3, 1) := by decide +kernel
theorem dX5_boundBy_15 : decode cX5_boundBy 15 = .ok (.iload_n 2, 1) := by decide +kernel
theorem dX5_boundBy_16 : decode cX5_boundBy 16 = .ok (.iload 4, 2) := by decide +kernel
theorem dX5_boundBy_18 : decode cX5_boundBy 18 = .ok (.invokestatic 195, 3) := by decide +kernel
theorem dX5_boundBy_21 : decode cX5_boundBy 21 = .ok (.ifCond .eq 29, 3) := by decide +kernel
theorem dX5_boundBy_24 : decode cX5_boundBy 24 = .ok (.iload_n 1, 1) := by decide +kernel
theorem dX5_boundBy_25 : decode cX5_boundBy 25 = .ok (.aload_n 0, 1) := by decide +kernel
theorem dX5_boundBy_26 : decode cX5_boundBy 26 = .ok (.getfield 32, 3) := by decide +kernel
theorem dX5_boundBy_29 : decode cX5_boundBy 29 = .ok (.iload 4, 2) := by decide +kernel
theorem dX5_boundBy_31 : decode cX5_boundBy 31 = .ok (.iaload, 1) := by decide +kernel
theorem dX5_boundBy_32 : decode cX5_boundBy 32 = .ok (.invokestatic 195, 3) := by decide +kernel
theorem dX5_boundBy_35 : decode cX5_boundBy 35 = .ok (.ifCond .eq 15, 3) := by decide +kernel
theorem dX5_boundBy_38 : decode cX5_boundBy 38 = .ok (.iconst 1, 1) := by decide +kernel
theorem dX5_boundBy_39 : decode cX5_boundBy 39 = .ok (.aload_n 0, 1) := by decide +kernel
theorem dX5_boundBy_40 : decode cX5_boundBy 40 = .ok (.getfield 35, 3) := by decide +kernel
theorem dX5_boundBy_43 : decode cX5_boundBy 43 = .ok (.iload 4, 2) := by decide +kernel
theorem dX5_boundBy_45 : decode cX5_boundBy 45 = .ok (.iaload, 1) := by decide +kernel
theorem dX5_boundBy_46 : decode cX5_boundBy 46 = .ok (.ishl, 1) := by decide +kernel
theorem dX5_boundBy_47 : decode cX5_boundBy 47 = .ok (.goto 4, 3) := by decide +kernel
theorem dX5_boundBy_50 : decode cX5_boundBy 50 = .ok (.iconst 0, 1) := by decide +kernel
theorem dX5_boundBy_51 : decode cX5_boundBy 51 = .ok (.ior, 1) := by decide +kernel
theorem dX5_boundBy_52 : decode cX5_boundBy 52 = .ok (.istore_n 3, 1) := by decide +kernel
theorem dX5_boundBy_53 : decode cX5_boundBy 53 = .ok (.iinc 4 1, 3) := by decide +kernel
theorem dX5_boundBy_56 : decode cX5_boundBy 56 = .ok (.goto (-51), 3) := by decide +kernel
theorem dX5_boundBy_59 : decode cX5_boundBy 59 = .ok (.iload_n 3, 1) := by decide +kernel
theorem dX5_boundBy_60 : decode cX5_boundBy 60 = .ok (.ireturn, 1) := by decide +kernel
theorem dX5_boundOf_0 : decode cX5_boundOf 0 = .ok (.iconst 0, 1) := by decide +kernel
theorem dX5_boundOf_1 : decode cX5_boundOf 1 = .ok (.istore 4, 2) := by decide +kernel
theorem dX5_boundOf_3 : decode cX5_boundOf 3 = .ok (.iconst 1, 1) := by decide +kernel
theorem dX5_boundOf_4 : decode cX5_boundOf 4 = .ok (.iload_n 1, 1) := by decide +kernel
theorem dX5_boundOf_5 : decode cX5_boundOf 5 = .ok (.ishl, 1) := by decide +kernel
theorem dX5_boundOf_6 : decode cX5_boundOf 6 = .ok (.istore 5, 2) := by decide +kernel
theorem dX5_boundOf_8 : decode cX5_boundOf 8 = .ok (.iconst 1, 1) := by decide +kernel
theorem dX5_boundOf_9 : decode cX5_boundOf 9 = .ok (.istore 6, 2) := by decide +kernel
theorem dX5_boundOf_11 : decode cX5_boundOf 11 = .ok (.iload 6, 2) := by decide +kernel
theorem dX5_boundOf_13 : decode cX5_boundOf 13 = .ok (.iconst 4, 1) := by decide +kernel
theorem dX5_boundOf_14 : decode cX5_boundOf 14 = .ok (.if_icmp .gt 37, 3) := by decide +kernel
theorem dX5_boundOf_17 : decode cX5_boundOf 17 = .ok (.aload_n 0, 1) := by decide +kernel
theorem dX5_boundOf_18 : decode cX5_boundOf 18 = .ok (.iload 5, 2) := by decide +kernel
theorem dX5_boundOf_20 : decode cX5_boundOf 20 = .ok (.iload_n 3, 1) := by decide +kernel
theorem dX5_boundOf_21 : decode cX5_boundOf 21 = .ok (.invokevirtual 198, 3) := by decide +kernel
theorem dX5_boundOf_24 : decode cX5_boundOf 24 = .ok (.istore 5, 2) := by decide +kernel
theorem dX5_boundOf_26 : decode cX5_boundOf 26 = .ok (.iload 4, 2) := by decide +kernel
theorem dX5_boundOf_28 : decode cX5_boundOf 28 = .ok (.iload 5, 2) := by decide +kernel
theorem dX5_boundOf_30 : decode cX5_boundOf 30 = .ok (.ior, 1) := by decide +kernel
theorem dX5_boundOf_31 : decode cX5_boundOf 31 = .ok (.istore 4, 2) := by decide +kernel
theorem dX5_boundOf_33 : decode cX5_boundOf 33 = .ok (.iload 4, 2) := by decide +kernel
theorem dX5_boundOf_35 : decode cX5_boundOf 35 = .ok (.iload_n 2, 1) := by decide +kernel
theorem dX5_boundOf_36 : decode cX5_boundOf 36 = .ok (.invokestatic 195, 3) := by decide +kernel
theorem dX5_boundOf_39 : decode cX5_boundOf 39 = .ok (.ifCond .eq 6, 3) := by decide +kernel
theorem dX5_boundOf_42 : decode cX5_boundOf 42 = .ok (.iload 6, 2) := by decide +kernel
theorem dX5_boundOf_44 : decode cX5_boundOf 44 = .ok (.ireturn, 1) := by decide +kernel
theorem dX5_boundOf_45 : decode cX5_boundOf 45 = .ok (.iinc 6 1, 3) := by decide +kernel
theorem dX5_boundOf_48 : decode cX5_boundOf 48 = .ok (.goto (-37), 3) := by decide +kernel
end
section
theorem dX5_boundOf_51 : decode cX5_boundOf 51 = .ok (.bipush (-9), 2) := by decide +kernel
theorem dX5_boundOf_53 : decode cX5_boundOf 53 = .ok (.ireturn, 1) := by decide +kernel
theorem dX5_bound_0 : decode cX5_bound 0 = .ok (.aload_n 0, 1) := by decide +kernel
theorem dX5_bound_1 : decode cX5_bound 1 = .ok (.iload_n 1, 1) := by decide +kernel
theorem dX5_bound_2 : decode cX5_bound 2 = .ok (.invokevirtual 145, 3) := by decide +kernel
theorem dX5_bound_5 : decode cX5_bound 5 = .ok (.ifCond .eq 24, 3) := by decide +kernel
theorem dX5_bound_8 : decode cX5_bound 8 = .ok (.aload_n 0, 1) := by decide +kernel
theorem dX5_bound_9 : decode cX5_bound 9 = .ok (.iload_n 2, 1) := by decide +kernel
theorem dX5_bound_10 : decode cX5_bound 10 = .ok (.invokevirtual 145, 3) := by decide +kernel
theorem dX5_bound_13 : decode cX5_bound 13 = .ok (.ifCond .eq 16, 3) := by decide +kernel
theorem dX5_bound_16 : decode cX5_bound 16 = .ok (.aload_n 0, 1) := by decide +kernel
theorem dX5_bound_17 : decode cX5_bound 17 = .ok (.iload_n 1, 1) := by decide +kernel
theorem dX5_bound_18 : decode cX5_bound 18 = .ok (.iload_n 2, 1) := by decide +kernel
theorem dX5_bound_19 : decode cX5_bound 19 = .ok (.aload_n 0, 1) := by decide +kernel
theorem dX5_bound_20 : decode cX5_bound 20 = .ok (.invokevirtual 154, 3) := by decide +kernel
theorem dX5_bound_23 : decode cX5_bound 23 = .ok (.invokevirtual 201, 3) := by decide +kernel
theorem dX5_bound_26 : decode cX5_bound 26 = .ok (.goto 4, 3) := by decide +kernel
theorem dX5_bound_29 : decode cX5_bound 29 = .ok (.iconst (-1), 1) := by decide +kernel
theorem dX5_bound_30 : decode cX5_bound 30 = .ok (.ireturn, 1) := by decide +kernel
theorem dX5_areThere_0 : decode cX5_areThere 0 = .ok (.iload_n 1, 1) := by decide +kernel
theorem dX5_areThere_1 : decode cX5_areThere 1 = .ok (.iconst 1, 1) := by decide +kernel
theorem dX5_areThere_2 : decode cX5_areThere 2 = .ok (.aload_n 0, 1) := by decide +kernel
theorem dX5_areThere_3 : decode cX5_areThere 3 = .ok (.getfield 74, 3) := by decide +kernel
theorem dX5_areThere_6 : decode cX5_areThere 6 = .ok (.ishl, 1) := by decide +kernel
theorem dX5_areThere_7 : decode cX5_areThere 7 = .ok (.iconst 1, 1) := by decide +kernel
theorem dX5_areThere_8 : decode cX5_areThere 8 = .ok (.isub, 1) := by decide +kernel
theorem dX5_areThere_9 : decode cX5_areThere 9 = .ok (.iconst (-1), 1) := by decide +kernel
theorem dX5_areThere_10 : decode cX5_areThere 10 = .ok (.ixor, 1) := by decide +kernel
theorem dX5_areThere_11 : decode cX5_areThere 11 = .ok (.iand, 1) := by decide +kernel
theorem dX5_areThere_12 : decode cX5_areThere 12 = .ok (.ifCond .ne 7, 3) := by decide +kernel
theorem dX5_areThere_15 : decode cX5_areThere 15 = .ok (.iconst 1, 1) := by decide +kernel
theorem dX5_areThere_16 : decode cX5_areThere 16 = .ok (.goto 4, 3) := by decide +kernel
theorem dX5_areThere_19 : decode cX5_areThere 19 = .ok (.iconst 0, 1) := by decide +kernel
theorem dX5_areThere_20 : decode cX5_areThere 20 = .ok (.ireturn, 1) := by decide +kernel
theorem dX5_together_0 : decode cX5_together 0 = .ok (.iload_n 1, 1) := by decide +kernel
theorem dX5_together_1 : decode cX5_together 1 = .ok (.iconst 0, 1) := by decide +kernel
theorem dX5_together_2 : decode cX5_together 2 = .ok (.bipush 15, 2) := by decide +kernel
theorem dX5_together_4 : decode cX5_together 4 = .ok (.invokestatic 67, 3) := by decide +kernel
theorem dX5_together_7 : decode cX5_together 7 = .ok (.ifCond .ne 6, 3) := by decide +kernel
theorem dX5_together_10 : decode cX5_together 10 = .ok (.bipush (-2), 2) := by decide +kernel
theorem dX5_together_12 : decode cX5_together 12 = .ok (.ireturn, 1) := by decide +kernel
theorem dX5_together_13 : decode cX5_together 13 = .ok (.aload_n 0, 1) := by decide +kernel
theorem dX5_together_14 : decode cX5_together 14 = .ok (.getfield 71, 3) := by decide +kernel
theorem dX5_together_17 : decode cX5_together 17 = .ok (.ifCond .ne 6, 3) := by decide +kernel
theorem dX5_together_20 : decode cX5_together 20 = .ok (.bipush (-3), 2) := by decide +kernel
theorem dX5_together_22 : decode cX5_together 22 = .ok (.ireturn, 1) := by decide +kernel
theorem dX5_together_23 : decode cX5_together 23 = .ok (.aload_n 0, 1) := by decide +kernel
theorem dX5_together_24 : decode cX5_together 24 = .ok (.iload_n 1, 1) := by decide +kernel
theorem dX5_together_25 : decode cX5_together 25 = .ok (.invokevirtual 205, 3) := by decide +kernel
theorem dX5_together_28 : decode cX5_together 28 = .ok (.ifCond .ne 5, 3) := by decide +kernel
theorem dX5_together_31 : decode cX5_together 31 = .ok (.iconst (-1), 1) := by decide +kernel
theorem dX5_together_32 : decode cX5_together 32 = .ok (.ireturn, 1) := by decide +kernel
theorem dX5_together_33 : decode cX5_together 33 = .ok (.iconst 0, 1) := by decide +kernel
theorem dX5_together_34 : decode cX5_together 34 = .ok (.istore_n 2, 1) := by decide +kernel
theorem dX5_together_35 : decode cX5_together 35 = .ok (.iload_n 2, 1) := by decide +kernel
theorem dX5_together_36 : decode cX5_together 36 = .ok (.aload_n 0, 1) := by decide +kernel
theorem dX5_together_37 : decode cX5_together 37 = .ok (.getfield 71, 3) := by decide +kernel
theorem dX5_together_40 : decode cX5_together 40 = .ok (.if_icmp .ge 22, 3) := by decide +kernel
theorem dX5_together_43 : decode cX5_together 43 = .ok (.aload_n 0, 1) := by decide +kernel
theorem dX5_together_44 : decode cX5_together 44 = .ok (.iload_n 2, 1) := by decide +kernel
theorem dX5_together_45 : decode cX5_together 45 = .ok (.invokevirtual 164, 3) := by decide +kernel
theorem dX5_together_48 : decode cX5_together 48 = .ok (.iload_n 1, 1) := by decide +kernel
theorem dX5_together_49 : decode cX5_together 49 = .ok (.iand, 1) := by decide +kernel
theorem dX5_together_50 : decode cX5_together 50 = .ok (.iload_n 1, 1) := by decide +kernel
theorem dX5_together_51 : decode cX5_together 51 = .ok (.if_icmp .ne 5, 3) := by decide +kernel
theorem dX5_together_54 : decode cX5_together 54 = .ok (.iload_n 2, 1) := by decide +kernel
theorem dX5_together_55 : decode cX5_together 55 = .ok (.ireturn, 1) := by decide +kernel
theorem dX5_together_56 : decode cX5_together 56 = .ok (.iinc 2 1, 3) := by decide +kernel
theorem dX5_together_59 : decode cX5_together 59 = .ok (.goto (-24), 3) := by decide +kernel
theorem dX5_together_62 : decode cX5_together 62 = .ok (.bipush (-9), 2) := by decide +kernel
theorem dX5_together_64 : decode cX5_together 64 = .ok (.ireturn, 1) := by decide +kernel
theorem dX5_coated_0 : decode cX5_coated 0 = .ok (.iload_n 1, 1) := by decide +kernel
theorem dX5_coated_1 : decode cX5_coated 1 = .ok (.iconst 0, 1) := by decide +kernel
theorem dX5_coated_2 : decode cX5_coated 2 = .ok (.bipush 15, 2) := by decide +kernel
theorem dX5_coated_4 : decode cX5_coated 4 = .ok (.invokestatic 67, 3) := by decide +kernel
theorem dX5_coated_7 : decode cX5_coated 7 = .ok (.ifCond .ne 6, 3) := by decide +kernel
theorem dX5_coated_10 : decode cX5_coated 10 = .ok (.bipush (-2), 2) := by decide +kernel
theorem dX5_coated_12 : decode cX5_coated 12 = .ok (.ireturn, 1) := by decide +kernel
theorem dX5_coated_13 : decode cX5_coated 13 = .ok (.aload_n 0, 1) := by decide +kernel
theorem dX5_coated_14 : decode cX5_coated 14 = .ok (.getfield 71, 3) := by decide +kernel
theorem dX5_coated_17 : decode cX5_coated 17 = .ok (.ifCond .ne 6, 3) := by decide +kernel
theorem dX5_coated_20 : decode cX5_coated 20 = .ok (.bipush (-3), 2) := by decide +kernel
theorem dX5_coated_22 : decode cX5_coated 22 = .ok (.ireturn, 1) := by decide +kernel
theorem dX5_coated_23 : decode cX5_coated 23 = .ok (.aload_n 0, 1) := by decide +kernel
theorem dX5_coated_24 : decode cX5_coated 24 = .ok (.iload_n 1, 1) := by decide +kernel
theorem dX5_coated_25 : decode cX5_coated 25 = .ok (.invokevirtual 205, 3) := by decide +kernel
theorem dX5_coated_28 : decode cX5_coated 28 = .ok (.ifCond .ne 5, 3) := by decide +kernel
theorem dX5_coated_31 : decode cX5_coated 31 = .ok (.iconst (-1), 1) := by decide +kernel
theorem dX5_coated_32 : decode cX5_coated 32 = .ok (.ireturn, 1) := by decide +kernel
theorem dX5_coated_33 : decode cX5_coated 33 = .ok (.iconst 0, 1) := by decide +kernel
theorem dX5_coated_34 : decode cX5_coated 34 = .ok (.istore_n 2, 1) := by decide +kernel
theorem dX5_coated_35 : decode cX5_coated 35 = .ok (.iload_n 2, 1) := by decide +kernel
theorem dX5_coated_36 : decode cX5_coated 36 = .ok (.aload_n 0, 1) := by decide +kernel
theorem dX5_coated_37 : decode cX5_coated 37 = .ok (.getfield 74, 3) := by decide +kernel
theorem dX5_coated_40 : decode cX5_coated 40 = .ok (.if_icmp .ge 27, 3) := by decide +kernel
theorem dX5_coated_43 : decode cX5_coated 43 = .ok (.iload_n 1, 1) := by decide +kernel
theorem dX5_coated_44 : decode cX5_coated 44 = .ok (.iload_n 2, 1) := by decide +kernel
theorem dX5_coated_45 : decode cX5_coated 45 = .ok (.invokestatic 195, 3) := by decide +kernel
theorem dX5_coated_48 : decode cX5_coated 48 = .ok (.ifCond .eq 13, 3) := by decide +kernel
theorem dX5_coated_51 : decode cX5_coated 51 = .ok (.aload_n 0, 1) := by decide +kernel
theorem dX5_coated_52 : decode cX5_coated 52 = .ok (.iload_n 2, 1) := by decide +kernel
theorem dX5_coated_53 : decode cX5_coated 53 = .ok (.invokevirtual 148, 3) := by decide +kernel
theorem dX5_coated_56 : decode cX5_coated 56 = .ok (.ifCond .ne 5, 3) := by decide +kernel
theorem dX5_coated_59 : decode cX5_coated 59 = .ok (.iload_n 2, 1) := by decide +kernel
theorem dX5_coated_60 : decode cX5_coated 60 = .ok (.ireturn, 1) := by decide +kernel
theorem dX5_coated_61 : decode cX5_coated 61 = .ok (.iinc 2 1, 3) := by decide +kernel
theorem dX5_coated_64 : decode cX5_coated 64 = .ok (.goto (-29), 3) := by decide +kernel
theorem dX5_coated_67 : decode cX5_coated 67 = .ok (.bipush (-9), 2) := by decide +kernel
theorem dX5_coated_69 : decode cX5_coated 69 = .ok (.ireturn, 1) := by decide +kernel
theorem dX5_anyRound_0 : decode cX5_anyRound 0 = .ok (.iconst 0, 1) := by decide +kernel
theorem dX5_anyRound_1 : decode cX5_anyRound 1 = .ok (.istore_n 2, 1) := by decide +kernel
theorem dX5_anyRound_2 : decode cX5_anyRound 2 = .ok (.iload_n 2, 1) := by decide +kernel
theorem dX5_anyRound_3 : decode cX5_anyRound 3 = .ok (.aload_n 0, 1) := by decide +kernel
theorem dX5_anyRound_4 : decode cX5_anyRound 4 = .ok (.getfield 74, 3) := by decide +kernel
theorem dX5_anyRound_7 : decode cX5_anyRound 7 = .ok (.if_icmp .ge 23, 3) := by decide +kernel
theorem dX5_anyRound_10 : decode cX5_anyRound 10 = .ok (.aload_n 0, 1) := by decide +kernel
theorem dX5_anyRound_11 : decode cX5_anyRound 11 = .ok (.iload_n 2, 1) := by decide +kernel
theorem dX5_anyRound_12 : decode cX5_anyRound 12 = .ok (.iload_n 2, 1) := by decide +kernel
theorem dX5_anyRound_13 : decode cX5_anyRound 13 = .ok (.iload_n 1, 1) := by decide +kernel
theorem dX5_anyRound_14 : decode cX5_anyRound 14 = .ok (.invokevirtual 201, 3) := by decide +kernel
theorem dX5_anyRound_17 : decode cX5_anyRound 17 = .ok (.bipush (-9), 2) := by decide +kernel
theorem dX5_anyRound_19 : decode cX5_anyRound 19 = .ok (.if_icmp .eq 5, 3) := by decide +kernel
theorem dX5_anyRound_22 : decode cX5_anyRound 22 = .ok (.iconst 1, 1) := by decide +kernel
theorem dX5_anyRound_23 : decode cX5_anyRound 23 = .ok (.ireturn, 1) := by decide +kernel
theorem dX5_anyRound_24 : decode cX5_anyRound 24 = .ok (.iinc 2 1, 3) := by decide +kernel
theorem dX5_anyRound_27 : decode cX5_anyRound 27 = .ok (.goto (-25), 3) := by decide +kernel
theorem dX5_anyRound_30 : decode cX5_anyRound 30 = .ok (.iconst 0, 1) := by decide +kernel
theorem dX5_anyRound_31 : decode cX5_anyRound 31 = .ok (.ireturn, 1) := by decide +kernel
theorem dX5_leastLetGo_0 : decode cX5_leastLetGo 0 = .ok (.aload_n 0, 1) := by decide +kernel
theorem dX5_leastLetGo_1 : decode cX5_leastLetGo 1 = .ok (.invokevirtual 154, 3) := by decide +kernel
theorem dX5_leastLetGo_4 : decode cX5_leastLetGo 4 = .ok (.istore_n 1, 1) := by decide +kernel
theorem dX5_leastLetGo_5 : decode cX5_leastLetGo 5 = .ok (.iload_n 1, 1) := by decide +kernel
theorem dX5_leastLetGo_6 : decode cX5_leastLetGo 6 = .ok (.istore_n 2, 1) := by decide +kernel
theorem dX5_leastLetGo_7 : decode cX5_leastLetGo 7 = .ok (.iconst 0, 1) := by decide +kernel
theorem dX5_leastLetGo_8 : decode cX5_leastLetGo 8 = .ok (.istore_n 3, 1) := by decide +kernel
theorem dX5_leastLetGo_9 : decode cX5_leastLetGo 9 = .ok (.iload_n 3, 1) := by decide +kernel
theorem dX5_leastLetGo_10 : decode cX5_leastLetGo 10 = .ok (.iconst 1, 1) := by decide +kernel
theorem dX5_leastLetGo_11 : decode cX5_leastLetGo 11 = .ok (.aload_n 0, 1) := by decide +kernel
theorem dX5_leastLetGo_12 : decode cX5_leastLetGo 12 = .ok (.getfield 77, 3) := by decide +kernel
theorem dX5_leastLetGo_15 : decode cX5_leastLetGo 15 = .ok (.ishl, 1) := by decide +kernel
theorem dX5_leastLetGo_16 : decode cX5_leastLetGo 16 = .ok (.if_icmp .ge 42, 3) := by decide +kernel
theorem dX5_leastLetGo_19 : decode cX5_leastLetGo 19 = .ok (.iload_n 3, 1) := by decide +kernel
theorem dX5_leastLetGo_20 : decode cX5_leastLetGo 20 = .ok (.iload_n 1, 1) := by decide +kernel
theorem dX5_leastLetGo_21 : decode cX5_leastLetGo 21 = .ok (.iconst (-1), 1) := by decide +kernel
theorem dX5_leastLetGo_22 : decode cX5_leastLetGo 22 = .ok (.ixor, 1) := by decide +kernel
theorem dX5_leastLetGo_23 : decode cX5_leastLetGo 23 = .ok (.iand, 1) := by decide +kernel
theorem dX5_leastLetGo_24 : decode cX5_leastLetGo 24 = .ok (.ifCond .ne 28, 3) := by decide +kernel
theorem dX5_leastLetGo_27 : decode cX5_leastLetGo 27 = .ok (.iload_n 3, 1) := by decide +kernel
theorem dX5_leastLetGo_28 : decode cX5_leastLetGo 28 = .ok (.invokestatic 171, 3) := by decide +kernel
theorem dX5_leastLetGo_31 : decode cX5_leastLetGo 31 = .ok (.iload_n 2, 1) := by decide +kernel
theorem dX5_leastLetGo_32 : decode cX5_leastLetGo 32 = .ok (.invokestatic 171, 3) := by decide +kernel
theorem dX5_leastLetGo_35 : decode cX5_leastLetGo 35 = .ok (.if_icmp .ge 17, 3) := by decide +kernel
theorem dX5_leastLetGo_38 : decode cX5_leastLetGo 38 = .ok (.aload_n 0, 1) := by decide +kernel
theorem dX5_leastLetGo_39 : decode cX5_leastLetGo 39 = .ok (.iload_n 1, 1) := by decide +kernel
theorem dX5_leastLetGo_40 : decode cX5_leastLetGo 40 = .ok (.iload_n 3, 1) := by decide +kernel
theorem dX5_leastLetGo_41 : decode cX5_leastLetGo 41 = .ok (.iconst (-1), 1) := by decide +kernel
theorem dX5_leastLetGo_42 : decode cX5_leastLetGo 42 = .ok (.ixor, 1) := by decide +kernel
theorem dX5_leastLetGo_43 : decode cX5_leastLetGo 43 = .ok (.iand, 1) := by decide +kernel
theorem dX5_leastLetGo_44 : decode cX5_leastLetGo 44 = .ok (.invokevirtual 208, 3) := by decide +kernel
theorem dX5_leastLetGo_47 : decode cX5_leastLetGo 47 = .ok (.ifCond .ne 5, 3) := by decide +kernel
theorem dX5_leastLetGo_50 : decode cX5_leastLetGo 50 = .ok (.iload_n 3, 1) := by decide +kernel
theorem dX5_leastLetGo_51 : decode cX5_leastLetGo 51 = .ok (.istore_n 2, 1) := by decide +kernel
theorem dX5_leastLetGo_52 : decode cX5_leastLetGo 52 = .ok (.iinc 3 1, 3) := by decide +kernel
theorem dX5_leastLetGo_55 : decode cX5_leastLetGo 55 = .ok (.goto (-46), 3) := by decide +kernel
theorem dX5_leastLetGo_58 : decode cX5_leastLetGo 58 = .ok (.aload_n 0, 1) := by decide +kernel
theorem dX5_leastLetGo_59 : decode cX5_leastLetGo 59 = .ok (.iload_n 1, 1) := by decide +kernel
theorem dX5_leastLetGo_60 : decode cX5_leastLetGo 60 = .ok (.iload_n 2, 1) := by decide +kernel
theorem dX5_leastLetGo_61 : decode cX5_leastLetGo 61 = .ok (.invokestatic 171, 3) := by decide +kernel
theorem dX5_leastLetGo_64 : decode cX5_leastLetGo 64 = .ok (.invokevirtual 211, 3) := by decide +kernel
theorem dX5_leastLetGo_67 : decode cX5_leastLetGo 67 = .ok (.ireturn, 1) := by decide +kernel
theorem dX5_leastOfSize_0 : decode cX5_leastOfSize 0 = .ok (.iconst 0, 1) := by decide +kernel
theorem dX5_leastOfSize_1 : decode cX5_leastOfSize 1 = .ok (.istore_n 3, 1) := by decide +kernel
theorem dX5_leastOfSize_2 : decode cX5_leastOfSize 2 = .ok (.iload_n 3, 1) := by decide +kernel
theorem dX5_leastOfSize_3 : decode cX5_leastOfSize 3 = .ok (.iconst 1, 1) := by decide +kernel
theorem dX5_leastOfSize_4 : decode cX5_leastOfSize 4 = .ok (.aload_n 0, 1) := by decide +kernel
theorem dX5_leastOfSize_5 : decode cX5_leastOfSize 5 = .ok (.getfield 77, 3) := by decide +kernel
theorem dX5_leastOfSize_8 : decode cX5_leastOfSize 8 = .ok (.ishl, 1) := by decide +kernel
theorem dX5_leastOfSize_9 : decode cX5_leastOfSize 9 = .ok (.if_icmp .ge 39, 3) := by decide +kernel
theorem dX5_leastOfSize_12 : decode cX5_leastOfSize 12 = .ok (.iload_n 3, 1) := by decide +kernel
theorem dX5_leastOfSize_13 : decode cX5_leastOfSize 13 = .ok (.iload_n 1, 1) := by decide +kernel
theorem dX5_leastOfSize_14 : decode cX5_leastOfSize 14 = .ok (.iconst (-1), 1) := by decide +kernel
theorem dX5_leastOfSize_15 : decode cX5_leastOfSize 15 = .ok (.ixor, 1) := by decide +kernel
theorem dX5_leastOfSize_16 : decode cX5_leastOfSize 16 = .ok (.iand, 1) := by decide +kernel
theorem dX5_leastOfSize_17 : decode cX5_leastOfSize 17 = .ok (.ifCond .ne 25, 3) := by decide +kernel
theorem dX5_leastOfSize_20 : decode cX5_leastOfSize 20 = .ok (.iload_n 3, 1) := by decide +kernel
theorem dX5_leastOfSize_21 : decode cX5_leastOfSize 21 = .ok (.invokestatic 171, 3) := by decide +kernel
theorem dX5_leastOfSize_24 : decode cX5_leastOfSize 24 = .ok (.iload_n 2, 1) := by decide +kernel
theorem dX5_leastOfSize_25 : decode cX5_leastOfSize 25 = .ok (.if_icmp .ne 17, 3) := by decide +kernel
theorem dX5_leastOfSize_28 : decode cX5_leastOfSize 28 = .ok (.aload_n 0, 1) := by decide +kernel
theorem dX5_leastOfSize_29 : decode cX5_leastOfSize 29 = .ok (.iload_n 1, 1) := by decide +kernel
theorem dX5_leastOfSize_30 : decode cX5_leastOfSize 30 = .ok (.iload_n 3, 1) := by decide +kernel
theorem dX5_leastOfSize_31 : decode cX5_leastOfSize 31 = .ok (.iconst (-1), 1) := by decide +kernel
theorem dX5_leastOfSize_32 : decode cX5_leastOfSize 32 = .ok (.ixor, 1) := by decide +kernel
theorem dX5_leastOfSize_33 : decode cX5_leastOfSize 33 = .ok (.iand, 1) := by decide +kernel
theorem dX5_leastOfSize_34 : decode cX5_leastOfSize 34 = .ok (.invokevirtual 208, 3) := by decide +kernel
theorem dX5_leastOfSize_37 : decode cX5_leastOfSize 37 = .ok (.ifCond .ne 5, 3) := by decide +kernel
theorem dX5_leastOfSize_40 : decode cX5_leastOfSize 40 = .ok (.iload_n 3, 1) := by decide +kernel
theorem dX5_leastOfSize_41 : decode cX5_leastOfSize 41 = .ok (.ireturn, 1) := by decide +kernel
theorem dX5_leastOfSize_42 : decode cX5_leastOfSize 42 = .ok (.iinc 3 1, 3) := by decide +kernel
theorem dX5_leastOfSize_45 : decode cX5_leastOfSize 45 = .ok (.goto (-43), 3) := by decide +kernel
theorem dX5_leastOfSize_48 : decode cX5_leastOfSize 48 = .ok (.iload_n 1, 1) := by decide +kernel
theorem dX5_leastOfSize_49 : decode cX5_leastOfSize 49 = .ok (.ireturn, 1) := by decide +kernel
theorem dX5_letgo_0 : decode cX5_letgo 0 = .ok (.iload_n 1, 1) := by decide +kernel
theorem dX5_letgo_1 : decode cX5_letgo 1 = .ok (.iconst 0, 1) := by decide +kernel
theorem dX5_letgo_2 : decode cX5_letgo 2 = .ok (.iconst 1, 1) := by decide +kernel
theorem dX5_letgo_3 : decode cX5_letgo 3 = .ok (.invokestatic 67, 3) := by decide +kernel
theorem dX5_letgo_6 : decode cX5_letgo 6 = .ok (.ifCond .ne 6, 3) := by decide +kernel
theorem dX5_letgo_9 : decode cX5_letgo 9 = .ok (.bipush (-2), 2) := by decide +kernel
theorem dX5_letgo_11 : decode cX5_letgo 11 = .ok (.ireturn, 1) := by decide +kernel
theorem dX5_letgo_12 : decode cX5_letgo 12 = .ok (.aload_n 0, 1) := by decide +kernel
theorem dX5_letgo_13 : decode cX5_letgo 13 = .ok (.getfield 71, 3) := by decide +kernel
theorem dX5_letgo_16 : decode cX5_letgo 16 = .ok (.ifCond .ne 6, 3) := by decide +kernel
theorem dX5_letgo_19 : decode cX5_letgo 19 = .ok (.bipush (-3), 2) := by decide +kernel
theorem dX5_letgo_21 : decode cX5_letgo 21 = .ok (.ireturn, 1) := by decide +kernel
theorem dX5_letgo_22 : decode cX5_letgo 22 = .ok (.aload_n 0, 1) := by decide +kernel
theorem dX5_letgo_23 : decode cX5_letgo 23 = .ok (.invokevirtual 192, 3) := by decide +kernel
theorem dX5_letgo_26 : decode cX5_letgo 26 = .ok (.istore_n 2, 1) := by decide +kernel
theorem dX5_letgo_27 : decode cX5_letgo 27 = .ok (.iload_n 1, 1) := by decide +kernel
theorem dX5_letgo_28 : decode cX5_letgo 28 = .ok (.ifCond .ne 10, 3) := by decide +kernel
theorem dX5_letgo_31 : decode cX5_letgo 31 = .ok (.iload_n 2, 1) := by decide +kernel
theorem dX5_letgo_32 : decode cX5_letgo 32 = .ok (.invokestatic 171, 3) := by decide +kernel
theorem dX5_letgo_35 : decode cX5_letgo 35 = .ok (.goto 4, 3) := by decide +kernel
theorem dX5_letgo_38 : decode cX5_letgo 38 = .ok (.iload_n 2, 1) := by decide +kernel
theorem dX5_letgo_39 : decode cX5_letgo 39 = .ok (.ireturn, 1) := by decide +kernel
theorem dX5_stoves_0 : decode cX5_stoves 0 = .ok (.iload_n 1, 1) := by decide +kernel
theorem dX5_stoves_1 : decode cX5_stoves 1 = .ok (.iconst 0, 1) := by decide +kernel
theorem dX5_stoves_2 : decode cX5_stoves 2 = .ok (.bipush 63, 2) := by decide +kernel
theorem dX5_stoves_4 : decode cX5_stoves 4 = .ok (.invokestatic 67, 3) := by decide +kernel
theorem dX5_stoves_7 : decode cX5_stoves 7 = .ok (.ifCond .eq 12, 3) := by decide +kernel
theorem dX5_stoves_10 : decode cX5_stoves 10 = .ok (.iload_n 2, 1) := by decide +kernel
theorem dX5_stoves_11 : decode cX5_stoves 11 = .ok (.iconst 0, 1) := by decide +kernel
theorem dX5_stoves_12 : decode cX5_stoves 12 = .ok (.iconst 2, 1) := by decide +kernel
theorem dX5_stoves_13 : decode cX5_stoves 13 = .ok (.invokestatic 67, 3) := by decide +kernel
theorem dX5_stoves_16 : decode cX5_stoves 16 = .ok (.ifCond .ne 6, 3) := by decide +kernel
theorem dX5_stoves_19 : decode cX5_stoves 19 = .ok (.bipush (-2), 2) := by decide +kernel
theorem dX5_stoves_21 : decode cX5_stoves 21 = .ok (.ireturn, 1) := by decide +kernel
theorem dX5_stoves_22 : decode cX5_stoves 22 = .ok (.aload_n 0, 1) := by decide +kernel
theorem dX5_stoves_23 : decode cX5_stoves 23 = .ok (.getfield 71, 3) := by decide +kernel
theorem dX5_stoves_26 : decode cX5_stoves 26 = .ok (.ifCond .ne 6, 3) := by decide +kernel
theorem dX5_stoves_29 : decode cX5_stoves 29 = .ok (.bipush (-3), 2) := by decide +kernel
theorem dX5_stoves_31 : decode cX5_stoves 31 = .ok (.ireturn, 1) := by decide +kernel
theorem dX5_stoves_32 : decode cX5_stoves 32 = .ok (.iconst 1, 1) := by decide +kernel
theorem dX5_stoves_33 : decode cX5_stoves 33 = .ok (.aload_n 0, 1) := by decide +kernel
theorem dX5_stoves_34 : decode cX5_stoves 34 = .ok (.getfield 77, 3) := by decide +kernel
theorem dX5_stoves_37 : decode cX5_stoves 37 = .ok (.ishl, 1) := by decide +kernel
theorem dX5_stoves_38 : decode cX5_stoves 38 = .ok (.iconst 1, 1) := by decide +kernel
theorem dX5_stoves_39 : decode cX5_stoves 39 = .ok (.isub, 1) := by decide +kernel
theorem dX5_stoves_40 : decode cX5_stoves 40 = .ok (.istore_n 3, 1) := by decide +kernel
theorem dX5_stoves_41 : decode cX5_stoves 41 = .ok (.iload_n 1, 1) := by decide +kernel
theorem dX5_stoves_42 : decode cX5_stoves 42 = .ok (.iload_n 3, 1) := by decide +kernel
theorem dX5_stoves_43 : decode cX5_stoves 43 = .ok (.iconst (-1), 1) := by decide +kernel
theorem dX5_stoves_44 : decode cX5_stoves 44 = .ok (.ixor, 1) := by decide +kernel
theorem dX5_stoves_45 : decode cX5_stoves 45 = .ok (.iand, 1) := by decide +kernel
theorem dX5_stoves_46 : decode cX5_stoves 46 = .ok (.ifCond .eq 5, 3) := by decide +kernel
theorem dX5_stoves_49 : decode cX5_stoves 49 = .ok (.iconst (-1), 1) := by decide +kernel
theorem dX5_stoves_50 : decode cX5_stoves 50 = .ok (.ireturn, 1) := by decide +kernel
theorem dX5_stoves_51 : decode cX5_stoves 51 = .ok (.aload_n 0, 1) := by decide +kernel
theorem dX5_stoves_52 : decode cX5_stoves 52 = .ok (.invokevirtual 180, 3) := by decide +kernel
theorem dX5_stoves_55 : decode cX5_stoves 55 = .ok (.iconst 0, 1) := by decide +kernel
theorem dX5_stoves_56 : decode cX5_stoves 56 = .ok (.istore 4, 2) := by decide +kernel
theorem dX5_stoves_58 : decode cX5_stoves 58 = .ok (.bipush (-9), 2) := by decide +kernel
theorem dX5_stoves_60 : decode cX5_stoves 60 = .ok (.istore 5, 2) := by decide +kernel
theorem dX5_stoves_62 : decode cX5_stoves 62 = .ok (.iconst 0, 1) := by decide +kernel
theorem dX5_stoves_63 : decode cX5_stoves 63 = .ok (.istore 6, 2) := by decide +kernel
theorem dX5_stoves_65 : decode cX5_stoves 65 = .ok (.iload 6, 2) := by decide +kernel
theorem dX5_stoves_67 : decode cX5_stoves 67 = .ok (.aload_n 0, 1) := by decide +kernel
theorem dX5_stoves_68 : decode cX5_stoves 68 = .ok (.getfield 71, 3) := by decide +kernel
theorem dX5_stoves_71 : decode cX5_stoves 71 = .ok (.bipush 10, 2) := by decide +kernel
theorem dX5_stoves_73 : decode cX5_stoves 73 = .ok (.imul, 1) := by decide +kernel
theorem dX5_stoves_74 : decode cX5_stoves 74 = .ok (.if_icmp .ge 58, 3) := by decide +kernel
theorem dX5_stoves_77 : decode cX5_stoves 77 = .ok (.aload_n 0, 1) := by decide +kernel
theorem dX5_stoves_78 : decode cX5_stoves 78 = .ok (.iload 6, 2) := by decide +kernel
theorem dX5_stoves_80 : decode cX5_stoves 80 = .ok (.bipush 10, 2) := by decide +kernel
theorem dX5_stoves_82 : decode cX5_stoves 82 = .ok (.idiv, 1) := by decide +kernel
theorem dX5_stoves_83 : decode cX5_stoves 83 = .ok (.putfield 19, 3) := by decide +kernel
theorem dX5_stoves_86 : decode cX5_stoves 86 = .ok (.aload_n 0, 1) := by decide +kernel
theorem dX5_stoves_87 : decode cX5_stoves 87 = .ok (.iload 6, 2) := by decide +kernel
theorem dX5_stoves_89 : decode cX5_stoves 89 = .ok (.bipush 10, 2) := by decide +kernel
theorem dX5_stoves_91 : decode cX5_stoves 91 = .ok (.irem, 1) := by decide +kernel
theorem dX5_stoves_92 : decode cX5_stoves 92 = .ok (.putfield 113, 3) := by decide +kernel
theorem dX5_stoves_95 : decode cX5_stoves 95 = .ok (.iload_n 3, 1) := by decide +kernel
theorem dX5_stoves_96 : decode cX5_stoves 96 = .ok (.aload_n 0, 1) := by decide +kernel
theorem dX5_stoves_97 : decode cX5_stoves 97 = .ok (.invokevirtual 154, 3) := by decide +kernel
theorem dX5_stoves_100 : decode cX5_stoves 100 = .ok (.iconst (-1), 1) := by decide +kernel
theorem dX5_stoves_101 : decode cX5_stoves 101 = .ok (.ixor, 1) := by decide +kernel
theorem dX5_stoves_102 : decode cX5_stoves 102 = .ok (.iand, 1) := by decide +kernel
theorem dX5_stoves_103 : decode cX5_stoves 103 = .ok (.iload_n 1, 1) := by decide +kernel
theorem dX5_stoves_104 : decode cX5_stoves 104 = .ok (.if_icmp .ne 22, 3) := by decide +kernel
theorem dX5_stoves_107 : decode cX5_stoves 107 = .ok (.iinc 4 1, 3) := by decide +kernel
theorem dX5_stoves_110 : decode cX5_stoves 110 = .ok (.iload 5, 2) := by decide +kernel
theorem dX5_stoves_112 : decode cX5_stoves 112 = .ok (.bipush (-9), 2) := by decide +kernel
theorem dX5_stoves_114 : decode cX5_stoves 114 = .ok (.if_icmp .ne 8, 3) := by decide +kernel
theorem dX5_stoves_117 : decode cX5_stoves 117 = .ok (.iload 6, 2) := by decide +kernel
theorem dX5_stoves_119 : decode cX5_stoves 119 = .ok (.goto 5, 3) := by decide +kernel
theorem dX5_stoves_122 : decode cX5_stoves 122 = .ok (.iload 5, 2) := by decide +kernel
theorem dX5_stoves_124 : decode cX5_stoves 124 = .ok (.istore 5, 2) := by decide +kernel
theorem dX5_stoves_126 : decode cX5_stoves 126 = .ok (.iinc 6 1, 3) := by decide +kernel
theorem dX5_stoves_129 : decode cX5_stoves 129 = .ok (.goto (-64), 3) := by decide +kernel
theorem dX5_stoves_132 : decode cX5_stoves 132 = .ok (.aload_n 0, 1) := by decide +kernel
theorem dX5_stoves_133 : decode cX5_stoves 133 = .ok (.invokevirtual 189, 3) := by decide +kernel
theorem dX5_stoves_136 : decode cX5_stoves 136 = .ok (.iload_n 2, 1) := by decide +kernel
theorem dX5_stoves_137 : decode cX5_stoves 137 = .ok (.ifCond .ne 8, 3) := by decide +kernel
theorem dX5_stoves_140 : decode cX5_stoves 140 = .ok (.iload 4, 2) := by decide +kernel
theorem dX5_stoves_142 : decode cX5_stoves 142 = .ok (.goto 33, 3) := by decide +kernel
theorem dX5_stoves_145 : decode cX5_stoves 145 = .ok (.iload 5, 2) := by decide +kernel
theorem dX5_stoves_147 : decode cX5_stoves 147 = .ok (.bipush (-9), 2) := by decide +kernel
theorem dX5_stoves_149 : decode cX5_stoves 149 = .ok (.if_icmp .ne 8, 3) := by decide +kernel
theorem dX5_stoves_152 : decode cX5_stoves 152 = .ok (.bipush (-9), 2) := by decide +kernel
theorem dX5_stoves_154 : decode cX5_stoves 154 = .ok (.goto 21, 3) := by decide +kernel
theorem dX5_stoves_157 : decode cX5_stoves 157 = .ok (.iload_n 2, 1) := by decide +kernel
theorem dX5_stoves_158 : decode cX5_stoves 158 = .ok (.iconst 1, 1) := by decide +kernel
theorem dX5_stoves_159 : decode cX5_stoves 159 = .ok (.if_icmp .ne 11, 3) := by decide +kernel
theorem dX5_stoves_162 : decode cX5_stoves 162 = .ok (.iload 5, 2) := by decide +kernel
theorem dX5_stoves_164 : decode cX5_stoves 164 = .ok (.bipush 10, 2) := by decide +kernel
theorem dX5_stoves_166 : decode cX5_stoves 166 = .ok (.idiv, 1) := by decide +kernel
theorem dX5_stoves_167 : decode cX5_stoves 167 = .ok (.goto 8, 3) := by decide +kernel
theorem dX5_stoves_170 : decode cX5_stoves 170 = .ok (.iload 5, 2) := by decide +kernel
theorem dX5_stoves_172 : decode cX5_stoves 172 = .ok (.bipush 10, 2) := by decide +kernel
theorem dX5_stoves_174 : decode cX5_stoves 174 = .ok (.irem, 1) := by decide +kernel
theorem dX5_stoves_175 : decode cX5_stoves 175 = .ok (.ireturn, 1) := by decide +kernel
theorem dX5_reading_0 : decode cX5_reading 0 = .ok (.aload_n 0, 1) := by decide +kernel
theorem dX5_reading_1 : decode cX5_reading 1 = .ok (.iload_n 1, 1) := by decide +kernel
theorem dX5_reading_2 : decode cX5_reading 2 = .ok (.invokevirtual 145, 3) := by decide +kernel
theorem dX5_reading_5 : decode cX5_reading 5 = .ok (.ifCond .eq 11, 3) := by decide +kernel
theorem dX5_reading_8 : decode cX5_reading 8 = .ok (.aload_n 0, 1) := by decide +kernel
theorem dX5_reading_9 : decode cX5_reading 9 = .ok (.iload_n 2, 1) := by decide +kernel
theorem dX5_reading_10 : decode cX5_reading 10 = .ok (.invokevirtual 161, 3) := by decide +kernel
theorem dX5_reading_13 : decode cX5_reading 13 = .ok (.ifCond .ne 5, 3) := by decide +kernel
theorem dX5_reading_16 : decode cX5_reading 16 = .ok (.iconst (-1), 1) := by decide +kernel
theorem dX5_reading_17 : decode cX5_reading 17 = .ok (.ireturn, 1) := by decide +kernel
theorem dX5_reading_18 : decode cX5_reading 18 = .ok (.iload_n 3, 1) := by decide +kernel
theorem dX5_reading_19 : decode cX5_reading 19 = .ok (.iconst 0, 1) := by decide +kernel
theorem dX5_reading_20 : decode cX5_reading 20 = .ok (.iconst 1, 1) := by decide +kernel
theorem dX5_reading_21 : decode cX5_reading 21 = .ok (.invokestatic 67, 3) := by decide +kernel
theorem dX5_reading_24 : decode cX5_reading 24 = .ok (.ifCond .ne 6, 3) := by decide +kernel
theorem dX5_reading_27 : decode cX5_reading 27 = .ok (.bipush (-2), 2) := by decide +kernel
theorem dX5_reading_29 : decode cX5_reading 29 = .ok (.ireturn, 1) := by decide +kernel
theorem dX5_reading_30 : decode cX5_reading 30 = .ok (.aload_n 0, 1) := by decide +kernel
theorem dX5_reading_31 : decode cX5_reading 31 = .ok (.getfield 116, 3) := by decide +kernel
theorem dX5_reading_34 : decode cX5_reading 34 = .ok (.bipush 8, 2) := by decide +kernel
theorem dX5_reading_36 : decode cX5_reading 36 = .ok (.if_icmp .ne 6, 3) := by decide +kernel
theorem dX5_reading_39 : decode cX5_reading 39 = .ok (.bipush (-4), 2) := by decide +kernel
theorem dX5_reading_41 : decode cX5_reading 41 = .ok (.ireturn, 1) := by decide +kernel
theorem dX5_reading_42 : decode cX5_reading 42 = .ok (.aload_n 0, 1) := by decide +kernel
theorem dX5_reading_43 : decode cX5_reading 43 = .ok (.getfield 53, 3) := by decide +kernel
theorem dX5_reading_46 : decode cX5_reading 46 = .ok (.aload_n 0, 1) := by decide +kernel
theorem dX5_reading_47 : decode cX5_reading 47 = .ok (.getfield 116, 3) := by decide +kernel
theorem dX5_reading_50 : decode cX5_reading 50 = .ok (.iload_n 1, 1) := by decide +kernel
theorem dX5_reading_51 : decode cX5_reading 51 = .ok (.iastore, 1) := by decide +kernel
theorem dX5_reading_52 : decode cX5_reading 52 = .ok (.aload_n 0, 1) := by decide +kernel
theorem dX5_reading_53 : decode cX5_reading 53 = .ok (.getfield 56, 3) := by decide +kernel
theorem dX5_reading_56 : decode cX5_reading 56 = .ok (.aload_n 0, 1) := by decide +kernel
theorem dX5_reading_57 : decode cX5_reading 57 = .ok (.getfield 116, 3) := by decide +kernel
theorem dX5_reading_60 : decode cX5_reading 60 = .ok (.iload_n 2, 1) := by decide +kernel
theorem dX5_reading_61 : decode cX5_reading 61 = .ok (.iastore, 1) := by decide +kernel
theorem dX5_reading_62 : decode cX5_reading 62 = .ok (.aload_n 0, 1) := by decide +kernel
theorem dX5_reading_63 : decode cX5_reading 63 = .ok (.getfield 59, 3) := by decide +kernel
theorem dX5_reading_66 : decode cX5_reading 66 = .ok (.aload_n 0, 1) := by decide +kernel
theorem dX5_reading_67 : decode cX5_reading 67 = .ok (.getfield 116, 3) := by decide +kernel
theorem dX5_reading_70 : decode cX5_reading 70 = .ok (.iload_n 3, 1) := by decide +kernel
theorem dX5_reading_71 : decode cX5_reading 71 = .ok (.iastore, 1) := by decide +kernel
theorem dX5_reading_72 : decode cX5_reading 72 = .ok (.aload_n 0, 1) := by decide +kernel
theorem dX5_reading_73 : decode cX5_reading 73 = .ok (.dup, 1) := by decide +kernel
theorem dX5_reading_74 : decode cX5_reading 74 = .ok (.getfield 116, 3) := by decide +kernel
theorem dX5_reading_77 : decode cX5_reading 77 = .ok (.iconst 1, 1) := by decide +kernel
theorem dX5_reading_78 : decode cX5_reading 78 = .ok (.iadd, 1) := by decide +kernel
theorem dX5_reading_79 : decode cX5_reading 79 = .ok (.putfield 116, 3) := by decide +kernel
theorem dX5_reading_82 : decode cX5_reading 82 = .ok (.aload_n 0, 1) := by decide +kernel
theorem dX5_reading_83 : decode cX5_reading 83 = .ok (.getfield 116, 3) := by decide +kernel
theorem dX5_reading_86 : decode cX5_reading 86 = .ok (.iconst 1, 1) := by decide +kernel
theorem dX5_reading_87 : decode cX5_reading 87 = .ok (.isub, 1) := by decide +kernel
theorem dX5_reading_88 : decode cX5_reading 88 = .ok (.ireturn, 1) := by decide +kernel
theorem dX5_back_0 : decode cX5_back 0 = .ok (.iload_n 1, 1) := by decide +kernel
theorem dX5_back_1 : decode cX5_back 1 = .ok (.iconst 0, 1) := by decide +kernel
theorem dX5_back_2 : decode cX5_back 2 = .ok (.aload_n 0, 1) := by decide +kernel
theorem dX5_back_3 : decode cX5_back 3 = .ok (.getfield 116, 3) := by decide +kernel
theorem dX5_back_6 : decode cX5_back 6 = .ok (.invokestatic 67, 3) := by decide +kernel
theorem dX5_back_9 : decode cX5_back 9 = .ok (.ifCond .ne 6, 3) := by decide +kernel
theorem dX5_back_12 : decode cX5_back 12 = .ok (.bipush (-2), 2) := by decide +kernel
theorem dX5_back_14 : decode cX5_back 14 = .ok (.ireturn, 1) := by decide +kernel
theorem dX5_back_15 : decode cX5_back 15 = .ok (.aload_n 0, 1) := by decide +kernel
theorem dX5_back_16 : decode cX5_back 16 = .ok (.dup, 1) := by decide +kernel
theorem dX5_back_17 : decode cX5_back 17 = .ok (.getfield 116, 3) := by decide +kernel
theorem dX5_back_20 : decode cX5_back 20 = .ok (.iload_n 1, 1) := by decide +kernel
theorem dX5_back_21 : decode cX5_back 21 = .ok (.isub, 1) := by decide +kernel
theorem dX5_back_22 : decode cX5_back 22 = .ok (.putfield 116, 3) := by decide +kernel
theorem dX5_back_25 : decode cX5_back 25 = .ok (.aload_n 0, 1) := by decide +kernel
theorem dX5_back_26 : decode cX5_back 26 = .ok (.getfield 116, 3) := by decide +kernel
theorem dX5_back_29 : decode cX5_back 29 = .ok (.ireturn, 1) := by decide +kernel
theorem dX5_areSo_0 : decode cX5_areSo 0 = .ok (.iconst 0, 1) := by decide +kernel
theorem dX5_areSo_1 : decode cX5_areSo 1 = .ok (.istore_n 1, 1) := by decide +kernel
theorem dX5_areSo_2 : decode cX5_areSo 2 = .ok (.iload_n 1, 1) := by decide +kernel
theorem dX5_areSo_3 : decode cX5_areSo 3 = .ok (.aload_n 0, 1) := by decide +kernel
theorem dX5_areSo_4 : decode cX5_areSo 4 = .ok (.getfield 116, 3) := by decide +kernel
theorem dX5_areSo_7 : decode cX5_areSo 7 = .ok (.if_icmp .ge 45, 3) := by decide +kernel
theorem dX5_areSo_10 : decode cX5_areSo 10 = .ok (.aload_n 0, 1) := by decide +kernel
theorem dX5_areSo_11 : decode cX5_areSo 11 = .ok (.aload_n 0, 1) := by decide +kernel
theorem dX5_areSo_12 : decode cX5_areSo 12 = .ok (.getfield 53, 3) := by decide +kernel
theorem dX5_areSo_15 : decode cX5_areSo 15 = .ok (.iload_n 1, 1) := by decide +kernel
theorem dX5_areSo_16 : decode cX5_areSo 16 = .ok (.iaload, 1) := by decide +kernel
theorem dX5_areSo_17 : decode cX5_areSo 17 = .ok (.aload_n 0, 1) := by decide +kernel
theorem dX5_areSo_18 : decode cX5_areSo 18 = .ok (.getfield 56, 3) := by decide +kernel
theorem dX5_areSo_21 : decode cX5_areSo 21 = .ok (.iload_n 1, 1) := by decide +kernel
theorem dX5_areSo_22 : decode cX5_areSo 22 = .ok (.iaload, 1) := by decide +kernel
theorem dX5_areSo_23 : decode cX5_areSo 23 = .ok (.invokevirtual 139, 3) := by decide +kernel
theorem dX5_areSo_26 : decode cX5_areSo 26 = .ok (.aload_n 0, 1) := by decide +kernel
theorem dX5_areSo_27 : decode cX5_areSo 27 = .ok (.getfield 59, 3) := by decide +kernel
theorem dX5_areSo_30 : decode cX5_areSo 30 = .ok (.iload_n 1, 1) := by decide +kernel
theorem dX5_areSo_31 : decode cX5_areSo 31 = .ok (.iaload, 1) := by decide +kernel
theorem dX5_areSo_32 : decode cX5_areSo 32 = .ok (.iconst 1, 1) := by decide +kernel
theorem dX5_areSo_33 : decode cX5_areSo 33 = .ok (.if_icmp .ne 7, 3) := by decide +kernel
theorem dX5_areSo_36 : decode cX5_areSo 36 = .ok (.iconst 1, 1) := by decide +kernel
theorem dX5_areSo_37 : decode cX5_areSo 37 = .ok (.goto 4, 3) := by decide +kernel
theorem dX5_areSo_40 : decode cX5_areSo 40 = .ok (.iconst 0, 1) := by decide +kernel
theorem dX5_areSo_41 : decode cX5_areSo 41 = .ok (.if_icmp .eq 5, 3) := by decide +kernel
theorem dX5_areSo_44 : decode cX5_areSo 44 = .ok (.iconst 0, 1) := by decide +kernel
theorem dX5_areSo_45 : decode cX5_areSo 45 = .ok (.ireturn, 1) := by decide +kernel
theorem dX5_areSo_46 : decode cX5_areSo 46 = .ok (.iinc 1 1, 3) := by decide +kernel
theorem dX5_areSo_49 : decode cX5_areSo 49 = .ok (.goto (-47), 3) := by decide +kernel
theorem dX5_areSo_52 : decode cX5_areSo 52 = .ok (.iconst 1, 1) := by decide +kernel
theorem dX5_areSo_53 : decode cX5_areSo 53 = .ok (.ireturn, 1) := by decide +kernel
theorem dX5_coats_0 : decode cX5_coats 0 = .ok (.aload_n 0, 1) := by decide +kernel
theorem dX5_coats_1 : decode cX5_coats 1 = .ok (.iload_n 1, 1) := by decide +kernel
theorem dX5_coats_2 : decode cX5_coats 2 = .ok (.invokevirtual 145, 3) := by decide +kernel
theorem dX5_coats_5 : decode cX5_coats 5 = .ok (.ifCond .ne 5, 3) := by decide +kernel
theorem dX5_coats_8 : decode cX5_coats 8 = .ok (.iconst (-1), 1) := by decide +kernel
theorem dX5_coats_9 : decode cX5_coats 9 = .ok (.ireturn, 1) := by decide +kernel
theorem dX5_coats_10 : decode cX5_coats 10 = .ok (.aload_n 0, 1) := by decide +kernel
theorem dX5_coats_11 : decode cX5_coats 11 = .ok (.getfield 29, 3) := by decide +kernel
theorem dX5_coats_14 : decode cX5_coats 14 = .ok (.iload_n 1, 1) := by decide +kernel
theorem dX5_coats_15 : decode cX5_coats 15 = .ok (.iaload, 1) := by decide +kernel
theorem dX5_coats_16 : decode cX5_coats 16 = .ok (.istore_n 2, 1) := by decide +kernel
theorem dX5_coats_17 : decode cX5_coats 17 = .ok (.iconst 0, 1) := by decide +kernel
theorem dX5_coats_18 : decode cX5_coats 18 = .ok (.istore_n 3, 1) := by decide +kernel
theorem dX5_coats_19 : decode cX5_coats 19 = .ok (.iconst 0, 1) := by decide +kernel
theorem dX5_coats_20 : decode cX5_coats 20 = .ok (.istore 4, 2) := by decide +kernel
theorem dX5_coats_22 : decode cX5_coats 22 = .ok (.iload 4, 2) := by decide +kernel
theorem dX5_coats_24 : decode cX5_coats 24 = .ok (.bipush 9, 2) := by decide +kernel
theorem dX5_coats_26 : decode cX5_coats 26 = .ok (.if_icmp .gt 35, 3) := by decide +kernel
theorem dX5_coats_29 : decode cX5_coats 29 = .ok (.aload_n 0, 1) := by decide +kernel
theorem dX5_coats_30 : decode cX5_coats 30 = .ok (.getfield 29, 3) := by decide +kernel
theorem dX5_coats_33 : decode cX5_coats 33 = .ok (.iload_n 1, 1) := by decide +kernel
theorem dX5_coats_34 : decode cX5_coats 34 = .ok (.iload 4, 2) := by decide +kernel
theorem dX5_coats_36 : decode cX5_coats 36 = .ok (.iastore, 1) := by decide +kernel
theorem dX5_coats_37 : decode cX5_coats 37 = .ok (.iload_n 3, 1) := by decide +kernel
theorem dX5_coats_38 : decode cX5_coats 38 = .ok (.aload_n 0, 1) := by decide +kernel
theorem dX5_coats_39 : decode cX5_coats 39 = .ok (.invokevirtual 214, 3) := by decide +kernel
theorem dX5_coats_42 : decode cX5_coats 42 = .ok (.ifCond .eq 10, 3) := by decide +kernel
theorem dX5_coats_45 : decode cX5_coats 45 = .ok (.iconst 1, 1) := by decide +kernel
theorem dX5_coats_46 : decode cX5_coats 46 = .ok (.iload 4, 2) := by decide +kernel
theorem dX5_coats_48 : decode cX5_coats 48 = .ok (.ishl, 1) := by decide +kernel
theorem dX5_coats_49 : decode cX5_coats 49 = .ok (.goto 4, 3) := by decide +kernel
theorem dX5_coats_52 : decode cX5_coats 52 = .ok (.iconst 0, 1) := by decide +kernel
theorem dX5_coats_53 : decode cX5_coats 53 = .ok (.ior, 1) := by decide +kernel
theorem dX5_coats_54 : decode cX5_coats 54 = .ok (.istore_n 3, 1) := by decide +kernel
theorem dX5_coats_55 : decode cX5_coats 55 = .ok (.iinc 4 1, 3) := by decide +kernel
theorem dX5_coats_58 : decode cX5_coats 58 = .ok (.goto (-36), 3) := by decide +kernel
theorem dX5_coats_61 : decode cX5_coats 61 = .ok (.aload_n 0, 1) := by decide +kernel
theorem dX5_coats_62 : decode cX5_coats 62 = .ok (.getfield 29, 3) := by decide +kernel
theorem dX5_coats_65 : decode cX5_coats 65 = .ok (.iload_n 1, 1) := by decide +kernel
theorem dX5_coats_66 : decode cX5_coats 66 = .ok (.iload_n 2, 1) := by decide +kernel
theorem dX5_coats_67 : decode cX5_coats 67 = .ok (.iastore, 1) := by decide +kernel
theorem dX5_coats_68 : decode cX5_coats 68 = .ok (.iload_n 3, 1) := by decide +kernel
theorem dX5_coats_69 : decode cX5_coats 69 = .ok (.ireturn, 1) := by decide +kernel
theorem dX5_kinds_0 : decode cX5_kinds 0 = .ok (.aload_n 0, 1) := by decide +kernel
theorem dX5_kinds_1 : decode cX5_kinds 1 = .ok (.iload_n 1, 1) := by decide +kernel
theorem dX5_kinds_2 : decode cX5_kinds 2 = .ok (.invokevirtual 145, 3) := by decide +kernel
theorem dX5_kinds_5 : decode cX5_kinds 5 = .ok (.ifCond .ne 5, 3) := by decide +kernel
theorem dX5_kinds_8 : decode cX5_kinds 8 = .ok (.iconst (-1), 1) := by decide +kernel
theorem dX5_kinds_9 : decode cX5_kinds 9 = .ok (.ireturn, 1) := by decide +kernel
theorem dX5_kinds_10 : decode cX5_kinds 10 = .ok (.aload_n 0, 1) := by decide +kernel
theorem dX5_kinds_11 : decode cX5_kinds 11 = .ok (.getfield 26, 3) := by decide +kernel
theorem dX5_kinds_14 : decode cX5_kinds 14 = .ok (.iload_n 1, 1) := by decide +kernel
theorem dX5_kinds_15 : decode cX5_kinds 15 = .ok (.iaload, 1) := by decide +kernel
theorem dX5_kinds_16 : decode cX5_kinds 16 = .ok (.istore_n 2, 1) := by decide +kernel
theorem dX5_kinds_17 : decode cX5_kinds 17 = .ok (.iconst 0, 1) := by decide +kernel
theorem dX5_kinds_18 : decode cX5_kinds 18 = .ok (.istore_n 3, 1) := by decide +kernel
theorem dX5_kinds_19 : decode cX5_kinds 19 = .ok (.iconst 0, 1) := by decide +kernel
theorem dX5_kinds_20 : decode cX5_kinds 20 = .ok (.istore 4, 2) := by decide +kernel
theorem dX5_kinds_22 : decode cX5_kinds 22 = .ok (.iload 4, 2) := by decide +kernel
theorem dX5_kinds_24 : decode cX5_kinds 24 = .ok (.iconst 3, 1) := by decide +kernel
theorem dX5_kinds_25 : decode cX5_kinds 25 = .ok (.if_icmp .ge 35, 3) := by decide +kernel
theorem dX5_kinds_28 : decode cX5_kinds 28 = .ok (.aload_n 0, 1) := by decide +kernel
theorem dX5_kinds_29 : decode cX5_kinds 29 = .ok (.getfield 26, 3) := by decide +kernel
theorem dX5_kinds_32 : decode cX5_kinds 32 = .ok (.iload_n 1, 1) := by decide +kernel
theorem dX5_kinds_33 : decode cX5_kinds 33 = .ok (.iload 4, 2) := by decide +kernel
theorem dX5_kinds_35 : decode cX5_kinds 35 = .ok (.iastore, 1) := by decide +kernel
theorem dX5_kinds_36 : decode cX5_kinds 36 = .ok (.iload_n 3, 1) := by decide +kernel
theorem dX5_kinds_37 : decode cX5_kinds 37 = .ok (.aload_n 0, 1) := by decide +kernel
theorem dX5_kinds_38 : decode cX5_kinds 38 = .ok (.invokevirtual 214, 3) := by decide +kernel
theorem dX5_kinds_41 : decode cX5_kinds 41 = .ok (.ifCond .eq 10, 3) := by decide +kernel
theorem dX5_kinds_44 : decode cX5_kinds 44 = .ok (.iconst 1, 1) := by decide +kernel
theorem dX5_kinds_45 : decode cX5_kinds 45 = .ok (.iload 4, 2) := by decide +kernel
theorem dX5_kinds_47 : decode cX5_kinds 47 = .ok (.ishl, 1) := by decide +kernel
theorem dX5_kinds_48 : decode cX5_kinds 48 = .ok (.goto 4, 3) := by decide +kernel
theorem dX5_kinds_51 : decode cX5_kinds 51 = .ok (.iconst 0, 1) := by decide +kernel
theorem dX5_kinds_52 : decode cX5_kinds 52 = .ok (.ior, 1) := by decide +kernel
theorem dX5_kinds_53 : decode cX5_kinds 53 = .ok (.istore_n 3, 1) := by decide +kernel
theorem dX5_kinds_54 : decode cX5_kinds 54 = .ok (.iinc 4 1, 3) := by decide +kernel
theorem dX5_kinds_57 : decode cX5_kinds 57 = .ok (.goto (-35), 3) := by decide +kernel
theorem dX5_kinds_60 : decode cX5_kinds 60 = .ok (.aload_n 0, 1) := by decide +kernel
theorem dX5_kinds_61 : decode cX5_kinds 61 = .ok (.getfield 26, 3) := by decide +kernel
theorem dX5_kinds_64 : decode cX5_kinds 64 = .ok (.iload_n 1, 1) := by decide +kernel
theorem dX5_kinds_65 : decode cX5_kinds 65 = .ok (.iload_n 2, 1) := by decide +kernel
theorem dX5_kinds_66 : decode cX5_kinds 66 = .ok (.iastore, 1) := by decide +kernel
theorem dX5_kinds_67 : decode cX5_kinds 67 = .ok (.iload_n 3, 1) := by decide +kernel
theorem dX5_kinds_68 : decode cX5_kinds 68 = .ok (.ireturn, 1) := by decide +kernel
theorem dX5_frosts_0 : decode cX5_frosts 0 = .ok (.aload_n 0, 1) := by decide +kernel
theorem dX5_frosts_1 : decode cX5_frosts 1 = .ok (.iload_n 1, 1) := by decide +kernel
theorem dX5_frosts_2 : decode cX5_frosts 2 = .ok (.invokevirtual 161, 3) := by decide +kernel
theorem dX5_frosts_5 : decode cX5_frosts 5 = .ok (.ifCond .ne 5, 3) := by decide +kernel
theorem dX5_frosts_8 : decode cX5_frosts 8 = .ok (.iconst (-1), 1) := by decide +kernel
theorem dX5_frosts_9 : decode cX5_frosts 9 = .ok (.ireturn, 1) := by decide +kernel
theorem dX5_frosts_10 : decode cX5_frosts 10 = .ok (.aload_n 0, 1) := by decide +kernel
theorem dX5_frosts_11 : decode cX5_frosts 11 = .ok (.getfield 23, 3) := by decide +kernel
theorem dX5_frosts_14 : decode cX5_frosts 14 = .ok (.iload_n 1, 1) := by decide +kernel
theorem dX5_frosts_15 : decode cX5_frosts 15 = .ok (.iaload, 1) := by decide +kernel
theorem dX5_frosts_16 : decode cX5_frosts 16 = .ok (.istore_n 2, 1) := by decide +kernel
theorem dX5_frosts_17 : decode cX5_frosts 17 = .ok (.iconst 0, 1) := by decide +kernel
theorem dX5_frosts_18 : decode cX5_frosts 18 = .ok (.istore_n 3, 1) := by decide +kernel
theorem dX5_frosts_19 : decode cX5_frosts 19 = .ok (.iconst 0, 1) := by decide +kernel
theorem dX5_frosts_20 : decode cX5_frosts 20 = .ok (.istore 4, 2) := by decide +kernel
theorem dX5_frosts_22 : decode cX5_frosts 22 = .ok (.iload 4, 2) := by decide +kernel
theorem dX5_frosts_24 : decode cX5_frosts 24 = .ok (.bipush 9, 2) := by decide +kernel
theorem dX5_frosts_26 : decode cX5_frosts 26 = .ok (.if_icmp .gt 35, 3) := by decide +kernel
theorem dX5_frosts_29 : decode cX5_frosts 29 = .ok (.aload_n 0, 1) := by decide +kernel
theorem dX5_frosts_30 : decode cX5_frosts 30 = .ok (.getfield 23, 3) := by decide +kernel
theorem dX5_frosts_33 : decode cX5_frosts 33 = .ok (.iload_n 1, 1) := by decide +kernel
theorem dX5_frosts_34 : decode cX5_frosts 34 = .ok (.iload 4, 2) := by decide +kernel
theorem dX5_frosts_36 : decode cX5_frosts 36 = .ok (.iastore, 1) := by decide +kernel
theorem dX5_frosts_37 : decode cX5_frosts 37 = .ok (.iload_n 3, 1) := by decide +kernel
theorem dX5_frosts_38 : decode cX5_frosts 38 = .ok (.aload_n 0, 1) := by decide +kernel
theorem dX5_frosts_39 : decode cX5_frosts 39 = .ok (.invokevirtual 214, 3) := by decide +kernel
theorem dX5_frosts_42 : decode cX5_frosts 42 = .ok (.ifCond .eq 10, 3) := by decide +kernel
theorem dX5_frosts_45 : decode cX5_frosts 45 = .ok (.iconst 1, 1) := by decide +kernel
theorem dX5_frosts_46 : decode cX5_frosts 46 = .ok (.iload 4, 2) := by decide +kernel
theorem dX5_frosts_48 : decode cX5_frosts 48 = .ok (.ishl, 1) := by decide +kernel
theorem dX5_frosts_49 : decode cX5_frosts 49 = .ok (.goto 4, 3) := by decide +kernel
theorem dX5_frosts_52 : decode cX5_frosts 52 = .ok (.iconst 0, 1) := by decide +kernel
theorem dX5_frosts_53 : decode cX5_frosts 53 = .ok (.ior, 1) := by decide +kernel
theorem dX5_frosts_54 : decode cX5_frosts 54 = .ok (.istore_n 3, 1) := by decide +kernel
theorem dX5_frosts_55 : decode cX5_frosts 55 = .ok (.iinc 4 1, 3) := by decide +kernel
theorem dX5_frosts_58 : decode cX5_frosts 58 = .ok (.goto (-36), 3) := by decide +kernel
theorem dX5_frosts_61 : decode cX5_frosts 61 = .ok (.aload_n 0, 1) := by decide +kernel
theorem dX5_frosts_62 : decode cX5_frosts 62 = .ok (.getfield 23, 3) := by decide +kernel
theorem dX5_frosts_65 : decode cX5_frosts 65 = .ok (.iload_n 1, 1) := by decide +kernel
theorem dX5_frosts_66 : decode cX5_frosts 66 = .ok (.iload_n 2, 1) := by decide +kernel
theorem dX5_frosts_67 : decode cX5_frosts 67 = .ok (.iastore, 1) := by decide +kernel
theorem dX5_frosts_68 : decode cX5_frosts 68 = .ok (.iload_n 3, 1) := by decide +kernel
theorem dX5_frosts_69 : decode cX5_frosts 69 = .ok (.ireturn, 1) := by decide +kernel
theorem dX5_inLeastTerms_0 : decode cX5_inLeastTerms 0 = .ok (.lload_n 0, 1) := by decide +kernel
theorem dX5_inLeastTerms_1 : decode cX5_inLeastTerms 1 = .ok (.lstore 5, 2) := by decide +kernel
theorem dX5_inLeastTerms_3 : decode cX5_inLeastTerms 3 = .ok (.lload_n 2, 1) := by decide +kernel
theorem dX5_inLeastTerms_4 : decode cX5_inLeastTerms 4 = .ok (.lstore 7, 2) := by decide +kernel
theorem dX5_inLeastTerms_6 : decode cX5_inLeastTerms 6 = .ok (.lload 7, 2) := by decide +kernel
theorem dX5_inLeastTerms_8 : decode cX5_inLeastTerms 8 = .ok (.lconst 0, 1) := by decide +kernel
theorem dX5_inLeastTerms_9 : decode cX5_inLeastTerms 9 = .ok (.lcmp, 1) := by decide +kernel
theorem dX5_inLeastTerms_10 : decode cX5_inLeastTerms 10 = .ok (.ifCond .eq 21, 3) := by decide +kernel
theorem dX5_inLeastTerms_13 : decode cX5_inLeastTerms 13 = .ok (.lload 5, 2) := by decide +kernel
theorem dX5_inLeastTerms_15 : decode cX5_inLeastTerms 15 = .ok (.lload 7, 2) := by decide +kernel
theorem dX5_inLeastTerms_17 : decode cX5_inLeastTerms 17 = .ok (.lrem, 1) := by decide +kernel
theorem dX5_inLeastTerms_18 : decode cX5_inLeastTerms 18 = .ok (.lstore 9, 2) := by decide +kernel
theorem dX5_inLeastTerms_20 : decode cX5_inLeastTerms 20 = .ok (.lload 7, 2) := by decide +kernel
theorem dX5_inLeastTerms_22 : decode cX5_inLeastTerms 22 = .ok (.lstore 5, 2) := by decide +kernel
theorem dX5_inLeastTerms_24 : decode cX5_inLeastTerms 24 = .ok (.lload 9, 2) := by decide +kernel
theorem dX5_inLeastTerms_26 : decode cX5_inLeastTerms 26 = .ok (.lstore 7, 2) := by decide +kernel
theorem dX5_inLeastTerms_28 : decode cX5_inLeastTerms 28 = .ok (.goto (-22), 3) := by decide +kernel
theorem dX5_inLeastTerms_31 : decode cX5_inLeastTerms 31 = .ok (.iload 4, 2) := by decide +kernel
theorem dX5_inLeastTerms_33 : decode cX5_inLeastTerms 33 = .ok (.ifCond .ne 10, 3) := by decide +kernel
theorem dX5_inLeastTerms_36 : decode cX5_inLeastTerms 36 = .ok (.lload_n 0, 1) := by decide +kernel
theorem dX5_inLeastTerms_37 : decode cX5_inLeastTerms 37 = .ok (.lload 5, 2) := by decide +kernel
theorem dX5_inLeastTerms_39 : decode cX5_inLeastTerms 39 = .ok (.ldiv, 1) := by decide +kernel
theorem dX5_inLeastTerms_40 : decode cX5_inLeastTerms 40 = .ok (.goto 7, 3) := by decide +kernel
theorem dX5_inLeastTerms_43 : decode cX5_inLeastTerms 43 = .ok (.lload_n 2, 1) := by decide +kernel
theorem dX5_inLeastTerms_44 : decode cX5_inLeastTerms 44 = .ok (.lload 5, 2) := by decide +kernel
theorem dX5_inLeastTerms_46 : decode cX5_inLeastTerms 46 = .ok (.ldiv, 1) := by decide +kernel
theorem dX5_inLeastTerms_47 : decode cX5_inLeastTerms 47 = .ok (.lreturn, 1) := by decide +kernel
theorem dX5_odds_0 : decode cX5_odds 0 = .ok (.aload_n 0, 1) := by decide +kernel
theorem dX5_odds_1 : decode cX5_odds 1 = .ok (.iload_n 1, 1) := by decide +kernel
theorem dX5_odds_2 : decode cX5_odds 2 = .ok (.invokevirtual 145, 3) := by decide +kernel
theorem dX5_odds_5 : decode cX5_odds 5 = .ok (.ifCond .eq 22, 3) := by decide +kernel
theorem dX5_odds_8 : decode cX5_odds 8 = .ok (.iload_n 2, 1) := by decide +kernel
theorem dX5_odds_9 : decode cX5_odds 9 = .ok (.iconst 0, 1) := by decide +kernel
theorem dX5_odds_10 : decode cX5_odds 10 = .ok (.bipush 8, 2) := by decide +kernel
theorem dX5_odds_12 : decode cX5_odds 12 = .ok (.invokestatic 67, 3) := by decide +kernel
theorem dX5_odds_15 : decode cX5_odds 15 = .ok (.ifCond .eq 12, 3) := by decide +kernel
theorem dX5_odds_18 : decode cX5_odds 18 = .ok (.iload_n 3, 1) := by decide +kernel
theorem dX5_odds_19 : decode cX5_odds 19 = .ok (.iconst 0, 1) := by decide +kernel
theorem dX5_odds_20 : decode cX5_odds 20 = .ok (.iconst 1, 1) := by decide +kernel
theorem dX5_odds_21 : decode cX5_odds 21 = .ok (.invokestatic 67, 3) := by decide +kernel
theorem dX5_odds_24 : decode cX5_odds 24 = .ok (.ifCond .ne 7, 3) := by decide +kernel
theorem dX5_odds_27 : decode cX5_odds 27 = .ok (.ldc2_w 65, 3) := by decide +kernel
theorem dX5_odds_30 : decode cX5_odds 30 = .ok (.lreturn, 1) := by decide +kernel
theorem dX5_odds_31 : decode cX5_odds 31 = .ok (.lconst 1, 1) := by decide +kernel
theorem dX5_odds_32 : decode cX5_odds 32 = .ok (.lstore 4, 2) := by decide +kernel
theorem dX5_odds_34 : decode cX5_odds 34 = .ok (.lconst 1, 1) := by decide +kernel
theorem dX5_odds_35 : decode cX5_odds 35 = .ok (.lstore 6, 2) := by decide +kernel
theorem dX5_odds_37 : decode cX5_odds 37 = .ok (.iconst 0, 1) := by decide +kernel
theorem dX5_odds_38 : decode cX5_odds 38 = .ok (.istore 8, 2) := by decide +kernel
theorem dX5_odds_40 : decode cX5_odds 40 = .ok (.iload 8, 2) := by decide +kernel
theorem dX5_odds_42 : decode cX5_odds 42 = .ok (.iload_n 2, 1) := by decide +kernel
theorem dX5_odds_43 : decode cX5_odds 43 = .ok (.if_icmp .ge 33, 3) := by decide +kernel
theorem dX5_odds_46 : decode cX5_odds 46 = .ok (.lload 4, 2) := by decide +kernel
theorem dX5_odds_48 : decode cX5_odds 48 = .ok (.aload_n 0, 1) := by decide +kernel
theorem dX5_odds_49 : decode cX5_odds 49 = .ok (.iload_n 1, 1) := by decide +kernel
theorem dX5_odds_50 : decode cX5_odds 50 = .ok (.invokevirtual 148, 3) := by decide +kernel
theorem dX5_odds_53 : decode cX5_odds 53 = .ok (.invokestatic 171, 3) := by decide +kernel
theorem dX5_odds_56 : decode cX5_odds 56 = .ok (.i2l, 1) := by decide +kernel
theorem dX5_odds_57 : decode cX5_odds 57 = .ok (.lmul, 1) := by decide +kernel
theorem dX5_odds_58 : decode cX5_odds 58 = .ok (.lstore 4, 2) := by decide +kernel
theorem dX5_odds_60 : decode cX5_odds 60 = .ok (.lload 6, 2) := by decide +kernel
theorem dX5_odds_62 : decode cX5_odds 62 = .ok (.aload_n 0, 1) := by decide +kernel
theorem dX5_odds_63 : decode cX5_odds 63 = .ok (.getfield 71, 3) := by decide +kernel
theorem dX5_odds_66 : decode cX5_odds 66 = .ok (.i2l, 1) := by decide +kernel
theorem dX5_odds_67 : decode cX5_odds 67 = .ok (.lmul, 1) := by decide +kernel
theorem dX5_odds_68 : decode cX5_odds 68 = .ok (.lstore 6, 2) := by decide +kernel
theorem dX5_odds_70 : decode cX5_odds 70 = .ok (.iinc 8 1, 3) := by decide +kernel
theorem dX5_odds_73 : decode cX5_odds 73 = .ok (.goto (-33), 3) := by decide +kernel
theorem dX5_odds_76 : decode cX5_odds 76 = .ok (.lload 4, 2) := by decide +kernel
theorem dX5_odds_78 : decode cX5_odds 78 = .ok (.lload 6, 2) := by decide +kernel
theorem dX5_odds_80 : decode cX5_odds 80 = .ok (.iload_n 3, 1) := by decide +kernel
theorem dX5_odds_81 : decode cX5_odds 81 = .ok (.invokestatic 218, 3) := by decide +kernel
theorem dX5_odds_84 : decode cX5_odds 84 = .ok (.lreturn, 1) := by decide +kernel
theorem dX5_sheet_0 : decode cX5_sheet 0 = .ok (.aload_n 0, 1) := by decide +kernel
theorem dX5_sheet_1 : decode cX5_sheet 1 = .ok (.iconst 0, 1) := by decide +kernel
theorem dX5_sheet_2 : decode cX5_sheet 2 = .ok (.putfield 62, 3) := by decide +kernel
theorem dX5_sheet_5 : decode cX5_sheet 5 = .ok (.iload_n 1, 1) := by decide +kernel
theorem dX5_sheet_6 : decode cX5_sheet 6 = .ok (.invokestatic 83, 3) := by decide +kernel
theorem dX5_sheet_9 : decode cX5_sheet 9 = .ok (.ifCond .ne 5, 3) := by decide +kernel
theorem dX5_sheet_12 : decode cX5_sheet 12 = .ok (.iconst (-1), 1) := by decide +kernel
theorem dX5_sheet_13 : decode cX5_sheet 13 = .ok (.ireturn, 1) := by decide +kernel
theorem dX5_sheet_14 : decode cX5_sheet 14 = .ok (.iload_n 2, 1) := by decide +kernel
theorem dX5_sheet_15 : decode cX5_sheet 15 = .ok (.invokestatic 87, 3) := by decide +kernel
theorem dX5_sheet_18 : decode cX5_sheet 18 = .ok (.ifCond .eq 9, 3) := by decide +kernel
theorem dX5_sheet_21 : decode cX5_sheet 21 = .ok (.iload_n 3, 1) := by decide +kernel
theorem dX5_sheet_22 : decode cX5_sheet 22 = .ok (.bipush 60, 2) := by decide +kernel
theorem dX5_sheet_24 : decode cX5_sheet 24 = .ok (.if_icmp .le 6, 3) := by decide +kernel
theorem dX5_sheet_27 : decode cX5_sheet 27 = .ok (.bipush (-2), 2) := by decide +kernel
theorem dX5_sheet_29 : decode cX5_sheet 29 = .ok (.ireturn, 1) := by decide +kernel
theorem dX5_sheet_30 : decode cX5_sheet 30 = .ok (.iload_n 3, 1) := by decide +kernel
theorem dX5_sheet_31 : decode cX5_sheet 31 = .ok (.ifCond .ge 9, 3) := by decide +kernel
theorem dX5_sheet_34 : decode cX5_sheet 34 = .ok (.aload_n 0, 1) := by decide +kernel
theorem dX5_sheet_35 : decode cX5_sheet 35 = .ok (.iconst 4, 1) := by decide +kernel
theorem dX5_sheet_36 : decode cX5_sheet 36 = .ok (.invokevirtual 94, 3) := by decide +kernel
theorem dX5_sheet_39 : decode cX5_sheet 39 = .ok (.ireturn, 1) := by decide +kernel
theorem dX5_sheet_40 : decode cX5_sheet 40 = .ok (.aload_n 0, 1) := by decide +kernel
theorem dX5_sheet_41 : decode cX5_sheet 41 = .ok (.getfield 9, 3) := by decide +kernel
theorem dX5_sheet_44 : decode cX5_sheet 44 = .ok (.iload_n 1, 1) := by decide +kernel
theorem dX5_sheet_45 : decode cX5_sheet 45 = .ok (.iload_n 2, 1) := by decide +kernel
theorem dX5_sheet_46 : decode cX5_sheet 46 = .ok (.iastore, 1) := by decide +kernel
theorem dX5_sheet_47 : decode cX5_sheet 47 = .ok (.aload_n 0, 1) := by decide +kernel
theorem dX5_sheet_48 : decode cX5_sheet 48 = .ok (.getfield 13, 3) := by decide +kernel
theorem dX5_sheet_51 : decode cX5_sheet 51 = .ok (.iload_n 1, 1) := by decide +kernel
theorem dX5_sheet_52 : decode cX5_sheet 52 = .ok (.iload_n 3, 1) := by decide +kernel
theorem dX5_sheet_53 : decode cX5_sheet 53 = .ok (.iastore, 1) := by decide +kernel
theorem dX5_sheet_54 : decode cX5_sheet 54 = .ok (.iconst 0, 1) := by decide +kernel
theorem dX5_sheet_55 : decode cX5_sheet 55 = .ok (.istore 4, 2) := by decide +kernel
theorem dX5_sheet_57 : decode cX5_sheet 57 = .ok (.iload 4, 2) := by decide +kernel
theorem dX5_sheet_59 : decode cX5_sheet 59 = .ok (.bipush 60, 2) := by decide +kernel
theorem dX5_sheet_61 : decode cX5_sheet 61 = .ok (.if_icmp .ge 22, 3) := by decide +kernel
theorem dX5_sheet_64 : decode cX5_sheet 64 = .ok (.aload_n 0, 1) := by decide +kernel
theorem dX5_sheet_65 : decode cX5_sheet 65 = .ok (.getfield 16, 3) := by decide +kernel
theorem dX5_sheet_68 : decode cX5_sheet 68 = .ok (.bipush 60, 2) := by decide +kernel
theorem dX5_sheet_70 : decode cX5_sheet 70 = .ok (.iload_n 1, 1) := by decide +kernel
theorem dX5_sheet_71 : decode cX5_sheet 71 = .ok (.imul, 1) := by decide +kernel
theorem dX5_sheet_72 : decode cX5_sheet 72 = .ok (.iload 4, 2) := by decide +kernel
theorem dX5_sheet_74 : decode cX5_sheet 74 = .ok (.iadd, 1) := by decide +kernel
theorem dX5_sheet_75 : decode cX5_sheet 75 = .ok (.iconst 0, 1) := by decide +kernel
theorem dX5_sheet_76 : decode cX5_sheet 76 = .ok (.iastore, 1) := by decide +kernel
theorem dX5_sheet_77 : decode cX5_sheet 77 = .ok (.iinc 4 1, 3) := by decide +kernel
theorem dX5_sheet_80 : decode cX5_sheet 80 = .ok (.goto (-23), 3) := by decide +kernel
theorem dX5_sheet_83 : decode cX5_sheet 83 = .ok (.iconst 1, 1) := by decide +kernel
theorem dX5_sheet_84 : decode cX5_sheet 84 = .ok (.ireturn, 1) := by decide +kernel
theorem dX5_lose_0 : decode cX5_lose 0 = .ok (.iload_n 1, 1) := by decide +kernel
theorem dX5_lose_1 : decode cX5_lose 1 = .ok (.invokestatic 83, 3) := by decide +kernel
theorem dX5_lose_4 : decode cX5_lose 4 = .ok (.ifCond .ne 5, 3) := by decide +kernel
theorem dX5_lose_7 : decode cX5_lose 7 = .ok (.iconst (-1), 1) := by decide +kernel
theorem dX5_lose_8 : decode cX5_lose 8 = .ok (.ireturn, 1) := by decide +kernel
theorem dX5_lose_9 : decode cX5_lose 9 = .ok (.aload_n 0, 1) := by decide +kernel
theorem dX5_lose_10 : decode cX5_lose 10 = .ok (.getfield 9, 3) := by decide +kernel
theorem dX5_lose_13 : decode cX5_lose 13 = .ok (.iload_n 1, 1) := by decide +kernel
theorem dX5_lose_14 : decode cX5_lose 14 = .ok (.iaload, 1) := by decide +kernel
theorem dX5_lose_15 : decode cX5_lose 15 = .ok (.bipush (-9), 2) := by decide +kernel
theorem dX5_lose_17 : decode cX5_lose 17 = .ok (.if_icmp .ne 7, 3) := by decide +kernel
theorem dX5_lose_20 : decode cX5_lose 20 = .ok (.iconst 0, 1) := by decide +kernel
theorem dX5_lose_21 : decode cX5_lose 21 = .ok (.goto 4, 3) := by decide +kernel
theorem dX5_lose_24 : decode cX5_lose 24 = .ok (.iconst 1, 1) := by decide +kernel
theorem dX5_lose_25 : decode cX5_lose 25 = .ok (.istore_n 2, 1) := by decide +kernel
theorem dX5_lose_26 : decode cX5_lose 26 = .ok (.aload_n 0, 1) := by decide +kernel
theorem dX5_lose_27 : decode cX5_lose 27 = .ok (.getfield 9, 3) := by decide +kernel
theorem dX5_lose_30 : decode cX5_lose 30 = .ok (.iload_n 1, 1) := by decide +kernel
theorem dX5_lose_31 : decode cX5_lose 31 = .ok (.bipush (-9), 2) := by decide +kernel
theorem dX5_lose_33 : decode cX5_lose 33 = .ok (.iastore, 1) := by decide +kernel
theorem dX5_lose_34 : decode cX5_lose 34 = .ok (.iload_n 2, 1) := by decide +kernel
theorem dX5_lose_35 : decode cX5_lose 35 = .ok (.ireturn, 1) := by decide +kernel
theorem dX5_put_0 : decode cX5_put 0 = .ok (.aload_n 0, 1) := by decide +kernel
theorem dX5_put_1 : decode cX5_put 1 = .ok (.iconst 0, 1) := by decide +kernel
theorem dX5_put_2 : decode cX5_put 2 = .ok (.putfield 62, 3) := by decide +kernel
theorem dX5_put_5 : decode cX5_put 5 = .ok (.iload_n 1, 1) := by decide +kernel
theorem dX5_put_6 : decode cX5_put 6 = .ok (.invokestatic 83, 3) := by decide +kernel
theorem dX5_put_9 : decode cX5_put 9 = .ok (.ifCond .ne 5, 3) := by decide +kernel
theorem dX5_put_12 : decode cX5_put 12 = .ok (.iconst (-1), 1) := by decide +kernel
theorem dX5_put_13 : decode cX5_put 13 = .ok (.ireturn, 1) := by decide +kernel
theorem dX5_put_14 : decode cX5_put 14 = .ok (.aload_n 0, 1) := by decide +kernel
theorem dX5_put_15 : decode cX5_put 15 = .ok (.getfield 9, 3) := by decide +kernel
theorem dX5_put_18 : decode cX5_put 18 = .ok (.iload_n 1, 1) := by decide +kernel
theorem dX5_put_19 : decode cX5_put 19 = .ok (.iaload, 1) := by decide +kernel
theorem dX5_put_20 : decode cX5_put 20 = .ok (.bipush (-9), 2) := by decide +kernel
theorem dX5_put_22 : decode cX5_put 22 = .ok (.if_icmp .ne 9, 3) := by decide +kernel
theorem dX5_put_25 : decode cX5_put 25 = .ok (.aload_n 0, 1) := by decide +kernel
theorem dX5_put_26 : decode cX5_put 26 = .ok (.iconst 1, 1) := by decide +kernel
theorem dX5_put_27 : decode cX5_put 27 = .ok (.invokevirtual 94, 3) := by decide +kernel
theorem dX5_put_30 : decode cX5_put 30 = .ok (.ireturn, 1) := by decide +kernel
theorem dX5_put_31 : decode cX5_put 31 = .ok (.iload_n 2, 1) := by decide +kernel
theorem dX5_put_32 : decode cX5_put 32 = .ok (.iconst 0, 1) := by decide +kernel
theorem dX5_put_33 : decode cX5_put 33 = .ok (.aload_n 0, 1) := by decide +kernel
theorem dX5_put_34 : decode cX5_put 34 = .ok (.getfield 13, 3) := by decide +kernel
theorem dX5_put_37 : decode cX5_put 37 = .ok (.iload_n 1, 1) := by decide +kernel
theorem dX5_put_38 : decode cX5_put 38 = .ok (.iaload, 1) := by decide +kernel
theorem dX5_put_39 : decode cX5_put 39 = .ok (.iconst 1, 1) := by decide +kernel
theorem dX5_put_40 : decode cX5_put 40 = .ok (.isub, 1) := by decide +kernel
theorem dX5_put_41 : decode cX5_put 41 = .ok (.invokestatic 67, 3) := by decide +kernel
theorem dX5_put_44 : decode cX5_put 44 = .ok (.ifCond .ne 9, 3) := by decide +kernel
theorem dX5_put_47 : decode cX5_put 47 = .ok (.aload_n 0, 1) := by decide +kernel
theorem dX5_put_48 : decode cX5_put 48 = .ok (.iconst 3, 1) := by decide +kernel
theorem dX5_put_49 : decode cX5_put 49 = .ok (.invokevirtual 94, 3) := by decide +kernel
theorem dX5_put_52 : decode cX5_put 52 = .ok (.ireturn, 1) := by decide +kernel
theorem dX5_put_53 : decode cX5_put 53 = .ok (.aload_n 0, 1) := by decide +kernel
theorem dX5_put_54 : decode cX5_put 54 = .ok (.getfield 16, 3) := by decide +kernel
theorem dX5_put_57 : decode cX5_put 57 = .ok (.bipush 60, 2) := by decide +kernel
theorem dX5_put_59 : decode cX5_put 59 = .ok (.iload_n 1, 1) := by decide +kernel
theorem dX5_put_60 : decode cX5_put 60 = .ok (.imul, 1) := by decide +kernel
theorem dX5_put_61 : decode cX5_put 61 = .ok (.iload_n 2, 1) := by decide +kernel
theorem dX5_put_62 : decode cX5_put 62 = .ok (.iadd, 1) := by decide +kernel
theorem dX5_put_63 : decode cX5_put 63 = .ok (.aload_n 0, 1) := by decide +kernel
theorem dX5_put_64 : decode cX5_put 64 = .ok (.getfield 9, 3) := by decide +kernel
theorem dX5_put_67 : decode cX5_put 67 = .ok (.iload_n 1, 1) := by decide +kernel
theorem dX5_put_68 : decode cX5_put 68 = .ok (.iaload, 1) := by decide +kernel
theorem dX5_put_69 : decode cX5_put 69 = .ok (.ifCond .ne 8, 3) := by decide +kernel
theorem dX5_put_72 : decode cX5_put 72 = .ok (.iload_n 3, 1) := by decide +kernel
theorem dX5_put_73 : decode cX5_put 73 = .ok (.i2b, 1) := by decide +kernel
theorem dX5_put_74 : decode cX5_put 74 = .ok (.goto 19, 3) := by decide +kernel
theorem dX5_put_77 : decode cX5_put 77 = .ok (.aload_n 0, 1) := by decide +kernel
theorem dX5_put_78 : decode cX5_put 78 = .ok (.getfield 9, 3) := by decide +kernel
theorem dX5_put_81 : decode cX5_put 81 = .ok (.iload_n 1, 1) := by decide +kernel
theorem dX5_put_82 : decode cX5_put 82 = .ok (.iaload, 1) := by decide +kernel
theorem dX5_put_83 : decode cX5_put 83 = .ok (.iconst 1, 1) := by decide +kernel
theorem dX5_put_84 : decode cX5_put 84 = .ok (.if_icmp .ne 8, 3) := by decide +kernel
theorem dX5_put_87 : decode cX5_put 87 = .ok (.iload_n 3, 1) := by decide +kernel
theorem dX5_put_88 : decode cX5_put 88 = .ok (.i2s, 1) := by decide +kernel
theorem dX5_put_89 : decode cX5_put 89 = .ok (.goto 4, 3) := by decide +kernel
theorem dX5_put_92 : decode cX5_put 92 = .ok (.iload_n 3, 1) := by decide +kernel
theorem dX5_put_93 : decode cX5_put 93 = .ok (.iastore, 1) := by decide +kernel
theorem dX5_put_94 : decode cX5_put 94 = .ok (.iconst 1, 1) := by decide +kernel
theorem dX5_put_95 : decode cX5_put 95 = .ok (.ireturn, 1) := by decide +kernel
theorem dX5_cell_0 : decode cX5_cell 0 = .ok (.aload_n 0, 1) := by decide +kernel
theorem dX5_cell_1 : decode cX5_cell 1 = .ok (.iconst 0, 1) := by decide +kernel
theorem dX5_cell_2 : decode cX5_cell 2 = .ok (.putfield 62, 3) := by decide +kernel
theorem dX5_cell_5 : decode cX5_cell 5 = .ok (.iload_n 1, 1) := by decide +kernel
theorem dX5_cell_6 : decode cX5_cell 6 = .ok (.invokestatic 83, 3) := by decide +kernel
theorem dX5_cell_9 : decode cX5_cell 9 = .ok (.ifCond .eq 10, 3) := by decide +kernel
theorem dX5_cell_12 : decode cX5_cell 12 = .ok (.iload_n 3, 1) := by decide +kernel
theorem dX5_cell_13 : decode cX5_cell 13 = .ok (.invokestatic 87, 3) := by decide +kernel
theorem dX5_cell_16 : decode cX5_cell 16 = .ok (.ifCond .ne 7, 3) := by decide +kernel
theorem dX5_cell_19 : decode cX5_cell 19 = .ok (.ldc2_w 65, 3) := by decide +kernel
theorem dX5_cell_22 : decode cX5_cell 22 = .ok (.lreturn, 1) := by decide +kernel
theorem dX5_cell_23 : decode cX5_cell 23 = .ok (.aload_n 0, 1) := by decide +kernel
theorem dX5_cell_24 : decode cX5_cell 24 = .ok (.getfield 9, 3) := by decide +kernel
theorem dX5_cell_27 : decode cX5_cell 27 = .ok (.iload_n 1, 1) := by decide +kernel
theorem dX5_cell_28 : decode cX5_cell 28 = .ok (.iaload, 1) := by decide +kernel
theorem dX5_cell_29 : decode cX5_cell 29 = .ok (.bipush (-9), 2) := by decide +kernel
theorem dX5_cell_31 : decode cX5_cell 31 = .ok (.if_icmp .eq 19, 3) := by decide +kernel
theorem dX5_cell_34 : decode cX5_cell 34 = .ok (.aload_n 0, 1) := by decide +kernel
theorem dX5_cell_35 : decode cX5_cell 35 = .ok (.getfield 9, 3) := by decide +kernel
theorem dX5_cell_38 : decode cX5_cell 38 = .ok (.iload_n 1, 1) := by decide +kernel
theorem dX5_cell_39 : decode cX5_cell 39 = .ok (.iaload, 1) := by decide +kernel
theorem dX5_cell_40 : decode cX5_cell 40 = .ok (.iload_n 3, 1) := by decide +kernel
theorem dX5_cell_41 : decode cX5_cell 41 = .ok (.if_icmp .eq 9, 3) := by decide +kernel
theorem dX5_cell_44 : decode cX5_cell 44 = .ok (.aload_n 0, 1) := by decide +kernel
theorem dX5_cell_45 : decode cX5_cell 45 = .ok (.iconst 2, 1) := by decide +kernel
theorem dX5_cell_46 : decode cX5_cell 46 = .ok (.invokevirtual 222, 3) := by decide +kernel
theorem dX5_cell_49 : decode cX5_cell 49 = .ok (.lreturn, 1) := by decide +kernel
theorem dX5_cell_50 : decode cX5_cell 50 = .ok (.aload_n 0, 1) := by decide +kernel
theorem dX5_cell_51 : decode cX5_cell 51 = .ok (.getfield 9, 3) := by decide +kernel
theorem dX5_cell_54 : decode cX5_cell 54 = .ok (.iload_n 1, 1) := by decide +kernel
theorem dX5_cell_55 : decode cX5_cell 55 = .ok (.iaload, 1) := by decide +kernel
theorem dX5_cell_56 : decode cX5_cell 56 = .ok (.bipush (-9), 2) := by decide +kernel
theorem dX5_cell_58 : decode cX5_cell 58 = .ok (.if_icmp .ne 9, 3) := by decide +kernel
theorem dX5_cell_61 : decode cX5_cell 61 = .ok (.aload_n 0, 1) := by decide +kernel
theorem dX5_cell_62 : decode cX5_cell 62 = .ok (.iconst 1, 1) := by decide +kernel
theorem dX5_cell_63 : decode cX5_cell 63 = .ok (.invokevirtual 222, 3) := by decide +kernel
theorem dX5_cell_66 : decode cX5_cell 66 = .ok (.lreturn, 1) := by decide +kernel
theorem dX5_cell_67 : decode cX5_cell 67 = .ok (.iload_n 2, 1) := by decide +kernel
theorem dX5_cell_68 : decode cX5_cell 68 = .ok (.iconst 0, 1) := by decide +kernel
theorem dX5_cell_69 : decode cX5_cell 69 = .ok (.aload_n 0, 1) := by decide +kernel
theorem dX5_cell_70 : decode cX5_cell 70 = .ok (.getfield 13, 3) := by decide +kernel
theorem dX5_cell_73 : decode cX5_cell 73 = .ok (.iload_n 1, 1) := by decide +kernel
theorem dX5_cell_74 : decode cX5_cell 74 = .ok (.iaload, 1) := by decide +kernel
theorem dX5_cell_75 : decode cX5_cell 75 = .ok (.iconst 1, 1) := by decide +kernel
theorem dX5_cell_76 : decode cX5_cell 76 = .ok (.isub, 1) := by decide +kernel
theorem dX5_cell_77 : decode cX5_cell 77 = .ok (.invokestatic 67, 3) := by decide +kernel
theorem dX5_cell_80 : decode cX5_cell 80 = .ok (.ifCond .ne 9, 3) := by decide +kernel
theorem dX5_cell_83 : decode cX5_cell 83 = .ok (.aload_n 0, 1) := by decide +kernel
theorem dX5_cell_84 : decode cX5_cell 84 = .ok (.iconst 3, 1) := by decide +kernel
theorem dX5_cell_85 : decode cX5_cell 85 = .ok (.invokevirtual 222, 3) := by decide +kernel
theorem dX5_cell_88 : decode cX5_cell 88 = .ok (.lreturn, 1) := by decide +kernel
theorem dX5_cell_89 : decode cX5_cell 89 = .ok (.aload_n 0, 1) := by decide +kernel
theorem dX5_cell_90 : decode cX5_cell 90 = .ok (.getfield 16, 3) := by decide +kernel
theorem dX5_cell_93 : decode cX5_cell 93 = .ok (.bipush 60, 2) := by decide +kernel
theorem dX5_cell_95 : decode cX5_cell 95 = .ok (.iload_n 1, 1) := by decide +kernel
theorem dX5_cell_96 : decode cX5_cell 96 = .ok (.imul, 1) := by decide +kernel
theorem dX5_cell_97 : decode cX5_cell 97 = .ok (.iload_n 2, 1) := by decide +kernel
theorem dX5_cell_98 : decode cX5_cell 98 = .ok (.iadd, 1) := by decide +kernel
theorem dX5_cell_99 : decode cX5_cell 99 = .ok (.iaload, 1) := by decide +kernel
theorem dX5_cell_100 : decode cX5_cell 100 = .ok (.i2l, 1) := by decide +kernel
theorem dX5_cell_101 : decode cX5_cell 101 = .ok (.lreturn, 1) := by decide +kernel
theorem dX5_copy_0 : decode cX5_copy 0 = .ok (.aload_n 0, 1) := by decide +kernel
theorem dX5_copy_1 : decode cX5_copy 1 = .ok (.iconst 0, 1) := by decide +kernel
theorem dX5_copy_2 : decode cX5_copy 2 = .ok (.putfield 62, 3) := by decide +kernel
theorem dX5_copy_5 : decode cX5_copy 5 = .ok (.iload_n 1, 1) := by decide +kernel
theorem dX5_copy_6 : decode cX5_copy 6 = .ok (.invokestatic 83, 3) := by decide +kernel
theorem dX5_copy_9 : decode cX5_copy 9 = .ok (.ifCond .eq 10, 3) := by decide +kernel
theorem dX5_copy_12 : decode cX5_copy 12 = .ok (.iload_n 3, 1) := by decide +kernel
theorem dX5_copy_13 : decode cX5_copy 13 = .ok (.invokestatic 83, 3) := by decide +kernel
theorem dX5_copy_16 : decode cX5_copy 16 = .ok (.ifCond .ne 5, 3) := by decide +kernel
theorem dX5_copy_19 : decode cX5_copy 19 = .ok (.iconst (-1), 1) := by decide +kernel
theorem dX5_copy_20 : decode cX5_copy 20 = .ok (.ireturn, 1) := by decide +kernel
theorem dX5_copy_21 : decode cX5_copy 21 = .ok (.aload_n 0, 1) := by decide +kernel
theorem dX5_copy_22 : decode cX5_copy 22 = .ok (.getfield 9, 3) := by decide +kernel
theorem dX5_copy_25 : decode cX5_copy 25 = .ok (.iload_n 1, 1) := by decide +kernel
theorem dX5_copy_26 : decode cX5_copy 26 = .ok (.iaload, 1) := by decide +kernel
theorem dX5_copy_27 : decode cX5_copy 27 = .ok (.bipush (-9), 2) := by decide +kernel
theorem dX5_copy_29 : decode cX5_copy 29 = .ok (.if_icmp .eq 14, 3) := by decide +kernel
theorem dX5_copy_32 : decode cX5_copy 32 = .ok (.aload_n 0, 1) := by decide +kernel
theorem dX5_copy_33 : decode cX5_copy 33 = .ok (.getfield 9, 3) := by decide +kernel
theorem dX5_copy_36 : decode cX5_copy 36 = .ok (.iload_n 3, 1) := by decide +kernel
theorem dX5_copy_37 : decode cX5_copy 37 = .ok (.iaload, 1) := by decide +kernel
theorem dX5_copy_38 : decode cX5_copy 38 = .ok (.bipush (-9), 2) := by decide +kernel
theorem dX5_copy_40 : decode cX5_copy 40 = .ok (.if_icmp .ne 9, 3) := by decide +kernel
theorem dX5_copy_43 : decode cX5_copy 43 = .ok (.aload_n 0, 1) := by decide +kernel
theorem dX5_copy_44 : decode cX5_copy 44 = .ok (.iconst 1, 1) := by decide +kernel
theorem dX5_copy_45 : decode cX5_copy 45 = .ok (.invokevirtual 94, 3) := by decide +kernel
theorem dX5_copy_48 : decode cX5_copy 48 = .ok (.ireturn, 1) := by decide +kernel
theorem dX5_copy_49 : decode cX5_copy 49 = .ok (.aload_n 0, 1) := by decide +kernel
theorem dX5_copy_50 : decode cX5_copy 50 = .ok (.getfield 9, 3) := by decide +kernel
theorem dX5_copy_53 : decode cX5_copy 53 = .ok (.iload_n 1, 1) := by decide +kernel
theorem dX5_copy_54 : decode cX5_copy 54 = .ok (.iaload, 1) := by decide +kernel
theorem dX5_copy_55 : decode cX5_copy 55 = .ok (.aload_n 0, 1) := by decide +kernel
theorem dX5_copy_56 : decode cX5_copy 56 = .ok (.getfield 9, 3) := by decide +kernel
theorem dX5_copy_59 : decode cX5_copy 59 = .ok (.iload_n 3, 1) := by decide +kernel
theorem dX5_copy_60 : decode cX5_copy 60 = .ok (.iaload, 1) := by decide +kernel
theorem dX5_copy_61 : decode cX5_copy 61 = .ok (.if_icmp .eq 9, 3) := by decide +kernel
theorem dX5_copy_64 : decode cX5_copy 64 = .ok (.aload_n 0, 1) := by decide +kernel
theorem dX5_copy_65 : decode cX5_copy 65 = .ok (.iconst 2, 1) := by decide +kernel
theorem dX5_copy_66 : decode cX5_copy 66 = .ok (.invokevirtual 94, 3) := by decide +kernel
theorem dX5_copy_69 : decode cX5_copy 69 = .ok (.ireturn, 1) := by decide +kernel
theorem dX5_copy_70 : decode cX5_copy 70 = .ok (.iload_n 2, 1) := by decide +kernel
theorem dX5_copy_71 : decode cX5_copy 71 = .ok (.ifCond .lt 38, 3) := by decide +kernel
theorem dX5_copy_74 : decode cX5_copy 74 = .ok (.iload 4, 2) := by decide +kernel
theorem dX5_copy_76 : decode cX5_copy 76 = .ok (.ifCond .lt 33, 3) := by decide +kernel
theorem dX5_copy_79 : decode cX5_copy 79 = .ok (.iload 5, 2) := by decide +kernel
theorem dX5_copy_81 : decode cX5_copy 81 = .ok (.ifCond .lt 28, 3) := by decide +kernel
theorem dX5_copy_84 : decode cX5_copy 84 = .ok (.iload_n 2, 1) := by decide +kernel
theorem dX5_copy_85 : decode cX5_copy 85 = .ok (.aload_n 0, 1) := by decide +kernel
theorem dX5_copy_86 : decode cX5_copy 86 = .ok (.getfield 13, 3) := by decide +kernel
theorem dX5_copy_89 : decode cX5_copy 89 = .ok (.iload_n 1, 1) := by decide +kernel
theorem dX5_copy_90 : decode cX5_copy 90 = .ok (.iaload, 1) := by decide +kernel
theorem dX5_copy_91 : decode cX5_copy 91 = .ok (.if_icmp .gt 18, 3) := by decide +kernel
theorem dX5_copy_94 : decode cX5_copy 94 = .ok (.iload 4, 2) := by decide +kernel
theorem dX5_copy_96 : decode cX5_copy 96 = .ok (.aload_n 0, 1) := by decide +kernel
theorem dX5_copy_97 : decode cX5_copy 97 = .ok (.getfield 13, 3) := by decide +kernel
theorem dX5_copy_100 : decode cX5_copy 100 = .ok (.iload_n 3, 1) := by decide +kernel
theorem dX5_copy_101 : decode cX5_copy 101 = .ok (.iaload, 1) := by decide +kernel
theorem dX5_copy_102 : decode cX5_copy 102 = .ok (.if_icmp .gt 7, 3) := by decide +kernel
theorem dX5_copy_105 : decode cX5_copy 105 = .ok (.iconst 1, 1) := by decide +kernel
theorem dX5_copy_106 : decode cX5_copy 106 = .ok (.goto 4, 3) := by decide +kernel
theorem dX5_copy_109 : decode cX5_copy 109 = .ok (.iconst 0, 1) := by decide +kernel
theorem dX5_copy_110 : decode cX5_copy 110 = .ok (.istore 6, 2) := by decide +kernel
theorem dX5_copy_112 : decode cX5_copy 112 = .ok (.iload 6, 2) := by decide +kernel
theorem dX5_copy_114 : decode cX5_copy 114 = .ok (.ifCond .eq 30, 3) := by decide +kernel
theorem dX5_copy_117 : decode cX5_copy 117 = .ok (.iload 5, 2) := by decide +kernel
theorem dX5_copy_119 : decode cX5_copy 119 = .ok (.aload_n 0, 1) := by decide +kernel
theorem dX5_copy_120 : decode cX5_copy 120 = .ok (.getfield 13, 3) := by decide +kernel
theorem dX5_copy_123 : decode cX5_copy 123 = .ok (.iload_n 1, 1) := by decide +kernel
theorem dX5_copy_124 : decode cX5_copy 124 = .ok (.iaload, 1) := by decide +kernel
theorem dX5_copy_125 : decode cX5_copy 125 = .ok (.iload_n 2, 1) := by decide +kernel
theorem dX5_copy_126 : decode cX5_copy 126 = .ok (.isub, 1) := by decide +kernel
theorem dX5_copy_127 : decode cX5_copy 127 = .ok (.if_icmp .gt 17, 3) := by decide +kernel
theorem dX5_copy_130 : decode cX5_copy 130 = .ok (.iload 5, 2) := by decide +kernel
theorem dX5_copy_132 : decode cX5_copy 132 = .ok (.aload_n 0, 1) := by decide +kernel
theorem dX5_copy_133 : decode cX5_copy 133 = .ok (.getfield 13, 3) := by decide +kernel
theorem dX5_copy_136 : decode cX5_copy 136 = .ok (.iload_n 3, 1) := by decide +kernel
theorem dX5_copy_137 : decode cX5_copy 137 = .ok (.iaload, 1) := by decide +kernel
theorem dX5_copy_138 : decode cX5_copy 138 = .ok (.iload 4, 2) := by decide +kernel
theorem dX5_copy_140 : decode cX5_copy 140 = .ok (.isub, 1) := by decide +kernel
theorem dX5_copy_141 : decode cX5_copy 141 = .ok (.if_icmp .le 9, 3) := by decide +kernel
theorem dX5_copy_144 : decode cX5_copy 144 = .ok (.aload_n 0, 1) := by decide +kernel
theorem dX5_copy_145 : decode cX5_copy 145 = .ok (.iconst 3, 1) := by decide +kernel
theorem dX5_copy_146 : decode cX5_copy 146 = .ok (.invokevirtual 94, 3) := by decide +kernel
theorem dX5_copy_149 : decode cX5_copy 149 = .ok (.ireturn, 1) := by decide +kernel
theorem dX5_copy_150 : decode cX5_copy 150 = .ok (.iload_n 2, 1) := by decide +kernel
theorem dX5_copy_151 : decode cX5_copy 151 = .ok (.iload 4, 2) := by decide +kernel
theorem dX5_copy_153 : decode cX5_copy 153 = .ok (.if_icmp .ge 7, 3) := by decide +kernel
theorem dX5_copy_156 : decode cX5_copy 156 = .ok (.iconst 1, 1) := by decide +kernel
theorem dX5_copy_157 : decode cX5_copy 157 = .ok (.goto 4, 3) := by decide +kernel
theorem dX5_copy_160 : decode cX5_copy 160 = .ok (.iconst 0, 1) := by decide +kernel
theorem dX5_copy_161 : decode cX5_copy 161 = .ok (.istore 7, 2) := by decide +kernel
theorem dX5_copy_163 : decode cX5_copy 163 = .ok (.iconst 0, 1) := by decide +kernel
theorem dX5_copy_164 : decode cX5_copy 164 = .ok (.istore 8, 2) := by decide +kernel
theorem dX5_copy_166 : decode cX5_copy 166 = .ok (.iload 8, 2) := by decide +kernel
theorem dX5_copy_168 : decode cX5_copy 168 = .ok (.iload 5, 2) := by decide +kernel
theorem dX5_copy_170 : decode cX5_copy 170 = .ok (.if_icmp .ge 57, 3) := by decide +kernel
theorem dX5_copy_173 : decode cX5_copy 173 = .ok (.iload 7, 2) := by decide +kernel
theorem dX5_copy_175 : decode cX5_copy 175 = .ok (.ifCond .eq 13, 3) := by decide +kernel
theorem dX5_copy_178 : decode cX5_copy 178 = .ok (.iload 5, 2) := by decide +kernel
theorem dX5_copy_180 : decode cX5_copy 180 = .ok (.iconst 1, 1) := by decide +kernel
theorem dX5_copy_181 : decode cX5_copy 181 = .ok (.isub, 1) := by decide +kernel
theorem dX5_copy_182 : decode cX5_copy 182 = .ok (.iload 8, 2) := by decide +kernel
theorem dX5_copy_184 : decode cX5_copy 184 = .ok (.isub, 1) := by decide +kernel
theorem dX5_copy_185 : decode cX5_copy 185 = .ok (.goto 5, 3) := by decide +kernel
theorem dX5_copy_188 : decode cX5_copy 188 = .ok (.iload 8, 2) := by decide +kernel
theorem dX5_copy_190 : decode cX5_copy 190 = .ok (.istore 9, 2) := by decide +kernel
theorem dX5_copy_192 : decode cX5_copy 192 = .ok (.aload_n 0, 1) := by decide +kernel
theorem dX5_copy_193 : decode cX5_copy 193 = .ok (.getfield 16, 3) := by decide +kernel
theorem dX5_copy_196 : decode cX5_copy 196 = .ok (.bipush 60, 2) := by decide +kernel
theorem dX5_copy_198 : decode cX5_copy 198 = .ok (.iload_n 3, 1) := by decide +kernel
theorem dX5_copy_199 : decode cX5_copy 199 = .ok (.imul, 1) := by decide +kernel
theorem dX5_copy_200 : decode cX5_copy 200 = .ok (.iload 4, 2) := by decide +kernel
theorem dX5_copy_202 : decode cX5_copy 202 = .ok (.iadd, 1) := by decide +kernel
theorem dX5_copy_203 : decode cX5_copy 203 = .ok (.iload 9, 2) := by decide +kernel
theorem dX5_copy_205 : decode cX5_copy 205 = .ok (.iadd, 1) := by decide +kernel
theorem dX5_copy_206 : decode cX5_copy 206 = .ok (.aload_n 0, 1) := by decide +kernel
theorem dX5_copy_207 : decode cX5_copy 207 = .ok (.getfield 16, 3) := by decide +kernel
theorem dX5_copy_210 : decode cX5_copy 210 = .ok (.bipush 60, 2) := by decide +kernel
theorem dX5_copy_212 : decode cX5_copy 212 = .ok (.iload_n 1, 1) := by decide +kernel
theorem dX5_copy_213 : decode cX5_copy 213 = .ok (.imul, 1) := by decide +kernel
theorem dX5_copy_214 : decode cX5_copy 214 = .ok (.iload_n 2, 1) := by decide +kernel
theorem dX5_copy_215 : decode cX5_copy 215 = .ok (.iadd, 1) := by decide +kernel
theorem dX5_copy_216 : decode cX5_copy 216 = .ok (.iload 9, 2) := by decide +kernel
theorem dX5_copy_218 : decode cX5_copy 218 = .ok (.iadd, 1) := by decide +kernel
theorem dX5_copy_219 : decode cX5_copy 219 = .ok (.iaload, 1) := by decide +kernel
theorem dX5_copy_220 : decode cX5_copy 220 = .ok (.iastore, 1) := by decide +kernel
theorem dX5_copy_221 : decode cX5_copy 221 = .ok (.iinc 8 1, 3) := by decide +kernel
theorem dX5_copy_224 : decode cX5_copy 224 = .ok (.goto (-58), 3) := by decide +kernel
theorem dX5_copy_227 : decode cX5_copy 227 = .ok (.iload 5, 2) := by decide +kernel
theorem dX5_copy_229 : decode cX5_copy 229 = .ok (.ireturn, 1) := by decide +kernel
theorem dX5_begins_0 : decode cX5_begins 0 = .ok (.aload_n 0, 1) := by decide +kernel
theorem dX5_begins_1 : decode cX5_begins 1 = .ok (.bipush 31, 2) := by decide +kernel
theorem dX5_begins_3 : decode cX5_begins 3 = .ok (.aload_n 0, 1) := by decide +kernel
theorem dX5_begins_4 : decode cX5_begins 4 = .ok (.getfield 226, 3) := by decide +kernel
theorem dX5_begins_7 : decode cX5_begins 7 = .ok (.imul, 1) := by decide +kernel
theorem dX5_begins_8 : decode cX5_begins 8 = .ok (.iload_n 1, 1) := by decide +kernel
theorem dX5_begins_9 : decode cX5_begins 9 = .ok (.iadd, 1) := by decide +kernel
theorem dX5_begins_10 : decode cX5_begins 10 = .ok (.putfield 226, 3) := by decide +kernel
theorem dX5_begins_13 : decode cX5_begins 13 = .ok (.return_, 1) := by decide +kernel
theorem dX5_tell_0 : decode cX5_tell 0 = .ok (.aload_n 0, 1) := by decide +kernel
theorem dX5_tell_1 : decode cX5_tell 1 = .ok (.iload_n 1, 1) := by decide +kernel
theorem dX5_tell_2 : decode cX5_tell 2 = .ok (.invokevirtual 145, 3) := by decide +kernel
theorem dX5_tell_5 : decode cX5_tell 5 = .ok (.ifCond .ne 5, 3) := by decide +kernel
theorem dX5_tell_8 : decode cX5_tell 8 = .ok (.iconst (-1), 1) := by decide +kernel
theorem dX5_tell_9 : decode cX5_tell 9 = .ok (.ireturn, 1) := by decide +kernel
theorem dX5_tell_10 : decode cX5_tell 10 = .ok (.aload_n 0, 1) := by decide +kernel
theorem dX5_tell_11 : decode cX5_tell 11 = .ok (.getfield 29, 3) := by decide +kernel
theorem dX5_tell_14 : decode cX5_tell 14 = .ok (.iload_n 1, 1) := by decide +kernel
theorem dX5_tell_15 : decode cX5_tell 15 = .ok (.iaload, 1) := by decide +kernel
theorem dX5_tell_16 : decode cX5_tell 16 = .ok (.istore_n 2, 1) := by decide +kernel
theorem dX5_tell_17 : decode cX5_tell 17 = .ok (.aload_n 0, 1) := by decide +kernel
theorem dX5_tell_18 : decode cX5_tell 18 = .ok (.getfield 26, 3) := by decide +kernel
theorem dX5_tell_21 : decode cX5_tell 21 = .ok (.iload_n 1, 1) := by decide +kernel
theorem dX5_tell_22 : decode cX5_tell 22 = .ok (.iaload, 1) := by decide +kernel
theorem dX5_tell_23 : decode cX5_tell 23 = .ok (.lookupswitch 67 #[(1, 25), (2, 40)], 25) := by decide +kernel
theorem dX5_tell_48 : decode cX5_tell 48 = .ok (.aload_n 0, 1) := by decide +kernel
theorem dX5_tell_49 : decode cX5_tell 49 = .ok (.iconst 2, 1) := by decide +kernel
theorem dX5_tell_50 : decode cX5_tell 50 = .ok (.invokevirtual 229, 3) := by decide +kernel
theorem dX5_tell_53 : decode cX5_tell 53 = .ok (.aload_n 0, 1) := by decide +kernel
theorem dX5_tell_54 : decode cX5_tell 54 = .ok (.iconst 1, 1) := by decide +kernel
theorem dX5_tell_55 : decode cX5_tell 55 = .ok (.invokevirtual 229, 3) := by decide +kernel
theorem dX5_tell_58 : decode cX5_tell 58 = .ok (.iload_n 2, 1) := by decide +kernel
theorem dX5_tell_59 : decode cX5_tell 59 = .ok (.bipush 100, 2) := by decide +kernel
theorem dX5_tell_61 : decode cX5_tell 61 = .ok (.iadd, 1) := by decide +kernel
theorem dX5_tell_62 : decode cX5_tell 62 = .ok (.ireturn, 1) := by decide +kernel
theorem dX5_tell_63 : decode cX5_tell 63 = .ok (.aload_n 0, 1) := by decide +kernel
theorem dX5_tell_64 : decode cX5_tell 64 = .ok (.iconst 3, 1) := by decide +kernel
theorem dX5_tell_65 : decode cX5_tell 65 = .ok (.invokevirtual 229, 3) := by decide +kernel
theorem dX5_tell_68 : decode cX5_tell 68 = .ok (.aload_n 0, 1) := by decide +kernel
theorem dX5_tell_69 : decode cX5_tell 69 = .ok (.iconst 2, 1) := by decide +kernel
theorem dX5_tell_70 : decode cX5_tell 70 = .ok (.invokevirtual 229, 3) := by decide +kernel
theorem dX5_tell_73 : decode cX5_tell 73 = .ok (.aload_n 0, 1) := by decide +kernel
theorem dX5_tell_74 : decode cX5_tell 74 = .ok (.iconst 1, 1) := by decide +kernel
theorem dX5_tell_75 : decode cX5_tell 75 = .ok (.invokevirtual 229, 3) := by decide +kernel
theorem dX5_tell_78 : decode cX5_tell 78 = .ok (.aload_n 0, 1) := by decide +kernel
theorem dX5_tell_79 : decode cX5_tell 79 = .ok (.iconst 1, 1) := by decide +kernel
theorem dX5_tell_80 : decode cX5_tell 80 = .ok (.invokevirtual 229, 3) := by decide +kernel
theorem dX5_tell_83 : decode cX5_tell 83 = .ok (.iconst 2, 1) := by decide +kernel
theorem dX5_tell_84 : decode cX5_tell 84 = .ok (.iload_n 2, 1) := by decide +kernel
theorem dX5_tell_85 : decode cX5_tell 85 = .ok (.imul, 1) := by decide +kernel
theorem dX5_tell_86 : decode cX5_tell 86 = .ok (.bipush 100, 2) := by decide +kernel
theorem dX5_tell_88 : decode cX5_tell 88 = .ok (.iadd, 1) := by decide +kernel
theorem dX5_tell_89 : decode cX5_tell 89 = .ok (.ireturn, 1) := by decide +kernel
theorem dX5_tell_90 : decode cX5_tell 90 = .ok (.aload_n 0, 1) := by decide +kernel
theorem dX5_tell_91 : decode cX5_tell 91 = .ok (.iconst 1, 1) := by decide +kernel
theorem dX5_tell_92 : decode cX5_tell 92 = .ok (.invokevirtual 229, 3) := by decide +kernel
theorem dX5_tell_95 : decode cX5_tell 95 = .ok (.iload_n 2, 1) := by decide +kernel
theorem dX5_tell_96 : decode cX5_tell 96 = .ok (.ireturn, 1) := by decide +kernel
theorem dX5_pinch_0 : decode cX5_pinch 0 = .ok (.aload_n 0, 1) := by decide +kernel
theorem dX5_pinch_1 : decode cX5_pinch 1 = .ok (.iload_n 1, 1) := by decide +kernel
theorem dX5_pinch_2 : decode cX5_pinch 2 = .ok (.invokevirtual 145, 3) := by decide +kernel
theorem dX5_pinch_5 : decode cX5_pinch 5 = .ok (.ifCond .ne 5, 3) := by decide +kernel
theorem dX5_pinch_8 : decode cX5_pinch 8 = .ok (.iconst (-1), 1) := by decide +kernel
theorem dX5_pinch_9 : decode cX5_pinch 9 = .ok (.ireturn, 1) := by decide +kernel
theorem dX5_pinch_10 : decode cX5_pinch 10 = .ok (.aload_n 0, 1) := by decide +kernel
theorem dX5_pinch_11 : decode cX5_pinch 11 = .ok (.aload_n 0, 1) := by decide +kernel
theorem dX5_pinch_12 : decode cX5_pinch 12 = .ok (.getfield 26, 3) := by decide +kernel
theorem dX5_pinch_15 : decode cX5_pinch 15 = .ok (.iload_n 1, 1) := by decide +kernel
theorem dX5_pinch_16 : decode cX5_pinch 16 = .ok (.iaload, 1) := by decide +kernel
theorem dX5_pinch_17 : decode cX5_pinch 17 = .ok (.iconst 2, 1) := by decide +kernel
theorem dX5_pinch_18 : decode cX5_pinch 18 = .ok (.if_icmp .ne 7, 3) := by decide +kernel
theorem dX5_pinch_21 : decode cX5_pinch 21 = .ok (.iconst 5, 1) := by decide +kernel
theorem dX5_pinch_22 : decode cX5_pinch 22 = .ok (.goto 4, 3) := by decide +kernel
theorem dX5_pinch_25 : decode cX5_pinch 25 = .ok (.iconst 4, 1) := by decide +kernel
theorem dX5_pinch_26 : decode cX5_pinch 26 = .ok (.invokevirtual 229, 3) := by decide +kernel
theorem dX5_pinch_29 : decode cX5_pinch 29 = .ok (.aload_n 0, 1) := by decide +kernel
theorem dX5_pinch_30 : decode cX5_pinch 30 = .ok (.getfield 26, 3) := by decide +kernel
theorem dX5_pinch_33 : decode cX5_pinch 33 = .ok (.iload_n 1, 1) := by decide +kernel
theorem dX5_pinch_34 : decode cX5_pinch 34 = .ok (.iaload, 1) := by decide +kernel
theorem dX5_pinch_35 : decode cX5_pinch 35 = .ok (.iconst 2, 1) := by decide +kernel
theorem dX5_pinch_36 : decode cX5_pinch 36 = .ok (.if_icmp .ne 8, 3) := by decide +kernel
theorem dX5_pinch_39 : decode cX5_pinch 39 = .ok (.bipush 80, 2) := by decide +kernel
theorem dX5_pinch_41 : decode cX5_pinch 41 = .ok (.goto 11, 3) := by decide +kernel
theorem dX5_pinch_44 : decode cX5_pinch 44 = .ok (.aload_n 0, 1) := by decide +kernel
theorem dX5_pinch_45 : decode cX5_pinch 45 = .ok (.iload_n 1, 1) := by decide +kernel
theorem dX5_pinch_46 : decode cX5_pinch 46 = .ok (.invokevirtual 151, 3) := by decide +kernel
theorem dX5_pinch_49 : decode cX5_pinch 49 = .ok (.invokestatic 171, 3) := by decide +kernel
theorem dX5_pinch_52 : decode cX5_pinch 52 = .ok (.ireturn, 1) := by decide +kernel
theorem dX5_as_0 : decode cX5_as 0 = .ok (.aload_n 0, 1) := by decide +kernel
theorem dX5_as_1 : decode cX5_as 1 = .ok (.iconst 0, 1) := by decide +kernel
theorem dX5_as_2 : decode cX5_as 2 = .ok (.putfield 62, 3) := by decide +kernel
theorem dX5_as_5 : decode cX5_as 5 = .ok (.aload_n 0, 1) := by decide +kernel
theorem dX5_as_6 : decode cX5_as 6 = .ok (.iload_n 1, 1) := by decide +kernel
theorem dX5_as_7 : decode cX5_as 7 = .ok (.invokevirtual 145, 3) := by decide +kernel
theorem dX5_as_10 : decode cX5_as 10 = .ok (.ifCond .ne 5, 3) := by decide +kernel
theorem dX5_as_13 : decode cX5_as 13 = .ok (.iconst (-1), 1) := by decide +kernel
theorem dX5_as_14 : decode cX5_as 14 = .ok (.ireturn, 1) := by decide +kernel
theorem dX5_as_15 : decode cX5_as 15 = .ok (.iload_n 2, 1) := by decide +kernel
theorem dX5_as_16 : decode cX5_as 16 = .ok (.iconst 0, 1) := by decide +kernel
theorem dX5_as_17 : decode cX5_as 17 = .ok (.iconst 2, 1) := by decide +kernel
theorem dX5_as_18 : decode cX5_as 18 = .ok (.invokestatic 67, 3) := by decide +kernel
theorem dX5_as_21 : decode cX5_as 21 = .ok (.ifCond .ne 6, 3) := by decide +kernel
theorem dX5_as_24 : decode cX5_as 24 = .ok (.bipush (-2), 2) := by decide +kernel
theorem dX5_as_26 : decode cX5_as 26 = .ok (.ireturn, 1) := by decide +kernel
theorem dX5_as_27 : decode cX5_as 27 = .ok (.aload_n 0, 1) := by decide +kernel
theorem dX5_as_28 : decode cX5_as 28 = .ok (.getfield 26, 3) := by decide +kernel
theorem dX5_as_31 : decode cX5_as 31 = .ok (.iload_n 1, 1) := by decide +kernel
theorem dX5_as_32 : decode cX5_as 32 = .ok (.iaload, 1) := by decide +kernel
theorem dX5_as_33 : decode cX5_as 33 = .ok (.iload_n 2, 1) := by decide +kernel
theorem dX5_as_34 : decode cX5_as 34 = .ok (.if_icmp .lt 7, 3) := by decide +kernel
theorem dX5_as_37 : decode cX5_as 37 = .ok (.iconst 1, 1) := by decide +kernel
theorem dX5_as_38 : decode cX5_as 38 = .ok (.goto 8, 3) := by decide +kernel
theorem dX5_as_41 : decode cX5_as 41 = .ok (.aload_n 0, 1) := by decide +kernel
theorem dX5_as_42 : decode cX5_as 42 = .ok (.iconst 2, 1) := by decide +kernel
theorem dX5_as_43 : decode cX5_as 43 = .ok (.invokevirtual 94, 3) := by decide +kernel
theorem dX5_as_46 : decode cX5_as 46 = .ok (.ireturn, 1) := by decide +kernel
theorem dX5_trace_0 : decode cX5_trace 0 = .ok (.aload_n 0, 1) := by decide +kernel
theorem dX5_trace_1 : decode cX5_trace 1 = .ok (.getfield 226, 3) := by decide +kernel
theorem dX5_trace_4 : decode cX5_trace 4 = .ok (.ireturn, 1) := by decide +kernel
theorem dX5_fault_0 : decode cX5_fault 0 = .ok (.aload_n 0, 1) := by decide +kernel
theorem dX5_fault_1 : decode cX5_fault 1 = .ok (.getfield 62, 3) := by decide +kernel
theorem dX5_fault_4 : decode cX5_fault 4 = .ok (.ireturn, 1) := by decide +kernel
theorem dX5_many_0 : decode cX5_many 0 = .ok (.iload_n 1, 1) := by decide +kernel
theorem dX5_many_1 : decode cX5_many 1 = .ok (.tableswitch 63 0 4 #[35, 40, 45, 50, 58], 35) := by decide +kernel
theorem dX5_many_36 : decode cX5_many 36 = .ok (.aload_n 0, 1) := by decide +kernel
theorem dX5_many_37 : decode cX5_many 37 = .ok (.getfield 71, 3) := by decide +kernel
theorem dX5_many_40 : decode cX5_many 40 = .ok (.ireturn, 1) := by decide +kernel
theorem dX5_many_41 : decode cX5_many 41 = .ok (.aload_n 0, 1) := by decide +kernel
theorem dX5_many_42 : decode cX5_many 42 = .ok (.getfield 74, 3) := by decide +kernel
theorem dX5_many_45 : decode cX5_many 45 = .ok (.ireturn, 1) := by decide +kernel
theorem dX5_many_46 : decode cX5_many 46 = .ok (.aload_n 0, 1) := by decide +kernel
theorem dX5_many_47 : decode cX5_many 47 = .ok (.getfield 77, 3) := by decide +kernel
theorem dX5_many_50 : decode cX5_many 50 = .ok (.ireturn, 1) := by decide +kernel
theorem dX5_many_51 : decode cX5_many 51 = .ok (.aload_n 0, 1) := by decide +kernel
theorem dX5_many_52 : decode cX5_many 52 = .ok (.invokevirtual 154, 3) := by decide +kernel
theorem dX5_many_55 : decode cX5_many 55 = .ok (.invokestatic 171, 3) := by decide +kernel
theorem dX5_many_58 : decode cX5_many 58 = .ok (.ireturn, 1) := by decide +kernel
theorem dX5_many_59 : decode cX5_many 59 = .ok (.aload_n 0, 1) := by decide +kernel
theorem dX5_many_60 : decode cX5_many 60 = .ok (.getfield 116, 3) := by decide +kernel
theorem dX5_many_63 : decode cX5_many 63 = .ok (.ireturn, 1) := by decide +kernel
theorem dX5_many_64 : decode cX5_many 64 = .ok (.bipush (-2), 2) := by decide +kernel
theorem dX5_many_66 : decode cX5_many 66 = .ok (.ireturn, 1) := by decide +kernel
theorem dJ6_bitCount_0f7a4_0 : decode cJ6_bitCount_0f7a4 0 = .ok (.iload_n 0, 1) := by decide +kernel
theorem dJ6_bitCount_0f7a4_1 : decode cJ6_bitCount_0f7a4 1 = .ok (.iload_n 0, 1) := by decide +kernel
theorem dJ6_bitCount_0f7a4_2 : decode cJ6_bitCount_0f7a4 2 = .ok (.iconst 1, 1) := by decide +kernel
theorem dJ6_bitCount_0f7a4_3 : decode cJ6_bitCount_0f7a4 3 = .ok (.iushr, 1) := by decide +kernel
theorem dJ6_bitCount_0f7a4_4 : decode cJ6_bitCount_0f7a4 4 = .ok (.ldc_w 265, 3) := by decide +kernel
theorem dJ6_bitCount_0f7a4_7 : decode cJ6_bitCount_0f7a4 7 = .ok (.iand, 1) := by decide +kernel
theorem dJ6_bitCount_0f7a4_8 : decode cJ6_bitCount_0f7a4 8 = .ok (.isub, 1) := by decide +kernel
theorem dJ6_bitCount_0f7a4_9 : decode cJ6_bitCount_0f7a4 9 = .ok (.istore_n 0, 1) := by decide +kernel
theorem dJ6_bitCount_0f7a4_10 : decode cJ6_bitCount_0f7a4 10 = .ok (.iload_n 0, 1) := by decide +kernel
theorem dJ6_bitCount_0f7a4_11 : decode cJ6_bitCount_0f7a4 11 = .ok (.ldc_w 266, 3) := by decide +kernel
theorem dJ6_bitCount_0f7a4_14 : decode cJ6_bitCount_0f7a4 14 = .ok (.iand, 1) := by decide +kernel
theorem dJ6_bitCount_0f7a4_15 : decode cJ6_bitCount_0f7a4 15 = .ok (.iload_n 0, 1) := by decide +kernel
theorem dJ6_bitCount_0f7a4_16 : decode cJ6_bitCount_0f7a4 16 = .ok (.iconst 2, 1) := by decide +kernel
theorem dJ6_bitCount_0f7a4_17 : decode cJ6_bitCount_0f7a4 17 = .ok (.iushr, 1) := by decide +kernel
theorem dJ6_bitCount_0f7a4_18 : decode cJ6_bitCount_0f7a4 18 = .ok (.ldc_w 266, 3) := by decide +kernel
theorem dJ6_bitCount_0f7a4_21 : decode cJ6_bitCount_0f7a4 21 = .ok (.iand, 1) := by decide +kernel
theorem dJ6_bitCount_0f7a4_22 : decode cJ6_bitCount_0f7a4 22 = .ok (.iadd, 1) := by decide +kernel
theorem dJ6_bitCount_0f7a4_23 : decode cJ6_bitCount_0f7a4 23 = .ok (.istore_n 0, 1) := by decide +kernel
theorem dJ6_bitCount_0f7a4_24 : decode cJ6_bitCount_0f7a4 24 = .ok (.iload_n 0, 1) := by decide +kernel
theorem dJ6_bitCount_0f7a4_25 : decode cJ6_bitCount_0f7a4 25 = .ok (.iload_n 0, 1) := by decide +kernel
theorem dJ6_bitCount_0f7a4_26 : decode cJ6_bitCount_0f7a4 26 = .ok (.iconst 4, 1) := by decide +kernel
theorem dJ6_bitCount_0f7a4_27 : decode cJ6_bitCount_0f7a4 27 = .ok (.iushr, 1) := by decide +kernel
theorem dJ6_bitCount_0f7a4_28 : decode cJ6_bitCount_0f7a4 28 = .ok (.iadd, 1) := by decide +kernel
theorem dJ6_bitCount_0f7a4_29 : decode cJ6_bitCount_0f7a4 29 = .ok (.ldc_w 267, 3) := by decide +kernel
theorem dJ6_bitCount_0f7a4_32 : decode cJ6_bitCount_0f7a4 32 = .ok (.iand, 1) := by decide +kernel
theorem dJ6_bitCount_0f7a4_33 : decode cJ6_bitCount_0f7a4 33 = .ok (.istore_n 0, 1) := by decide +kernel
theorem dJ6_bitCount_0f7a4_34 : decode cJ6_bitCount_0f7a4 34 = .ok (.iload_n 0, 1) := by decide +kernel
theorem dJ6_bitCount_0f7a4_35 : decode cJ6_bitCount_0f7a4 35 = .ok (.iload_n 0, 1) := by decide +kernel
theorem dJ6_bitCount_0f7a4_36 : decode cJ6_bitCount_0f7a4 36 = .ok (.bipush 8, 2) := by decide +kernel
theorem dJ6_bitCount_0f7a4_38 : decode cJ6_bitCount_0f7a4 38 = .ok (.iushr, 1) := by decide +kernel
theorem dJ6_bitCount_0f7a4_39 : decode cJ6_bitCount_0f7a4 39 = .ok (.iadd, 1) := by decide +kernel
theorem dJ6_bitCount_0f7a4_40 : decode cJ6_bitCount_0f7a4 40 = .ok (.istore_n 0, 1) := by decide +kernel
theorem dJ6_bitCount_0f7a4_41 : decode cJ6_bitCount_0f7a4 41 = .ok (.iload_n 0, 1) := by decide +kernel
theorem dJ6_bitCount_0f7a4_42 : decode cJ6_bitCount_0f7a4 42 = .ok (.iload_n 0, 1) := by decide +kernel
theorem dJ6_bitCount_0f7a4_43 : decode cJ6_bitCount_0f7a4 43 = .ok (.bipush 16, 2) := by decide +kernel
theorem dJ6_bitCount_0f7a4_45 : decode cJ6_bitCount_0f7a4 45 = .ok (.iushr, 1) := by decide +kernel
theorem dJ6_bitCount_0f7a4_46 : decode cJ6_bitCount_0f7a4 46 = .ok (.iadd, 1) := by decide +kernel
theorem dJ6_bitCount_0f7a4_47 : decode cJ6_bitCount_0f7a4 47 = .ok (.istore_n 0, 1) := by decide +kernel
theorem dJ6_bitCount_0f7a4_48 : decode cJ6_bitCount_0f7a4 48 = .ok (.iload_n 0, 1) := by decide +kernel
theorem dJ6_bitCount_0f7a4_49 : decode cJ6_bitCount_0f7a4 49 = .ok (.bipush 63, 2) := by decide +kernel
theorem dJ6_bitCount_0f7a4_51 : decode cJ6_bitCount_0f7a4 51 = .ok (.iand, 1) := by decide +kernel
theorem dJ6_bitCount_0f7a4_52 : decode cJ6_bitCount_0f7a4 52 = .ok (.ireturn, 1) := by decide +kernel
theorem dJ7_fill_53178_0 : decode cJ7_fill_53178 0 = .ok (.iconst 0, 1) := by decide +kernel
theorem dJ7_fill_53178_1 : decode cJ7_fill_53178 1 = .ok (.istore_n 2, 1) := by decide +kernel
theorem dJ7_fill_53178_2 : decode cJ7_fill_53178 2 = .ok (.aload_n 0, 1) := by decide +kernel
theorem dJ7_fill_53178_3 : decode cJ7_fill_53178 3 = .ok (.arraylength, 1) := by decide +kernel
theorem dJ7_fill_53178_4 : decode cJ7_fill_53178 4 = .ok (.istore_n 3, 1) := by decide +kernel
theorem dJ7_fill_53178_5 : decode cJ7_fill_53178 5 = .ok (.iload_n 2, 1) := by decide +kernel
theorem dJ7_fill_53178_6 : decode cJ7_fill_53178 6 = .ok (.iload_n 3, 1) := by decide +kernel
theorem dJ7_fill_53178_7 : decode cJ7_fill_53178 7 = .ok (.if_icmp .ge 13, 3) := by decide +kernel
theorem dJ7_fill_53178_10 : decode cJ7_fill_53178 10 = .ok (.aload_n 0, 1) := by decide +kernel
theorem dJ7_fill_53178_11 : decode cJ7_fill_53178 11 = .ok (.iload_n 2, 1) := by decide +kernel
theorem dJ7_fill_53178_12 : decode cJ7_fill_53178 12 = .ok (.iload_n 1, 1) := by decide +kernel
theorem dJ7_fill_53178_13 : decode cJ7_fill_53178 13 = .ok (.iastore, 1) := by decide +kernel
theorem dJ7_fill_53178_14 : decode cJ7_fill_53178 14 = .ok (.iinc 2 1, 3) := by decide +kernel
theorem dJ7_fill_53178_17 : decode cJ7_fill_53178 17 = .ok (.goto (-12), 3) := by decide +kernel
theorem dJ7_fill_53178_20 : decode cJ7_fill_53178 20 = .ok (.return_, 1) := by decide +kernel
theorem dL_law_0 : decode cL_law 0 = .ok (.new 7, 3) := by decide +kernel
theorem dL_law_3 : decode cL_law 3 = .ok (.dup, 1) := by decide +kernel
theorem dL_law_4 : decode cL_law 4 = .ok (.invokespecial 9, 3) := by decide +kernel
theorem dL_law_7 : decode cL_law 7 = .ok (.astore_n 1, 1) := by decide +kernel
theorem dL_law_8 : decode cL_law 8 = .ok (.new 10, 3) := by decide +kernel
theorem dL_law_11 : decode cL_law 11 = .ok (.dup, 1) := by decide +kernel
theorem dL_law_12 : decode cL_law 12 = .ok (.invokespecial 12, 3) := by decide +kernel
theorem dL_law_15 : decode cL_law 15 = .ok (.astore_n 2, 1) := by decide +kernel
theorem dL_law_16 : decode cL_law 16 = .ok (.iconst 0, 1) := by decide +kernel
theorem dL_law_17 : decode cL_law 17 = .ok (.istore_n 3, 1) := by decide +kernel
theorem dL_law_18 : decode cL_law 18 = .ok (.iload_n 3, 1) := by decide +kernel
theorem dL_law_19 : decode cL_law 19 = .ok (.aload_n 0, 1) := by decide +kernel
theorem dL_law_20 : decode cL_law 20 = .ok (.arraylength, 1) := by decide +kernel
theorem dL_law_21 : decode cL_law 21 = .ok (.bipush 6, 2) := by decide +kernel
theorem dL_law_23 : decode cL_law 23 = .ok (.isub, 1) := by decide +kernel
theorem dL_law_24 : decode cL_law 24 = .ok (.if_icmp .gt 1233, 3) := by decide +kernel
theorem dL_law_27 : decode cL_law 27 = .ok (.aload_n 0, 1) := by decide +kernel
theorem dL_law_28 : decode cL_law 28 = .ok (.iload_n 3, 1) := by decide +kernel
theorem dL_law_29 : decode cL_law 29 = .ok (.iaload, 1) := by decide +kernel
theorem dL_law_30 : decode cL_law 30 = .ok (.bipush 63, 2) := by decide +kernel
theorem dL_law_32 : decode cL_law 32 = .ok (.iand, 1) := by decide +kernel
theorem dL_law_33 : decode cL_law 33 = .ok (.tableswitch 1218 0 32 #[147, 200, 233, 266, 299, 332, 365, 398, 441, 464, 497, 560, 593, 616, 639, 662, 695, 738, 761, 784, 807, 830, 874, 917, 940, 983, 1027, 1090, 1113, 1136, 1169, 1182, 1195], 147) := by decide +kernel
theorem dL_law_180 : decode cL_law 180 = .ok (.aload_n 1, 1) := by decide +kernel
theorem dL_law_181 : decode cL_law 181 = .ok (.aload_n 0, 1) := by decide +kernel
theorem dL_law_182 : decode cL_law 182 = .ok (.iload_n 3, 1) := by decide +kernel
theorem dL_law_183 : decode cL_law 183 = .ok (.iconst 1, 1) := by decide +kernel
theorem dL_law_184 : decode cL_law 184 = .ok (.iadd, 1) := by decide +kernel
theorem dL_law_185 : decode cL_law 185 = .ok (.iaload, 1) := by decide +kernel
theorem dL_law_186 : decode cL_law 186 = .ok (.aload_n 0, 1) := by decide +kernel
theorem dL_law_187 : decode cL_law 187 = .ok (.iload_n 3, 1) := by decide +kernel
theorem dL_law_188 : decode cL_law 188 = .ok (.iconst 2, 1) := by decide +kernel
theorem dL_law_189 : decode cL_law 189 = .ok (.iadd, 1) := by decide +kernel
theorem dL_law_190 : decode cL_law 190 = .ok (.iaload, 1) := by decide +kernel
theorem dL_law_191 : decode cL_law 191 = .ok (.aload_n 0, 1) := by decide +kernel
theorem dL_law_192 : decode cL_law 192 = .ok (.iload_n 3, 1) := by decide +kernel
theorem dL_law_193 : decode cL_law 193 = .ok (.iconst 3, 1) := by decide +kernel
theorem dL_law_194 : decode cL_law 194 = .ok (.iadd, 1) := by decide +kernel
theorem dL_law_195 : decode cL_law 195 = .ok (.iaload, 1) := by decide +kernel
theorem dL_law_196 : decode cL_law 196 = .ok (.aload_n 0, 1) := by decide +kernel
theorem dL_law_197 : decode cL_law 197 = .ok (.iload_n 3, 1) := by decide +kernel
theorem dL_law_198 : decode cL_law 198 = .ok (.iconst 4, 1) := by decide +kernel
theorem dL_law_199 : decode cL_law 199 = .ok (.iadd, 1) := by decide +kernel
theorem dL_law_200 : decode cL_law 200 = .ok (.iaload, 1) := by decide +kernel
theorem dL_law_201 : decode cL_law 201 = .ok (.invokevirtual 13, 3) := by decide +kernel
theorem dL_law_204 : decode cL_law 204 = .ok (.aload_n 2, 1) := by decide +kernel
theorem dL_law_205 : decode cL_law 205 = .ok (.aload_n 0, 1) := by decide +kernel
theorem dL_law_206 : decode cL_law 206 = .ok (.iload_n 3, 1) := by decide +kernel
theorem dL_law_207 : decode cL_law 207 = .ok (.iconst 1, 1) := by decide +kernel
theorem dL_law_208 : decode cL_law 208 = .ok (.iadd, 1) := by decide +kernel
theorem dL_law_209 : decode cL_law 209 = .ok (.iaload, 1) := by decide +kernel
theorem dL_law_210 : decode cL_law 210 = .ok (.aload_n 0, 1) := by decide +kernel
theorem dL_law_211 : decode cL_law 211 = .ok (.iload_n 3, 1) := by decide +kernel
theorem dL_law_212 : decode cL_law 212 = .ok (.iconst 2, 1) := by decide +kernel
theorem dL_law_213 : decode cL_law 213 = .ok (.iadd, 1) := by decide +kernel
theorem dL_law_214 : decode cL_law 214 = .ok (.iaload, 1) := by decide +kernel
theorem dL_law_215 : decode cL_law 215 = .ok (.aload_n 0, 1) := by decide +kernel
theorem dL_law_216 : decode cL_law 216 = .ok (.iload_n 3, 1) := by decide +kernel
theorem dL_law_217 : decode cL_law 217 = .ok (.iconst 3, 1) := by decide +kernel
theorem dL_law_218 : decode cL_law 218 = .ok (.iadd, 1) := by decide +kernel
theorem dL_law_219 : decode cL_law 219 = .ok (.iaload, 1) := by decide +kernel
theorem dL_law_220 : decode cL_law 220 = .ok (.aload_n 0, 1) := by decide +kernel
theorem dL_law_221 : decode cL_law 221 = .ok (.iload_n 3, 1) := by decide +kernel
theorem dL_law_222 : decode cL_law 222 = .ok (.iconst 4, 1) := by decide +kernel
theorem dL_law_223 : decode cL_law 223 = .ok (.iadd, 1) := by decide +kernel
theorem dL_law_224 : decode cL_law 224 = .ok (.iaload, 1) := by decide +kernel
theorem dL_law_225 : decode cL_law 225 = .ok (.invokevirtual 17, 3) := by decide +kernel
theorem dL_law_228 : decode cL_law 228 = .ok (.if_icmp .eq 1023, 3) := by decide +kernel
theorem dL_law_231 : decode cL_law 231 = .ok (.iconst 0, 1) := by decide +kernel
theorem dL_law_232 : decode cL_law 232 = .ok (.ireturn, 1) := by decide +kernel
theorem dL_law_233 : decode cL_law 233 = .ok (.aload_n 1, 1) := by decide +kernel
theorem dL_law_234 : decode cL_law 234 = .ok (.aload_n 0, 1) := by decide +kernel
theorem dL_law_235 : decode cL_law 235 = .ok (.iload_n 3, 1) := by decide +kernel
theorem dL_law_236 : decode cL_law 236 = .ok (.iconst 1, 1) := by decide +kernel
theorem dL_law_237 : decode cL_law 237 = .ok (.iadd, 1) := by decide +kernel
theorem dL_law_238 : decode cL_law 238 = .ok (.iaload, 1) := by decide +kernel
theorem dL_law_239 : decode cL_law 239 = .ok (.aload_n 0, 1) := by decide +kernel
theorem dL_law_240 : decode cL_law 240 = .ok (.iload_n 3, 1) := by decide +kernel
theorem dL_law_241 : decode cL_law 241 = .ok (.iconst 2, 1) := by decide +kernel
theorem dL_law_242 : decode cL_law 242 = .ok (.iadd, 1) := by decide +kernel
theorem dL_law_243 : decode cL_law 243 = .ok (.iaload, 1) := by decide +kernel
theorem dL_law_244 : decode cL_law 244 = .ok (.invokevirtual 18, 3) := by decide +kernel
theorem dL_law_247 : decode cL_law 247 = .ok (.aload_n 2, 1) := by decide +kernel
theorem dL_law_248 : decode cL_law 248 = .ok (.aload_n 0, 1) := by decide +kernel
theorem dL_law_249 : decode cL_law 249 = .ok (.iload_n 3, 1) := by decide +kernel
theorem dL_law_250 : decode cL_law 250 = .ok (.iconst 1, 1) := by decide +kernel
theorem dL_law_251 : decode cL_law 251 = .ok (.iadd, 1) := by decide +kernel
theorem dL_law_252 : decode cL_law 252 = .ok (.iaload, 1) := by decide +kernel
theorem dL_law_253 : decode cL_law 253 = .ok (.aload_n 0, 1) := by decide +kernel
theorem dL_law_254 : decode cL_law 254 = .ok (.iload_n 3, 1) := by decide +kernel
theorem dL_law_255 : decode cL_law 255 = .ok (.iconst 2, 1) := by decide +kernel
theorem dL_law_256 : decode cL_law 256 = .ok (.iadd, 1) := by decide +kernel
theorem dL_law_257 : decode cL_law 257 = .ok (.iaload, 1) := by decide +kernel
theorem dL_law_258 : decode cL_law 258 = .ok (.invokevirtual 22, 3) := by decide +kernel
theorem dL_law_261 : decode cL_law 261 = .ok (.if_icmp .eq 990, 3) := by decide +kernel
theorem dL_law_264 : decode cL_law 264 = .ok (.iconst 0, 1) := by decide +kernel
theorem dL_law_265 : decode cL_law 265 = .ok (.ireturn, 1) := by decide +kernel
theorem dL_law_266 : decode cL_law 266 = .ok (.aload_n 1, 1) := by decide +kernel
theorem dL_law_267 : decode cL_law 267 = .ok (.aload_n 0, 1) := by decide +kernel
theorem dL_law_268 : decode cL_law 268 = .ok (.iload_n 3, 1) := by decide +kernel
theorem dL_law_269 : decode cL_law 269 = .ok (.iconst 1, 1) := by decide +kernel
theorem dL_law_270 : decode cL_law 270 = .ok (.iadd, 1) := by decide +kernel
theorem dL_law_271 : decode cL_law 271 = .ok (.iaload, 1) := by decide +kernel
theorem dL_law_272 : decode cL_law 272 = .ok (.aload_n 0, 1) := by decide +kernel
theorem dL_law_273 : decode cL_law 273 = .ok (.iload_n 3, 1) := by decide +kernel
theorem dL_law_274 : decode cL_law 274 = .ok (.iconst 2, 1) := by decide +kernel
theorem dL_law_275 : decode cL_law 275 = .ok (.iadd, 1) := by decide +kernel
theorem dL_law_276 : decode cL_law 276 = .ok (.iaload, 1) := by decide +kernel
theorem dL_law_277 : decode cL_law 277 = .ok (.invokevirtual 23, 3) := by decide +kernel
theorem dL_law_280 : decode cL_law 280 = .ok (.aload_n 2, 1) := by decide +kernel
theorem dL_law_281 : decode cL_law 281 = .ok (.aload_n 0, 1) := by decide +kernel
theorem dL_law_282 : decode cL_law 282 = .ok (.iload_n 3, 1) := by decide +kernel
theorem dL_law_283 : decode cL_law 283 = .ok (.iconst 1, 1) := by decide +kernel
theorem dL_law_284 : decode cL_law 284 = .ok (.iadd, 1) := by decide +kernel
theorem dL_law_285 : decode cL_law 285 = .ok (.iaload, 1) := by decide +kernel
theorem dL_law_286 : decode cL_law 286 = .ok (.aload_n 0, 1) := by decide +kernel
theorem dL_law_287 : decode cL_law 287 = .ok (.iload_n 3, 1) := by decide +kernel
theorem dL_law_288 : decode cL_law 288 = .ok (.iconst 2, 1) := by decide +kernel
theorem dL_law_289 : decode cL_law 289 = .ok (.iadd, 1) := by decide +kernel
theorem dL_law_290 : decode cL_law 290 = .ok (.iaload, 1) := by decide +kernel
theorem dL_law_291 : decode cL_law 291 = .ok (.invokevirtual 26, 3) := by decide +kernel
theorem dL_law_294 : decode cL_law 294 = .ok (.if_icmp .eq 957, 3) := by decide +kernel
theorem dL_law_297 : decode cL_law 297 = .ok (.iconst 0, 1) := by decide +kernel
theorem dL_law_298 : decode cL_law 298 = .ok (.ireturn, 1) := by decide +kernel
theorem dL_law_299 : decode cL_law 299 = .ok (.aload_n 1, 1) := by decide +kernel
theorem dL_law_300 : decode cL_law 300 = .ok (.aload_n 0, 1) := by decide +kernel
theorem dL_law_301 : decode cL_law 301 = .ok (.iload_n 3, 1) := by decide +kernel
theorem dL_law_302 : decode cL_law 302 = .ok (.iconst 1, 1) := by decide +kernel
theorem dL_law_303 : decode cL_law 303 = .ok (.iadd, 1) := by decide +kernel
theorem dL_law_304 : decode cL_law 304 = .ok (.iaload, 1) := by decide +kernel
theorem dL_law_305 : decode cL_law 305 = .ok (.aload_n 0, 1) := by decide +kernel
theorem dL_law_306 : decode cL_law 306 = .ok (.iload_n 3, 1) := by decide +kernel
theorem dL_law_307 : decode cL_law 307 = .ok (.iconst 2, 1) := by decide +kernel
theorem dL_law_308 : decode cL_law 308 = .ok (.iadd, 1) := by decide +kernel
theorem dL_law_309 : decode cL_law 309 = .ok (.iaload, 1) := by decide +kernel
theorem dL_law_310 : decode cL_law 310 = .ok (.invokevirtual 27, 3) := by decide +kernel
theorem dL_law_313 : decode cL_law 313 = .ok (.aload_n 2, 1) := by decide +kernel
theorem dL_law_314 : decode cL_law 314 = .ok (.aload_n 0, 1) := by decide +kernel
theorem dL_law_315 : decode cL_law 315 = .ok (.iload_n 3, 1) := by decide +kernel
theorem dL_law_316 : decode cL_law 316 = .ok (.iconst 1, 1) := by decide +kernel
theorem dL_law_317 : decode cL_law 317 = .ok (.iadd, 1) := by decide +kernel
theorem dL_law_318 : decode cL_law 318 = .ok (.iaload, 1) := by decide +kernel
theorem dL_law_319 : decode cL_law 319 = .ok (.aload_n 0, 1) := by decide +kernel
theorem dL_law_320 : decode cL_law 320 = .ok (.iload_n 3, 1) := by decide +kernel
theorem dL_law_321 : decode cL_law 321 = .ok (.iconst 2, 1) := by decide +kernel
theorem dL_law_322 : decode cL_law 322 = .ok (.iadd, 1) := by decide +kernel
theorem dL_law_323 : decode cL_law 323 = .ok (.iaload, 1) := by decide +kernel
theorem dL_law_324 : decode cL_law 324 = .ok (.invokevirtual 30, 3) := by decide +kernel
theorem dL_law_327 : decode cL_law 327 = .ok (.if_icmp .eq 924, 3) := by decide +kernel
theorem dL_law_330 : decode cL_law 330 = .ok (.iconst 0, 1) := by decide +kernel
theorem dL_law_331 : decode cL_law 331 = .ok (.ireturn, 1) := by decide +kernel
theorem dL_law_332 : decode cL_law 332 = .ok (.aload_n 1, 1) := by decide +kernel
theorem dL_law_333 : decode cL_law 333 = .ok (.aload_n 0, 1) := by decide +kernel
theorem dL_law_334 : decode cL_law 334 = .ok (.iload_n 3, 1) := by decide +kernel
theorem dL_law_335 : decode cL_law 335 = .ok (.iconst 1, 1) := by decide +kernel
theorem dL_law_336 : decode cL_law 336 = .ok (.iadd, 1) := by decide +kernel
theorem dL_law_337 : decode cL_law 337 = .ok (.iaload, 1) := by decide +kernel
theorem dL_law_338 : decode cL_law 338 = .ok (.aload_n 0, 1) := by decide +kernel
theorem dL_law_339 : decode cL_law 339 = .ok (.iload_n 3, 1) := by decide +kernel
theorem dL_law_340 : decode cL_law 340 = .ok (.iconst 2, 1) := by decide +kernel
theorem dL_law_341 : decode cL_law 341 = .ok (.iadd, 1) := by decide +kernel
theorem dL_law_342 : decode cL_law 342 = .ok (.iaload, 1) := by decide +kernel
theorem dL_law_343 : decode cL_law 343 = .ok (.invokevirtual 31, 3) := by decide +kernel
theorem dL_law_346 : decode cL_law 346 = .ok (.aload_n 2, 1) := by decide +kernel
theorem dL_law_347 : decode cL_law 347 = .ok (.aload_n 0, 1) := by decide +kernel
theorem dL_law_348 : decode cL_law 348 = .ok (.iload_n 3, 1) := by decide +kernel
theorem dL_law_349 : decode cL_law 349 = .ok (.iconst 1, 1) := by decide +kernel
theorem dL_law_350 : decode cL_law 350 = .ok (.iadd, 1) := by decide +kernel
theorem dL_law_351 : decode cL_law 351 = .ok (.iaload, 1) := by decide +kernel
theorem dL_law_352 : decode cL_law 352 = .ok (.aload_n 0, 1) := by decide +kernel
theorem dL_law_353 : decode cL_law 353 = .ok (.iload_n 3, 1) := by decide +kernel
theorem dL_law_354 : decode cL_law 354 = .ok (.iconst 2, 1) := by decide +kernel
theorem dL_law_355 : decode cL_law 355 = .ok (.iadd, 1) := by decide +kernel
theorem dL_law_356 : decode cL_law 356 = .ok (.iaload, 1) := by decide +kernel
theorem dL_law_357 : decode cL_law 357 = .ok (.invokevirtual 34, 3) := by decide +kernel
theorem dL_law_360 : decode cL_law 360 = .ok (.if_icmp .eq 891, 3) := by decide +kernel
theorem dL_law_363 : decode cL_law 363 = .ok (.iconst 0, 1) := by decide +kernel
theorem dL_law_364 : decode cL_law 364 = .ok (.ireturn, 1) := by decide +kernel
theorem dL_law_365 : decode cL_law 365 = .ok (.aload_n 1, 1) := by decide +kernel
theorem dL_law_366 : decode cL_law 366 = .ok (.aload_n 0, 1) := by decide +kernel
theorem dL_law_367 : decode cL_law 367 = .ok (.iload_n 3, 1) := by decide +kernel
theorem dL_law_368 : decode cL_law 368 = .ok (.iconst 1, 1) := by decide +kernel
theorem dL_law_369 : decode cL_law 369 = .ok (.iadd, 1) := by decide +kernel
theorem dL_law_370 : decode cL_law 370 = .ok (.iaload, 1) := by decide +kernel
theorem dL_law_371 : decode cL_law 371 = .ok (.aload_n 0, 1) := by decide +kernel
theorem dL_law_372 : decode cL_law 372 = .ok (.iload_n 3, 1) := by decide +kernel
theorem dL_law_373 : decode cL_law 373 = .ok (.iconst 2, 1) := by decide +kernel
theorem dL_law_374 : decode cL_law 374 = .ok (.iadd, 1) := by decide +kernel
theorem dL_law_375 : decode cL_law 375 = .ok (.iaload, 1) := by decide +kernel
theorem dL_law_376 : decode cL_law 376 = .ok (.invokevirtual 35, 3) := by decide +kernel
theorem dL_law_379 : decode cL_law 379 = .ok (.aload_n 2, 1) := by decide +kernel
theorem dL_law_380 : decode cL_law 380 = .ok (.aload_n 0, 1) := by decide +kernel
theorem dL_law_381 : decode cL_law 381 = .ok (.iload_n 3, 1) := by decide +kernel
theorem dL_law_382 : decode cL_law 382 = .ok (.iconst 1, 1) := by decide +kernel
theorem dL_law_383 : decode cL_law 383 = .ok (.iadd, 1) := by decide +kernel
theorem dL_law_384 : decode cL_law 384 = .ok (.iaload, 1) := by decide +kernel
theorem dL_law_385 : decode cL_law 385 = .ok (.aload_n 0, 1) := by decide +kernel
theorem dL_law_386 : decode cL_law 386 = .ok (.iload_n 3, 1) := by decide +kernel
theorem dL_law_387 : decode cL_law 387 = .ok (.iconst 2, 1) := by decide +kernel
theorem dL_law_388 : decode cL_law 388 = .ok (.iadd, 1) := by decide +kernel
theorem dL_law_389 : decode cL_law 389 = .ok (.iaload, 1) := by decide +kernel
theorem dL_law_390 : decode cL_law 390 = .ok (.invokevirtual 38, 3) := by decide +kernel
theorem dL_law_393 : decode cL_law 393 = .ok (.if_icmp .eq 858, 3) := by decide +kernel
theorem dL_law_396 : decode cL_law 396 = .ok (.iconst 0, 1) := by decide +kernel
theorem dL_law_397 : decode cL_law 397 = .ok (.ireturn, 1) := by decide +kernel
theorem dL_law_398 : decode cL_law 398 = .ok (.aload_n 1, 1) := by decide +kernel
theorem dL_law_399 : decode cL_law 399 = .ok (.aload_n 0, 1) := by decide +kernel
theorem dL_law_400 : decode cL_law 400 = .ok (.iload_n 3, 1) := by decide +kernel
theorem dL_law_401 : decode cL_law 401 = .ok (.iconst 1, 1) := by decide +kernel
theorem dL_law_402 : decode cL_law 402 = .ok (.iadd, 1) := by decide +kernel
theorem dL_law_403 : decode cL_law 403 = .ok (.iaload, 1) := by decide +kernel
theorem dL_law_404 : decode cL_law 404 = .ok (.aload_n 0, 1) := by decide +kernel
theorem dL_law_405 : decode cL_law 405 = .ok (.iload_n 3, 1) := by decide +kernel
theorem dL_law_406 : decode cL_law 406 = .ok (.iconst 2, 1) := by decide +kernel
theorem dL_law_407 : decode cL_law 407 = .ok (.iadd, 1) := by decide +kernel
theorem dL_law_408 : decode cL_law 408 = .ok (.iaload, 1) := by decide +kernel
theorem dL_law_409 : decode cL_law 409 = .ok (.invokevirtual 39, 3) := by decide +kernel
theorem dL_law_412 : decode cL_law 412 = .ok (.aload_n 2, 1) := by decide +kernel
theorem dL_law_413 : decode cL_law 413 = .ok (.aload_n 0, 1) := by decide +kernel
theorem dL_law_414 : decode cL_law 414 = .ok (.iload_n 3, 1) := by decide +kernel
theorem dL_law_415 : decode cL_law 415 = .ok (.iconst 1, 1) := by decide +kernel
theorem dL_law_416 : decode cL_law 416 = .ok (.iadd, 1) := by decide +kernel
theorem dL_law_417 : decode cL_law 417 = .ok (.iaload, 1) := by decide +kernel
theorem dL_law_418 : decode cL_law 418 = .ok (.aload_n 0, 1) := by decide +kernel
theorem dL_law_419 : decode cL_law 419 = .ok (.iload_n 3, 1) := by decide +kernel
theorem dL_law_420 : decode cL_law 420 = .ok (.iconst 2, 1) := by decide +kernel
theorem dL_law_421 : decode cL_law 421 = .ok (.iadd, 1) := by decide +kernel
theorem dL_law_422 : decode cL_law 422 = .ok (.iaload, 1) := by decide +kernel
theorem dL_law_423 : decode cL_law 423 = .ok (.invokevirtual 42, 3) := by decide +kernel
theorem dL_law_426 : decode cL_law 426 = .ok (.if_icmp .eq 825, 3) := by decide +kernel
theorem dL_law_429 : decode cL_law 429 = .ok (.iconst 0, 1) := by decide +kernel
theorem dL_law_430 : decode cL_law 430 = .ok (.ireturn, 1) := by decide +kernel
theorem dL_law_431 : decode cL_law 431 = .ok (.aload_n 1, 1) := by decide +kernel
theorem dL_law_432 : decode cL_law 432 = .ok (.aload_n 0, 1) := by decide +kernel
theorem dL_law_433 : decode cL_law 433 = .ok (.iload_n 3, 1) := by decide +kernel
theorem dL_law_434 : decode cL_law 434 = .ok (.iconst 1, 1) := by decide +kernel
theorem dL_law_435 : decode cL_law 435 = .ok (.iadd, 1) := by decide +kernel
theorem dL_law_436 : decode cL_law 436 = .ok (.iaload, 1) := by decide +kernel
theorem dL_law_437 : decode cL_law 437 = .ok (.aload_n 0, 1) := by decide +kernel
theorem dL_law_438 : decode cL_law 438 = .ok (.iload_n 3, 1) := by decide +kernel
theorem dL_law_439 : decode cL_law 439 = .ok (.iconst 2, 1) := by decide +kernel
theorem dL_law_440 : decode cL_law 440 = .ok (.iadd, 1) := by decide +kernel
theorem dL_law_441 : decode cL_law 441 = .ok (.iaload, 1) := by decide +kernel
theorem dL_law_442 : decode cL_law 442 = .ok (.aload_n 0, 1) := by decide +kernel
theorem dL_law_443 : decode cL_law 443 = .ok (.iload_n 3, 1) := by decide +kernel
theorem dL_law_444 : decode cL_law 444 = .ok (.iconst 3, 1) := by decide +kernel
theorem dL_law_445 : decode cL_law 445 = .ok (.iadd, 1) := by decide +kernel
theorem dL_law_446 : decode cL_law 446 = .ok (.iaload, 1) := by decide +kernel
theorem dL_law_447 : decode cL_law 447 = .ok (.invokevirtual 43, 3) := by decide +kernel
theorem dL_law_450 : decode cL_law 450 = .ok (.aload_n 2, 1) := by decide +kernel
theorem dL_law_451 : decode cL_law 451 = .ok (.aload_n 0, 1) := by decide +kernel
theorem dL_law_452 : decode cL_law 452 = .ok (.iload_n 3, 1) := by decide +kernel
theorem dL_law_453 : decode cL_law 453 = .ok (.iconst 1, 1) := by decide +kernel
theorem dL_law_454 : decode cL_law 454 = .ok (.iadd, 1) := by decide +kernel
theorem dL_law_455 : decode cL_law 455 = .ok (.iaload, 1) := by decide +kernel
theorem dL_law_456 : decode cL_law 456 = .ok (.aload_n 0, 1) := by decide +kernel
theorem dL_law_457 : decode cL_law 457 = .ok (.iload_n 3, 1) := by decide +kernel
theorem dL_law_458 : decode cL_law 458 = .ok (.iconst 2, 1) := by decide +kernel
theorem dL_law_459 : decode cL_law 459 = .ok (.iadd, 1) := by decide +kernel
theorem dL_law_460 : decode cL_law 460 = .ok (.iaload, 1) := by decide +kernel
theorem dL_law_461 : decode cL_law 461 = .ok (.aload_n 0, 1) := by decide +kernel
theorem dL_law_462 : decode cL_law 462 = .ok (.iload_n 3, 1) := by decide +kernel
theorem dL_law_463 : decode cL_law 463 = .ok (.iconst 3, 1) := by decide +kernel
theorem dL_law_464 : decode cL_law 464 = .ok (.iadd, 1) := by decide +kernel
theorem dL_law_465 : decode cL_law 465 = .ok (.iaload, 1) := by decide +kernel
theorem dL_law_466 : decode cL_law 466 = .ok (.invokevirtual 47, 3) := by decide +kernel
theorem dL_law_469 : decode cL_law 469 = .ok (.if_icmp .eq 782, 3) := by decide +kernel
theorem dL_law_472 : decode cL_law 472 = .ok (.iconst 0, 1) := by decide +kernel
theorem dL_law_473 : decode cL_law 473 = .ok (.ireturn, 1) := by decide +kernel
theorem dL_law_474 : decode cL_law 474 = .ok (.aload_n 1, 1) := by decide +kernel
theorem dL_law_475 : decode cL_law 475 = .ok (.aload_n 0, 1) := by decide +kernel
theorem dL_law_476 : decode cL_law 476 = .ok (.iload_n 3, 1) := by decide +kernel
theorem dL_law_477 : decode cL_law 477 = .ok (.iconst 1, 1) := by decide +kernel
theorem dL_law_478 : decode cL_law 478 = .ok (.iadd, 1) := by decide +kernel
theorem dL_law_479 : decode cL_law 479 = .ok (.iaload, 1) := by decide +kernel
theorem dL_law_480 : decode cL_law 480 = .ok (.invokevirtual 48, 3) := by decide +kernel
theorem dL_law_483 : decode cL_law 483 = .ok (.aload_n 2, 1) := by decide +kernel
theorem dL_law_484 : decode cL_law 484 = .ok (.aload_n 0, 1) := by decide +kernel
theorem dL_law_485 : decode cL_law 485 = .ok (.iload_n 3, 1) := by decide +kernel
theorem dL_law_486 : decode cL_law 486 = .ok (.iconst 1, 1) := by decide +kernel
theorem dL_law_487 : decode cL_law 487 = .ok (.iadd, 1) := by decide +kernel
theorem dL_law_488 : decode cL_law 488 = .ok (.iaload, 1) := by decide +kernel
theorem dL_law_489 : decode cL_law 489 = .ok (.invokevirtual 52, 3) := by decide +kernel
theorem dL_law_492 : decode cL_law 492 = .ok (.if_icmp .eq 759, 3) := by decide +kernel
theorem dL_law_495 : decode cL_law 495 = .ok (.iconst 0, 1) := by decide +kernel
theorem dL_law_496 : decode cL_law 496 = .ok (.ireturn, 1) := by decide +kernel
theorem dL_law_497 : decode cL_law 497 = .ok (.aload_n 1, 1) := by decide +kernel
theorem dL_law_498 : decode cL_law 498 = .ok (.aload_n 0, 1) := by decide +kernel
theorem dL_law_499 : decode cL_law 499 = .ok (.iload_n 3, 1) := by decide +kernel
theorem dL_law_500 : decode cL_law 500 = .ok (.iconst 1, 1) := by decide +kernel
theorem dL_law_501 : decode cL_law 501 = .ok (.iadd, 1) := by decide +kernel
theorem dL_law_502 : decode cL_law 502 = .ok (.iaload, 1) := by decide +kernel
theorem dL_law_503 : decode cL_law 503 = .ok (.aload_n 0, 1) := by decide +kernel
theorem dL_law_504 : decode cL_law 504 = .ok (.iload_n 3, 1) := by decide +kernel
theorem dL_law_505 : decode cL_law 505 = .ok (.iconst 2, 1) := by decide +kernel
theorem dL_law_506 : decode cL_law 506 = .ok (.iadd, 1) := by decide +kernel
theorem dL_law_507 : decode cL_law 507 = .ok (.iaload, 1) := by decide +kernel
theorem dL_law_508 : decode cL_law 508 = .ok (.invokevirtual 53, 3) := by decide +kernel
theorem dL_law_511 : decode cL_law 511 = .ok (.aload_n 2, 1) := by decide +kernel
theorem dL_law_512 : decode cL_law 512 = .ok (.aload_n 0, 1) := by decide +kernel
theorem dL_law_513 : decode cL_law 513 = .ok (.iload_n 3, 1) := by decide +kernel
theorem dL_law_514 : decode cL_law 514 = .ok (.iconst 1, 1) := by decide +kernel
theorem dL_law_515 : decode cL_law 515 = .ok (.iadd, 1) := by decide +kernel
theorem dL_law_516 : decode cL_law 516 = .ok (.iaload, 1) := by decide +kernel
theorem dL_law_517 : decode cL_law 517 = .ok (.aload_n 0, 1) := by decide +kernel
theorem dL_law_518 : decode cL_law 518 = .ok (.iload_n 3, 1) := by decide +kernel
theorem dL_law_519 : decode cL_law 519 = .ok (.iconst 2, 1) := by decide +kernel
theorem dL_law_520 : decode cL_law 520 = .ok (.iadd, 1) := by decide +kernel
theorem dL_law_521 : decode cL_law 521 = .ok (.iaload, 1) := by decide +kernel
theorem dL_law_522 : decode cL_law 522 = .ok (.invokevirtual 56, 3) := by decide +kernel
theorem dL_law_525 : decode cL_law 525 = .ok (.if_icmp .eq 726, 3) := by decide +kernel
theorem dL_law_528 : decode cL_law 528 = .ok (.iconst 0, 1) := by decide +kernel
theorem dL_law_529 : decode cL_law 529 = .ok (.ireturn, 1) := by decide +kernel
theorem dL_law_530 : decode cL_law 530 = .ok (.aload_n 1, 1) := by decide +kernel
theorem dL_law_531 : decode cL_law 531 = .ok (.aload_n 0, 1) := by decide +kernel
theorem dL_law_532 : decode cL_law 532 = .ok (.iload_n 3, 1) := by decide +kernel
theorem dL_law_533 : decode cL_law 533 = .ok (.iconst 1, 1) := by decide +kernel
theorem dL_law_534 : decode cL_law 534 = .ok (.iadd, 1) := by decide +kernel
theorem dL_law_535 : decode cL_law 535 = .ok (.iaload, 1) := by decide +kernel
theorem dL_law_536 : decode cL_law 536 = .ok (.aload_n 0, 1) := by decide +kernel
theorem dL_law_537 : decode cL_law 537 = .ok (.iload_n 3, 1) := by decide +kernel
theorem dL_law_538 : decode cL_law 538 = .ok (.iconst 2, 1) := by decide +kernel
theorem dL_law_539 : decode cL_law 539 = .ok (.iadd, 1) := by decide +kernel
theorem dL_law_540 : decode cL_law 540 = .ok (.iaload, 1) := by decide +kernel
theorem dL_law_541 : decode cL_law 541 = .ok (.aload_n 0, 1) := by decide +kernel
theorem dL_law_542 : decode cL_law 542 = .ok (.iload_n 3, 1) := by decide +kernel
theorem dL_law_543 : decode cL_law 543 = .ok (.iconst 3, 1) := by decide +kernel
theorem dL_law_544 : decode cL_law 544 = .ok (.iadd, 1) := by decide +kernel
theorem dL_law_545 : decode cL_law 545 = .ok (.iaload, 1) := by decide +kernel
theorem dL_law_546 : decode cL_law 546 = .ok (.aload_n 0, 1) := by decide +kernel
theorem dL_law_547 : decode cL_law 547 = .ok (.iload_n 3, 1) := by decide +kernel
theorem dL_law_548 : decode cL_law 548 = .ok (.iconst 4, 1) := by decide +kernel
theorem dL_law_549 : decode cL_law 549 = .ok (.iadd, 1) := by decide +kernel
theorem dL_law_550 : decode cL_law 550 = .ok (.iaload, 1) := by decide +kernel
theorem dL_law_551 : decode cL_law 551 = .ok (.aload_n 0, 1) := by decide +kernel
theorem dL_law_552 : decode cL_law 552 = .ok (.iload_n 3, 1) := by decide +kernel
theorem dL_law_553 : decode cL_law 553 = .ok (.iconst 5, 1) := by decide +kernel
theorem dL_law_554 : decode cL_law 554 = .ok (.iadd, 1) := by decide +kernel
theorem dL_law_555 : decode cL_law 555 = .ok (.iaload, 1) := by decide +kernel
theorem dL_law_556 : decode cL_law 556 = .ok (.invokevirtual 57, 3) := by decide +kernel
theorem dL_law_559 : decode cL_law 559 = .ok (.aload_n 2, 1) := by decide +kernel
theorem dL_law_560 : decode cL_law 560 = .ok (.aload_n 0, 1) := by decide +kernel
theorem dL_law_561 : decode cL_law 561 = .ok (.iload_n 3, 1) := by decide +kernel
theorem dL_law_562 : decode cL_law 562 = .ok (.iconst 1, 1) := by decide +kernel
theorem dL_law_563 : decode cL_law 563 = .ok (.iadd, 1) := by decide +kernel
theorem dL_law_564 : decode cL_law 564 = .ok (.iaload, 1) := by decide +kernel
theorem dL_law_565 : decode cL_law 565 = .ok (.aload_n 0, 1) := by decide +kernel
theorem dL_law_566 : decode cL_law 566 = .ok (.iload_n 3, 1) := by decide +kernel
theorem dL_law_567 : decode cL_law 567 = .ok (.iconst 2, 1) := by decide +kernel
theorem dL_law_568 : decode cL_law 568 = .ok (.iadd, 1) := by decide +kernel
theorem dL_law_569 : decode cL_law 569 = .ok (.iaload, 1) := by decide +kernel
theorem dL_law_570 : decode cL_law 570 = .ok (.aload_n 0, 1) := by decide +kernel
theorem dL_law_571 : decode cL_law 571 = .ok (.iload_n 3, 1) := by decide +kernel
theorem dL_law_572 : decode cL_law 572 = .ok (.iconst 3, 1) := by decide +kernel
theorem dL_law_573 : decode cL_law 573 = .ok (.iadd, 1) := by decide +kernel
theorem dL_law_574 : decode cL_law 574 = .ok (.iaload, 1) := by decide +kernel
theorem dL_law_575 : decode cL_law 575 = .ok (.aload_n 0, 1) := by decide +kernel
theorem dL_law_576 : decode cL_law 576 = .ok (.iload_n 3, 1) := by decide +kernel
theorem dL_law_577 : decode cL_law 577 = .ok (.iconst 4, 1) := by decide +kernel
theorem dL_law_578 : decode cL_law 578 = .ok (.iadd, 1) := by decide +kernel
theorem dL_law_579 : decode cL_law 579 = .ok (.iaload, 1) := by decide +kernel
theorem dL_law_580 : decode cL_law 580 = .ok (.aload_n 0, 1) := by decide +kernel
theorem dL_law_581 : decode cL_law 581 = .ok (.iload_n 3, 1) := by decide +kernel
theorem dL_law_582 : decode cL_law 582 = .ok (.iconst 5, 1) := by decide +kernel
theorem dL_law_583 : decode cL_law 583 = .ok (.iadd, 1) := by decide +kernel
theorem dL_law_584 : decode cL_law 584 = .ok (.iaload, 1) := by decide +kernel
theorem dL_law_585 : decode cL_law 585 = .ok (.invokevirtual 61, 3) := by decide +kernel
theorem dL_law_588 : decode cL_law 588 = .ok (.if_icmp .eq 663, 3) := by decide +kernel
theorem dL_law_591 : decode cL_law 591 = .ok (.iconst 0, 1) := by decide +kernel
theorem dL_law_592 : decode cL_law 592 = .ok (.ireturn, 1) := by decide +kernel
theorem dL_law_593 : decode cL_law 593 = .ok (.aload_n 1, 1) := by decide +kernel
theorem dL_law_594 : decode cL_law 594 = .ok (.aload_n 0, 1) := by decide +kernel
theorem dL_law_595 : decode cL_law 595 = .ok (.iload_n 3, 1) := by decide +kernel
theorem dL_law_596 : decode cL_law 596 = .ok (.iconst 1, 1) := by decide +kernel
theorem dL_law_597 : decode cL_law 597 = .ok (.iadd, 1) := by decide +kernel
theorem dL_law_598 : decode cL_law 598 = .ok (.iaload, 1) := by decide +kernel
theorem dL_law_599 : decode cL_law 599 = .ok (.aload_n 0, 1) := by decide +kernel
theorem dL_law_600 : decode cL_law 600 = .ok (.iload_n 3, 1) := by decide +kernel
theorem dL_law_601 : decode cL_law 601 = .ok (.iconst 2, 1) := by decide +kernel
theorem dL_law_602 : decode cL_law 602 = .ok (.iadd, 1) := by decide +kernel
theorem dL_law_603 : decode cL_law 603 = .ok (.iaload, 1) := by decide +kernel
theorem dL_law_604 : decode cL_law 604 = .ok (.invokevirtual 62, 3) := by decide +kernel
theorem dL_law_607 : decode cL_law 607 = .ok (.aload_n 2, 1) := by decide +kernel
theorem dL_law_608 : decode cL_law 608 = .ok (.aload_n 0, 1) := by decide +kernel
theorem dL_law_609 : decode cL_law 609 = .ok (.iload_n 3, 1) := by decide +kernel
theorem dL_law_610 : decode cL_law 610 = .ok (.iconst 1, 1) := by decide +kernel
theorem dL_law_611 : decode cL_law 611 = .ok (.iadd, 1) := by decide +kernel
theorem dL_law_612 : decode cL_law 612 = .ok (.iaload, 1) := by decide +kernel
theorem dL_law_613 : decode cL_law 613 = .ok (.aload_n 0, 1) := by decide +kernel
theorem dL_law_614 : decode cL_law 614 = .ok (.iload_n 3, 1) := by decide +kernel
theorem dL_law_615 : decode cL_law 615 = .ok (.iconst 2, 1) := by decide +kernel
theorem dL_law_616 : decode cL_law 616 = .ok (.iadd, 1) := by decide +kernel
theorem dL_law_617 : decode cL_law 617 = .ok (.iaload, 1) := by decide +kernel
theorem dL_law_618 : decode cL_law 618 = .ok (.invokevirtual 65, 3) := by decide +kernel
theorem dL_law_621 : decode cL_law 621 = .ok (.if_icmp .eq 630, 3) := by decide +kernel
theorem dL_law_624 : decode cL_law 624 = .ok (.iconst 0, 1) := by decide +kernel
theorem dL_law_625 : decode cL_law 625 = .ok (.ireturn, 1) := by decide +kernel
theorem dL_law_626 : decode cL_law 626 = .ok (.aload_n 1, 1) := by decide +kernel
theorem dL_law_627 : decode cL_law 627 = .ok (.aload_n 0, 1) := by decide +kernel
theorem dL_law_628 : decode cL_law 628 = .ok (.iload_n 3, 1) := by decide +kernel
theorem dL_law_629 : decode cL_law 629 = .ok (.iconst 1, 1) := by decide +kernel
theorem dL_law_630 : decode cL_law 630 = .ok (.iadd, 1) := by decide +kernel
theorem dL_law_631 : decode cL_law 631 = .ok (.iaload, 1) := by decide +kernel
theorem dL_law_632 : decode cL_law 632 = .ok (.invokevirtual 66, 3) := by decide +kernel
theorem dL_law_635 : decode cL_law 635 = .ok (.aload_n 2, 1) := by decide +kernel
theorem dL_law_636 : decode cL_law 636 = .ok (.aload_n 0, 1) := by decide +kernel
theorem dL_law_637 : decode cL_law 637 = .ok (.iload_n 3, 1) := by decide +kernel
theorem dL_law_638 : decode cL_law 638 = .ok (.iconst 1, 1) := by decide +kernel
theorem dL_law_639 : decode cL_law 639 = .ok (.iadd, 1) := by decide +kernel
theorem dL_law_640 : decode cL_law 640 = .ok (.iaload, 1) := by decide +kernel
theorem dL_law_641 : decode cL_law 641 = .ok (.invokevirtual 69, 3) := by decide +kernel
theorem dL_law_644 : decode cL_law 644 = .ok (.if_icmp .eq 607, 3) := by decide +kernel
theorem dL_law_647 : decode cL_law 647 = .ok (.iconst 0, 1) := by decide +kernel
theorem dL_law_648 : decode cL_law 648 = .ok (.ireturn, 1) := by decide +kernel
theorem dL_law_649 : decode cL_law 649 = .ok (.aload_n 1, 1) := by decide +kernel
theorem dL_law_650 : decode cL_law 650 = .ok (.aload_n 0, 1) := by decide +kernel
theorem dL_law_651 : decode cL_law 651 = .ok (.iload_n 3, 1) := by decide +kernel
theorem dL_law_652 : decode cL_law 652 = .ok (.iconst 1, 1) := by decide +kernel
theorem dL_law_653 : decode cL_law 653 = .ok (.iadd, 1) := by decide +kernel
theorem dL_law_654 : decode cL_law 654 = .ok (.iaload, 1) := by decide +kernel
theorem dL_law_655 : decode cL_law 655 = .ok (.invokevirtual 70, 3) := by decide +kernel
theorem dL_law_658 : decode cL_law 658 = .ok (.aload_n 2, 1) := by decide +kernel
theorem dL_law_659 : decode cL_law 659 = .ok (.aload_n 0, 1) := by decide +kernel
theorem dL_law_660 : decode cL_law 660 = .ok (.iload_n 3, 1) := by decide +kernel
theorem dL_law_661 : decode cL_law 661 = .ok (.iconst 1, 1) := by decide +kernel
theorem dL_law_662 : decode cL_law 662 = .ok (.iadd, 1) := by decide +kernel
theorem dL_law_663 : decode cL_law 663 = .ok (.iaload, 1) := by decide +kernel
theorem dL_law_664 : decode cL_law 664 = .ok (.invokevirtual 73, 3) := by decide +kernel
theorem dL_law_667 : decode cL_law 667 = .ok (.if_icmp .eq 584, 3) := by decide +kernel
theorem dL_law_670 : decode cL_law 670 = .ok (.iconst 0, 1) := by decide +kernel
theorem dL_law_671 : decode cL_law 671 = .ok (.ireturn, 1) := by decide +kernel
theorem dL_law_672 : decode cL_law 672 = .ok (.aload_n 1, 1) := by decide +kernel
theorem dL_law_673 : decode cL_law 673 = .ok (.aload_n 0, 1) := by decide +kernel
theorem dL_law_674 : decode cL_law 674 = .ok (.iload_n 3, 1) := by decide +kernel
theorem dL_law_675 : decode cL_law 675 = .ok (.iconst 1, 1) := by decide +kernel
theorem dL_law_676 : decode cL_law 676 = .ok (.iadd, 1) := by decide +kernel
theorem dL_law_677 : decode cL_law 677 = .ok (.iaload, 1) := by decide +kernel
theorem dL_law_678 : decode cL_law 678 = .ok (.invokevirtual 74, 3) := by decide +kernel
theorem dL_law_681 : decode cL_law 681 = .ok (.aload_n 2, 1) := by decide +kernel
theorem dL_law_682 : decode cL_law 682 = .ok (.aload_n 0, 1) := by decide +kernel
theorem dL_law_683 : decode cL_law 683 = .ok (.iload_n 3, 1) := by decide +kernel
theorem dL_law_684 : decode cL_law 684 = .ok (.iconst 1, 1) := by decide +kernel
theorem dL_law_685 : decode cL_law 685 = .ok (.iadd, 1) := by decide +kernel
theorem dL_law_686 : decode cL_law 686 = .ok (.iaload, 1) := by decide +kernel
theorem dL_law_687 : decode cL_law 687 = .ok (.invokevirtual 77, 3) := by decide +kernel
theorem dL_law_690 : decode cL_law 690 = .ok (.if_icmp .eq 561, 3) := by decide +kernel
theorem dL_law_693 : decode cL_law 693 = .ok (.iconst 0, 1) := by decide +kernel
theorem dL_law_694 : decode cL_law 694 = .ok (.ireturn, 1) := by decide +kernel
theorem dL_law_695 : decode cL_law 695 = .ok (.aload_n 1, 1) := by decide +kernel
theorem dL_law_696 : decode cL_law 696 = .ok (.aload_n 0, 1) := by decide +kernel
theorem dL_law_697 : decode cL_law 697 = .ok (.iload_n 3, 1) := by decide +kernel
theorem dL_law_698 : decode cL_law 698 = .ok (.iconst 1, 1) := by decide +kernel
theorem dL_law_699 : decode cL_law 699 = .ok (.iadd, 1) := by decide +kernel
theorem dL_law_700 : decode cL_law 700 = .ok (.iaload, 1) := by decide +kernel
theorem dL_law_701 : decode cL_law 701 = .ok (.aload_n 0, 1) := by decide +kernel
theorem dL_law_702 : decode cL_law 702 = .ok (.iload_n 3, 1) := by decide +kernel
theorem dL_law_703 : decode cL_law 703 = .ok (.iconst 2, 1) := by decide +kernel
theorem dL_law_704 : decode cL_law 704 = .ok (.iadd, 1) := by decide +kernel
theorem dL_law_705 : decode cL_law 705 = .ok (.iaload, 1) := by decide +kernel
theorem dL_law_706 : decode cL_law 706 = .ok (.invokevirtual 78, 3) := by decide +kernel
theorem dL_law_709 : decode cL_law 709 = .ok (.aload_n 2, 1) := by decide +kernel
theorem dL_law_710 : decode cL_law 710 = .ok (.aload_n 0, 1) := by decide +kernel
theorem dL_law_711 : decode cL_law 711 = .ok (.iload_n 3, 1) := by decide +kernel
theorem dL_law_712 : decode cL_law 712 = .ok (.iconst 1, 1) := by decide +kernel
theorem dL_law_713 : decode cL_law 713 = .ok (.iadd, 1) := by decide +kernel
theorem dL_law_714 : decode cL_law 714 = .ok (.iaload, 1) := by decide +kernel
theorem dL_law_715 : decode cL_law 715 = .ok (.aload_n 0, 1) := by decide +kernel
theorem dL_law_716 : decode cL_law 716 = .ok (.iload_n 3, 1) := by decide +kernel
theorem dL_law_717 : decode cL_law 717 = .ok (.iconst 2, 1) := by decide +kernel
theorem dL_law_718 : decode cL_law 718 = .ok (.iadd, 1) := by decide +kernel
theorem dL_law_719 : decode cL_law 719 = .ok (.iaload, 1) := by decide +kernel
theorem dL_law_720 : decode cL_law 720 = .ok (.invokevirtual 81, 3) := by decide +kernel
theorem dL_law_723 : decode cL_law 723 = .ok (.if_icmp .eq 528, 3) := by decide +kernel
theorem dL_law_726 : decode cL_law 726 = .ok (.iconst 0, 1) := by decide +kernel
theorem dL_law_727 : decode cL_law 727 = .ok (.ireturn, 1) := by decide +kernel
theorem dL_law_728 : decode cL_law 728 = .ok (.aload_n 1, 1) := by decide +kernel
theorem dL_law_729 : decode cL_law 729 = .ok (.aload_n 0, 1) := by decide +kernel
theorem dL_law_730 : decode cL_law 730 = .ok (.iload_n 3, 1) := by decide +kernel
theorem dL_law_731 : decode cL_law 731 = .ok (.iconst 1, 1) := by decide +kernel
theorem dL_law_732 : decode cL_law 732 = .ok (.iadd, 1) := by decide +kernel
theorem dL_law_733 : decode cL_law 733 = .ok (.iaload, 1) := by decide +kernel
theorem dL_law_734 : decode cL_law 734 = .ok (.aload_n 0, 1) := by decide +kernel
theorem dL_law_735 : decode cL_law 735 = .ok (.iload_n 3, 1) := by decide +kernel
theorem dL_law_736 : decode cL_law 736 = .ok (.iconst 2, 1) := by decide +kernel
theorem dL_law_737 : decode cL_law 737 = .ok (.iadd, 1) := by decide +kernel
theorem dL_law_738 : decode cL_law 738 = .ok (.iaload, 1) := by decide +kernel
theorem dL_law_739 : decode cL_law 739 = .ok (.aload_n 0, 1) := by decide +kernel
theorem dL_law_740 : decode cL_law 740 = .ok (.iload_n 3, 1) := by decide +kernel
theorem dL_law_741 : decode cL_law 741 = .ok (.iconst 3, 1) := by decide +kernel
theorem dL_law_742 : decode cL_law 742 = .ok (.iadd, 1) := by decide +kernel
theorem dL_law_743 : decode cL_law 743 = .ok (.iaload, 1) := by decide +kernel
theorem dL_law_744 : decode cL_law 744 = .ok (.invokevirtual 82, 3) := by decide +kernel
theorem dL_law_747 : decode cL_law 747 = .ok (.aload_n 2, 1) := by decide +kernel
theorem dL_law_748 : decode cL_law 748 = .ok (.aload_n 0, 1) := by decide +kernel
theorem dL_law_749 : decode cL_law 749 = .ok (.iload_n 3, 1) := by decide +kernel
theorem dL_law_750 : decode cL_law 750 = .ok (.iconst 1, 1) := by decide +kernel
theorem dL_law_751 : decode cL_law 751 = .ok (.iadd, 1) := by decide +kernel
theorem dL_law_752 : decode cL_law 752 = .ok (.iaload, 1) := by decide +kernel
theorem dL_law_753 : decode cL_law 753 = .ok (.aload_n 0, 1) := by decide +kernel
theorem dL_law_754 : decode cL_law 754 = .ok (.iload_n 3, 1) := by decide +kernel
theorem dL_law_755 : decode cL_law 755 = .ok (.iconst 2, 1) := by decide +kernel
theorem dL_law_756 : decode cL_law 756 = .ok (.iadd, 1) := by decide +kernel
theorem dL_law_757 : decode cL_law 757 = .ok (.iaload, 1) := by decide +kernel
theorem dL_law_758 : decode cL_law 758 = .ok (.aload_n 0, 1) := by decide +kernel
theorem dL_law_759 : decode cL_law 759 = .ok (.iload_n 3, 1) := by decide +kernel
theorem dL_law_760 : decode cL_law 760 = .ok (.iconst 3, 1) := by decide +kernel
theorem dL_law_761 : decode cL_law 761 = .ok (.iadd, 1) := by decide +kernel
theorem dL_law_762 : decode cL_law 762 = .ok (.iaload, 1) := by decide +kernel
theorem dL_law_763 : decode cL_law 763 = .ok (.invokevirtual 85, 3) := by decide +kernel
theorem dL_law_766 : decode cL_law 766 = .ok (.if_icmp .eq 485, 3) := by decide +kernel
theorem dL_law_769 : decode cL_law 769 = .ok (.iconst 0, 1) := by decide +kernel
theorem dL_law_770 : decode cL_law 770 = .ok (.ireturn, 1) := by decide +kernel
theorem dL_law_771 : decode cL_law 771 = .ok (.aload_n 1, 1) := by decide +kernel
theorem dL_law_772 : decode cL_law 772 = .ok (.aload_n 0, 1) := by decide +kernel
theorem dL_law_773 : decode cL_law 773 = .ok (.iload_n 3, 1) := by decide +kernel
theorem dL_law_774 : decode cL_law 774 = .ok (.iconst 1, 1) := by decide +kernel
theorem dL_law_775 : decode cL_law 775 = .ok (.iadd, 1) := by decide +kernel
theorem dL_law_776 : decode cL_law 776 = .ok (.iaload, 1) := by decide +kernel
theorem dL_law_777 : decode cL_law 777 = .ok (.invokevirtual 86, 3) := by decide +kernel
theorem dL_law_780 : decode cL_law 780 = .ok (.aload_n 2, 1) := by decide +kernel
theorem dL_law_781 : decode cL_law 781 = .ok (.aload_n 0, 1) := by decide +kernel
theorem dL_law_782 : decode cL_law 782 = .ok (.iload_n 3, 1) := by decide +kernel
theorem dL_law_783 : decode cL_law 783 = .ok (.iconst 1, 1) := by decide +kernel
theorem dL_law_784 : decode cL_law 784 = .ok (.iadd, 1) := by decide +kernel
theorem dL_law_785 : decode cL_law 785 = .ok (.iaload, 1) := by decide +kernel
theorem dL_law_786 : decode cL_law 786 = .ok (.invokevirtual 89, 3) := by decide +kernel
theorem dL_law_789 : decode cL_law 789 = .ok (.if_icmp .eq 462, 3) := by decide +kernel
theorem dL_law_792 : decode cL_law 792 = .ok (.iconst 0, 1) := by decide +kernel
theorem dL_law_793 : decode cL_law 793 = .ok (.ireturn, 1) := by decide +kernel
theorem dL_law_794 : decode cL_law 794 = .ok (.aload_n 1, 1) := by decide +kernel
theorem dL_law_795 : decode cL_law 795 = .ok (.aload_n 0, 1) := by decide +kernel
theorem dL_law_796 : decode cL_law 796 = .ok (.iload_n 3, 1) := by decide +kernel
theorem dL_law_797 : decode cL_law 797 = .ok (.iconst 1, 1) := by decide +kernel
theorem dL_law_798 : decode cL_law 798 = .ok (.iadd, 1) := by decide +kernel
theorem dL_law_799 : decode cL_law 799 = .ok (.iaload, 1) := by decide +kernel
theorem dL_law_800 : decode cL_law 800 = .ok (.invokevirtual 90, 3) := by decide +kernel
theorem dL_law_803 : decode cL_law 803 = .ok (.aload_n 2, 1) := by decide +kernel
theorem dL_law_804 : decode cL_law 804 = .ok (.aload_n 0, 1) := by decide +kernel
theorem dL_law_805 : decode cL_law 805 = .ok (.iload_n 3, 1) := by decide +kernel
theorem dL_law_806 : decode cL_law 806 = .ok (.iconst 1, 1) := by decide +kernel
theorem dL_law_807 : decode cL_law 807 = .ok (.iadd, 1) := by decide +kernel
theorem dL_law_808 : decode cL_law 808 = .ok (.iaload, 1) := by decide +kernel
theorem dL_law_809 : decode cL_law 809 = .ok (.invokevirtual 93, 3) := by decide +kernel
theorem dL_law_812 : decode cL_law 812 = .ok (.if_icmp .eq 439, 3) := by decide +kernel
theorem dL_law_815 : decode cL_law 815 = .ok (.iconst 0, 1) := by decide +kernel
theorem dL_law_816 : decode cL_law 816 = .ok (.ireturn, 1) := by decide +kernel
theorem dL_law_817 : decode cL_law 817 = .ok (.aload_n 1, 1) := by decide +kernel
theorem dL_law_818 : decode cL_law 818 = .ok (.aload_n 0, 1) := by decide +kernel
theorem dL_law_819 : decode cL_law 819 = .ok (.iload_n 3, 1) := by decide +kernel
theorem dL_law_820 : decode cL_law 820 = .ok (.iconst 1, 1) := by decide +kernel
theorem dL_law_821 : decode cL_law 821 = .ok (.iadd, 1) := by decide +kernel
theorem dL_law_822 : decode cL_law 822 = .ok (.iaload, 1) := by decide +kernel
theorem dL_law_823 : decode cL_law 823 = .ok (.invokevirtual 94, 3) := by decide +kernel
theorem dL_law_826 : decode cL_law 826 = .ok (.aload_n 2, 1) := by decide +kernel
theorem dL_law_827 : decode cL_law 827 = .ok (.aload_n 0, 1) := by decide +kernel
theorem dL_law_828 : decode cL_law 828 = .ok (.iload_n 3, 1) := by decide +kernel
theorem dL_law_829 : decode cL_law 829 = .ok (.iconst 1, 1) := by decide +kernel
theorem dL_law_830 : decode cL_law 830 = .ok (.iadd, 1) := by decide +kernel
theorem dL_law_831 : decode cL_law 831 = .ok (.iaload, 1) := by decide +kernel
theorem dL_law_832 : decode cL_law 832 = .ok (.invokevirtual 97, 3) := by decide +kernel
theorem dL_law_835 : decode cL_law 835 = .ok (.if_icmp .eq 416, 3) := by decide +kernel
theorem dL_law_838 : decode cL_law 838 = .ok (.iconst 0, 1) := by decide +kernel
theorem dL_law_839 : decode cL_law 839 = .ok (.ireturn, 1) := by decide +kernel
theorem dL_law_840 : decode cL_law 840 = .ok (.aload_n 1, 1) := by decide +kernel
theorem dL_law_841 : decode cL_law 841 = .ok (.aload_n 0, 1) := by decide +kernel
theorem dL_law_842 : decode cL_law 842 = .ok (.iload_n 3, 1) := by decide +kernel
theorem dL_law_843 : decode cL_law 843 = .ok (.iconst 1, 1) := by decide +kernel
theorem dL_law_844 : decode cL_law 844 = .ok (.iadd, 1) := by decide +kernel
theorem dL_law_845 : decode cL_law 845 = .ok (.iaload, 1) := by decide +kernel
theorem dL_law_846 : decode cL_law 846 = .ok (.invokevirtual 98, 3) := by decide +kernel
theorem dL_law_849 : decode cL_law 849 = .ok (.aload_n 2, 1) := by decide +kernel
theorem dL_law_850 : decode cL_law 850 = .ok (.aload_n 0, 1) := by decide +kernel
theorem dL_law_851 : decode cL_law 851 = .ok (.iload_n 3, 1) := by decide +kernel
theorem dL_law_852 : decode cL_law 852 = .ok (.iconst 1, 1) := by decide +kernel
theorem dL_law_853 : decode cL_law 853 = .ok (.iadd, 1) := by decide +kernel
theorem dL_law_854 : decode cL_law 854 = .ok (.iaload, 1) := by decide +kernel
theorem dL_law_855 : decode cL_law 855 = .ok (.invokevirtual 101, 3) := by decide +kernel
theorem dL_law_858 : decode cL_law 858 = .ok (.if_icmp .eq 393, 3) := by decide +kernel
theorem dL_law_861 : decode cL_law 861 = .ok (.iconst 0, 1) := by decide +kernel
theorem dL_law_862 : decode cL_law 862 = .ok (.ireturn, 1) := by decide +kernel
theorem dL_law_863 : decode cL_law 863 = .ok (.aload_n 1, 1) := by decide +kernel
theorem dL_law_864 : decode cL_law 864 = .ok (.aload_n 0, 1) := by decide +kernel
theorem dL_law_865 : decode cL_law 865 = .ok (.iload_n 3, 1) := by decide +kernel
theorem dL_law_866 : decode cL_law 866 = .ok (.iconst 1, 1) := by decide +kernel
theorem dL_law_867 : decode cL_law 867 = .ok (.iadd, 1) := by decide +kernel
theorem dL_law_868 : decode cL_law 868 = .ok (.iaload, 1) := by decide +kernel
theorem dL_law_869 : decode cL_law 869 = .ok (.aload_n 0, 1) := by decide +kernel
theorem dL_law_870 : decode cL_law 870 = .ok (.iload_n 3, 1) := by decide +kernel
theorem dL_law_871 : decode cL_law 871 = .ok (.iconst 2, 1) := by decide +kernel
theorem dL_law_872 : decode cL_law 872 = .ok (.iadd, 1) := by decide +kernel
theorem dL_law_873 : decode cL_law 873 = .ok (.iaload, 1) := by decide +kernel
theorem dL_law_874 : decode cL_law 874 = .ok (.aload_n 0, 1) := by decide +kernel
theorem dL_law_875 : decode cL_law 875 = .ok (.iload_n 3, 1) := by decide +kernel
theorem dL_law_876 : decode cL_law 876 = .ok (.iconst 3, 1) := by decide +kernel
theorem dL_law_877 : decode cL_law 877 = .ok (.iadd, 1) := by decide +kernel
theorem dL_law_878 : decode cL_law 878 = .ok (.iaload, 1) := by decide +kernel
theorem dL_law_879 : decode cL_law 879 = .ok (.invokevirtual 102, 3) := by decide +kernel
theorem dL_law_882 : decode cL_law 882 = .ok (.aload_n 2, 1) := by decide +kernel
theorem dL_law_883 : decode cL_law 883 = .ok (.aload_n 0, 1) := by decide +kernel
theorem dL_law_884 : decode cL_law 884 = .ok (.iload_n 3, 1) := by decide +kernel
theorem dL_law_885 : decode cL_law 885 = .ok (.iconst 1, 1) := by decide +kernel
theorem dL_law_886 : decode cL_law 886 = .ok (.iadd, 1) := by decide +kernel
theorem dL_law_887 : decode cL_law 887 = .ok (.iaload, 1) := by decide +kernel
theorem dL_law_888 : decode cL_law 888 = .ok (.aload_n 0, 1) := by decide +kernel
theorem dL_law_889 : decode cL_law 889 = .ok (.iload_n 3, 1) := by decide +kernel
theorem dL_law_890 : decode cL_law 890 = .ok (.iconst 2, 1) := by decide +kernel
theorem dL_law_891 : decode cL_law 891 = .ok (.iadd, 1) := by decide +kernel
theorem dL_law_892 : decode cL_law 892 = .ok (.iaload, 1) := by decide +kernel
theorem dL_law_893 : decode cL_law 893 = .ok (.aload_n 0, 1) := by decide +kernel
theorem dL_law_894 : decode cL_law 894 = .ok (.iload_n 3, 1) := by decide +kernel
theorem dL_law_895 : decode cL_law 895 = .ok (.iconst 3, 1) := by decide +kernel
theorem dL_law_896 : decode cL_law 896 = .ok (.iadd, 1) := by decide +kernel
theorem dL_law_897 : decode cL_law 897 = .ok (.iaload, 1) := by decide +kernel
theorem dL_law_898 : decode cL_law 898 = .ok (.invokevirtual 106, 3) := by decide +kernel
theorem dL_law_901 : decode cL_law 901 = .ok (.lcmp, 1) := by decide +kernel
theorem dL_law_902 : decode cL_law 902 = .ok (.ifCond .eq 349, 3) := by decide +kernel
theorem dL_law_905 : decode cL_law 905 = .ok (.iconst 0, 1) := by decide +kernel
theorem dL_law_906 : decode cL_law 906 = .ok (.ireturn, 1) := by decide +kernel
theorem dL_law_907 : decode cL_law 907 = .ok (.aload_n 1, 1) := by decide +kernel
theorem dL_law_908 : decode cL_law 908 = .ok (.aload_n 0, 1) := by decide +kernel
theorem dL_law_909 : decode cL_law 909 = .ok (.iload_n 3, 1) := by decide +kernel
theorem dL_law_910 : decode cL_law 910 = .ok (.iconst 1, 1) := by decide +kernel
theorem dL_law_911 : decode cL_law 911 = .ok (.iadd, 1) := by decide +kernel
theorem dL_law_912 : decode cL_law 912 = .ok (.iaload, 1) := by decide +kernel
theorem dL_law_913 : decode cL_law 913 = .ok (.aload_n 0, 1) := by decide +kernel
theorem dL_law_914 : decode cL_law 914 = .ok (.iload_n 3, 1) := by decide +kernel
theorem dL_law_915 : decode cL_law 915 = .ok (.iconst 2, 1) := by decide +kernel
theorem dL_law_916 : decode cL_law 916 = .ok (.iadd, 1) := by decide +kernel
theorem dL_law_917 : decode cL_law 917 = .ok (.iaload, 1) := by decide +kernel
theorem dL_law_918 : decode cL_law 918 = .ok (.aload_n 0, 1) := by decide +kernel
theorem dL_law_919 : decode cL_law 919 = .ok (.iload_n 3, 1) := by decide +kernel
theorem dL_law_920 : decode cL_law 920 = .ok (.iconst 3, 1) := by decide +kernel
theorem dL_law_921 : decode cL_law 921 = .ok (.iadd, 1) := by decide +kernel
theorem dL_law_922 : decode cL_law 922 = .ok (.iaload, 1) := by decide +kernel
theorem dL_law_923 : decode cL_law 923 = .ok (.invokevirtual 107, 3) := by decide +kernel
theorem dL_law_926 : decode cL_law 926 = .ok (.aload_n 2, 1) := by decide +kernel
theorem dL_law_927 : decode cL_law 927 = .ok (.aload_n 0, 1) := by decide +kernel
theorem dL_law_928 : decode cL_law 928 = .ok (.iload_n 3, 1) := by decide +kernel
theorem dL_law_929 : decode cL_law 929 = .ok (.iconst 1, 1) := by decide +kernel
theorem dL_law_930 : decode cL_law 930 = .ok (.iadd, 1) := by decide +kernel
theorem dL_law_931 : decode cL_law 931 = .ok (.iaload, 1) := by decide +kernel
theorem dL_law_932 : decode cL_law 932 = .ok (.aload_n 0, 1) := by decide +kernel
theorem dL_law_933 : decode cL_law 933 = .ok (.iload_n 3, 1) := by decide +kernel
theorem dL_law_934 : decode cL_law 934 = .ok (.iconst 2, 1) := by decide +kernel
theorem dL_law_935 : decode cL_law 935 = .ok (.iadd, 1) := by decide +kernel
theorem dL_law_936 : decode cL_law 936 = .ok (.iaload, 1) := by decide +kernel
theorem dL_law_937 : decode cL_law 937 = .ok (.aload_n 0, 1) := by decide +kernel
theorem dL_law_938 : decode cL_law 938 = .ok (.iload_n 3, 1) := by decide +kernel
theorem dL_law_939 : decode cL_law 939 = .ok (.iconst 3, 1) := by decide +kernel
theorem dL_law_940 : decode cL_law 940 = .ok (.iadd, 1) := by decide +kernel
theorem dL_law_941 : decode cL_law 941 = .ok (.iaload, 1) := by decide +kernel
theorem dL_law_942 : decode cL_law 942 = .ok (.invokevirtual 110, 3) := by decide +kernel
theorem dL_law_945 : decode cL_law 945 = .ok (.if_icmp .eq 306, 3) := by decide +kernel
theorem dL_law_948 : decode cL_law 948 = .ok (.iconst 0, 1) := by decide +kernel
theorem dL_law_949 : decode cL_law 949 = .ok (.ireturn, 1) := by decide +kernel
theorem dL_law_950 : decode cL_law 950 = .ok (.aload_n 1, 1) := by decide +kernel
theorem dL_law_951 : decode cL_law 951 = .ok (.aload_n 0, 1) := by decide +kernel
theorem dL_law_952 : decode cL_law 952 = .ok (.iload_n 3, 1) := by decide +kernel
theorem dL_law_953 : decode cL_law 953 = .ok (.iconst 1, 1) := by decide +kernel
theorem dL_law_954 : decode cL_law 954 = .ok (.iadd, 1) := by decide +kernel
theorem dL_law_955 : decode cL_law 955 = .ok (.iaload, 1) := by decide +kernel
theorem dL_law_956 : decode cL_law 956 = .ok (.invokevirtual 111, 3) := by decide +kernel
theorem dL_law_959 : decode cL_law 959 = .ok (.aload_n 2, 1) := by decide +kernel
theorem dL_law_960 : decode cL_law 960 = .ok (.aload_n 0, 1) := by decide +kernel
theorem dL_law_961 : decode cL_law 961 = .ok (.iload_n 3, 1) := by decide +kernel
theorem dL_law_962 : decode cL_law 962 = .ok (.iconst 1, 1) := by decide +kernel
theorem dL_law_963 : decode cL_law 963 = .ok (.iadd, 1) := by decide +kernel
theorem dL_law_964 : decode cL_law 964 = .ok (.iaload, 1) := by decide +kernel
theorem dL_law_965 : decode cL_law 965 = .ok (.invokevirtual 114, 3) := by decide +kernel
theorem dL_law_968 : decode cL_law 968 = .ok (.if_icmp .eq 283, 3) := by decide +kernel
theorem dL_law_971 : decode cL_law 971 = .ok (.iconst 0, 1) := by decide +kernel
theorem dL_law_972 : decode cL_law 972 = .ok (.ireturn, 1) := by decide +kernel
theorem dL_law_973 : decode cL_law 973 = .ok (.aload_n 1, 1) := by decide +kernel
theorem dL_law_974 : decode cL_law 974 = .ok (.aload_n 0, 1) := by decide +kernel
theorem dL_law_975 : decode cL_law 975 = .ok (.iload_n 3, 1) := by decide +kernel
theorem dL_law_976 : decode cL_law 976 = .ok (.iconst 1, 1) := by decide +kernel
theorem dL_law_977 : decode cL_law 977 = .ok (.iadd, 1) := by decide +kernel
theorem dL_law_978 : decode cL_law 978 = .ok (.iaload, 1) := by decide +kernel
theorem dL_law_979 : decode cL_law 979 = .ok (.aload_n 0, 1) := by decide +kernel
theorem dL_law_980 : decode cL_law 980 = .ok (.iload_n 3, 1) := by decide +kernel
theorem dL_law_981 : decode cL_law 981 = .ok (.iconst 2, 1) := by decide +kernel
theorem dL_law_982 : decode cL_law 982 = .ok (.iadd, 1) := by decide +kernel
theorem dL_law_983 : decode cL_law 983 = .ok (.iaload, 1) := by decide +kernel
theorem dL_law_984 : decode cL_law 984 = .ok (.aload_n 0, 1) := by decide +kernel
theorem dL_law_985 : decode cL_law 985 = .ok (.iload_n 3, 1) := by decide +kernel
theorem dL_law_986 : decode cL_law 986 = .ok (.iconst 3, 1) := by decide +kernel
theorem dL_law_987 : decode cL_law 987 = .ok (.iadd, 1) := by decide +kernel
theorem dL_law_988 : decode cL_law 988 = .ok (.iaload, 1) := by decide +kernel
theorem dL_law_989 : decode cL_law 989 = .ok (.invokevirtual 115, 3) := by decide +kernel
theorem dL_law_992 : decode cL_law 992 = .ok (.aload_n 2, 1) := by decide +kernel
theorem dL_law_993 : decode cL_law 993 = .ok (.aload_n 0, 1) := by decide +kernel
theorem dL_law_994 : decode cL_law 994 = .ok (.iload_n 3, 1) := by decide +kernel
theorem dL_law_995 : decode cL_law 995 = .ok (.iconst 1, 1) := by decide +kernel
theorem dL_law_996 : decode cL_law 996 = .ok (.iadd, 1) := by decide +kernel
theorem dL_law_997 : decode cL_law 997 = .ok (.iaload, 1) := by decide +kernel
theorem dL_law_998 : decode cL_law 998 = .ok (.aload_n 0, 1) := by decide +kernel
theorem dL_law_999 : decode cL_law 999 = .ok (.iload_n 3, 1) := by decide +kernel
theorem dL_law_1000 : decode cL_law 1000 = .ok (.iconst 2, 1) := by decide +kernel
theorem dL_law_1001 : decode cL_law 1001 = .ok (.iadd, 1) := by decide +kernel
theorem dL_law_1002 : decode cL_law 1002 = .ok (.iaload, 1) := by decide +kernel
theorem dL_law_1003 : decode cL_law 1003 = .ok (.aload_n 0, 1) := by decide +kernel
theorem dL_law_1004 : decode cL_law 1004 = .ok (.iload_n 3, 1) := by decide +kernel
theorem dL_law_1005 : decode cL_law 1005 = .ok (.iconst 3, 1) := by decide +kernel
theorem dL_law_1006 : decode cL_law 1006 = .ok (.iadd, 1) := by decide +kernel
theorem dL_law_1007 : decode cL_law 1007 = .ok (.iaload, 1) := by decide +kernel
theorem dL_law_1008 : decode cL_law 1008 = .ok (.invokevirtual 118, 3) := by decide +kernel
theorem dL_law_1011 : decode cL_law 1011 = .ok (.if_icmp .eq 240, 3) := by decide +kernel
theorem dL_law_1014 : decode cL_law 1014 = .ok (.iconst 0, 1) := by decide +kernel
theorem dL_law_1015 : decode cL_law 1015 = .ok (.ireturn, 1) := by decide +kernel
theorem dL_law_1016 : decode cL_law 1016 = .ok (.aload_n 1, 1) := by decide +kernel
theorem dL_law_1017 : decode cL_law 1017 = .ok (.aload_n 0, 1) := by decide +kernel
theorem dL_law_1018 : decode cL_law 1018 = .ok (.iload_n 3, 1) := by decide +kernel
theorem dL_law_1019 : decode cL_law 1019 = .ok (.iconst 1, 1) := by decide +kernel
theorem dL_law_1020 : decode cL_law 1020 = .ok (.iadd, 1) := by decide +kernel
theorem dL_law_1021 : decode cL_law 1021 = .ok (.iaload, 1) := by decide +kernel
theorem dL_law_1022 : decode cL_law 1022 = .ok (.aload_n 0, 1) := by decide +kernel
theorem dL_law_1023 : decode cL_law 1023 = .ok (.iload_n 3, 1) := by decide +kernel
theorem dL_law_1024 : decode cL_law 1024 = .ok (.iconst 2, 1) := by decide +kernel
theorem dL_law_1025 : decode cL_law 1025 = .ok (.iadd, 1) := by decide +kernel
theorem dL_law_1026 : decode cL_law 1026 = .ok (.iaload, 1) := by decide +kernel
theorem dL_law_1027 : decode cL_law 1027 = .ok (.aload_n 0, 1) := by decide +kernel
theorem dL_law_1028 : decode cL_law 1028 = .ok (.iload_n 3, 1) := by decide +kernel
theorem dL_law_1029 : decode cL_law 1029 = .ok (.iconst 3, 1) := by decide +kernel
theorem dL_law_1030 : decode cL_law 1030 = .ok (.iadd, 1) := by decide +kernel
theorem dL_law_1031 : decode cL_law 1031 = .ok (.iaload, 1) := by decide +kernel
theorem dL_law_1032 : decode cL_law 1032 = .ok (.invokevirtual 119, 3) := by decide +kernel
theorem dL_law_1035 : decode cL_law 1035 = .ok (.aload_n 2, 1) := by decide +kernel
theorem dL_law_1036 : decode cL_law 1036 = .ok (.aload_n 0, 1) := by decide +kernel
theorem dL_law_1037 : decode cL_law 1037 = .ok (.iload_n 3, 1) := by decide +kernel
theorem dL_law_1038 : decode cL_law 1038 = .ok (.iconst 1, 1) := by decide +kernel
theorem dL_law_1039 : decode cL_law 1039 = .ok (.iadd, 1) := by decide +kernel
theorem dL_law_1040 : decode cL_law 1040 = .ok (.iaload, 1) := by decide +kernel
theorem dL_law_1041 : decode cL_law 1041 = .ok (.aload_n 0, 1) := by decide +kernel
theorem dL_law_1042 : decode cL_law 1042 = .ok (.iload_n 3, 1) := by decide +kernel
theorem dL_law_1043 : decode cL_law 1043 = .ok (.iconst 2, 1) := by decide +kernel
theorem dL_law_1044 : decode cL_law 1044 = .ok (.iadd, 1) := by decide +kernel
theorem dL_law_1045 : decode cL_law 1045 = .ok (.iaload, 1) := by decide +kernel
theorem dL_law_1046 : decode cL_law 1046 = .ok (.aload_n 0, 1) := by decide +kernel
theorem dL_law_1047 : decode cL_law 1047 = .ok (.iload_n 3, 1) := by decide +kernel
theorem dL_law_1048 : decode cL_law 1048 = .ok (.iconst 3, 1) := by decide +kernel
theorem dL_law_1049 : decode cL_law 1049 = .ok (.iadd, 1) := by decide +kernel
theorem dL_law_1050 : decode cL_law 1050 = .ok (.iaload, 1) := by decide +kernel
theorem dL_law_1051 : decode cL_law 1051 = .ok (.invokevirtual 122, 3) := by decide +kernel
theorem dL_law_1054 : decode cL_law 1054 = .ok (.lcmp, 1) := by decide +kernel
theorem dL_law_1055 : decode cL_law 1055 = .ok (.ifCond .eq 196, 3) := by decide +kernel
theorem dL_law_1058 : decode cL_law 1058 = .ok (.iconst 0, 1) := by decide +kernel
theorem dL_law_1059 : decode cL_law 1059 = .ok (.ireturn, 1) := by decide +kernel
theorem dL_law_1060 : decode cL_law 1060 = .ok (.aload_n 1, 1) := by decide +kernel
theorem dL_law_1061 : decode cL_law 1061 = .ok (.aload_n 0, 1) := by decide +kernel
theorem dL_law_1062 : decode cL_law 1062 = .ok (.iload_n 3, 1) := by decide +kernel
theorem dL_law_1063 : decode cL_law 1063 = .ok (.iconst 1, 1) := by decide +kernel
theorem dL_law_1064 : decode cL_law 1064 = .ok (.iadd, 1) := by decide +kernel
theorem dL_law_1065 : decode cL_law 1065 = .ok (.iaload, 1) := by decide +kernel
theorem dL_law_1066 : decode cL_law 1066 = .ok (.aload_n 0, 1) := by decide +kernel
theorem dL_law_1067 : decode cL_law 1067 = .ok (.iload_n 3, 1) := by decide +kernel
theorem dL_law_1068 : decode cL_law 1068 = .ok (.iconst 2, 1) := by decide +kernel
theorem dL_law_1069 : decode cL_law 1069 = .ok (.iadd, 1) := by decide +kernel
theorem dL_law_1070 : decode cL_law 1070 = .ok (.iaload, 1) := by decide +kernel
theorem dL_law_1071 : decode cL_law 1071 = .ok (.aload_n 0, 1) := by decide +kernel
theorem dL_law_1072 : decode cL_law 1072 = .ok (.iload_n 3, 1) := by decide +kernel
theorem dL_law_1073 : decode cL_law 1073 = .ok (.iconst 3, 1) := by decide +kernel
theorem dL_law_1074 : decode cL_law 1074 = .ok (.iadd, 1) := by decide +kernel
theorem dL_law_1075 : decode cL_law 1075 = .ok (.iaload, 1) := by decide +kernel
theorem dL_law_1076 : decode cL_law 1076 = .ok (.aload_n 0, 1) := by decide +kernel
theorem dL_law_1077 : decode cL_law 1077 = .ok (.iload_n 3, 1) := by decide +kernel
theorem dL_law_1078 : decode cL_law 1078 = .ok (.iconst 4, 1) := by decide +kernel
theorem dL_law_1079 : decode cL_law 1079 = .ok (.iadd, 1) := by decide +kernel
theorem dL_law_1080 : decode cL_law 1080 = .ok (.iaload, 1) := by decide +kernel
theorem dL_law_1081 : decode cL_law 1081 = .ok (.aload_n 0, 1) := by decide +kernel
theorem dL_law_1082 : decode cL_law 1082 = .ok (.iload_n 3, 1) := by decide +kernel
theorem dL_law_1083 : decode cL_law 1083 = .ok (.iconst 5, 1) := by decide +kernel
theorem dL_law_1084 : decode cL_law 1084 = .ok (.iadd, 1) := by decide +kernel
theorem dL_law_1085 : decode cL_law 1085 = .ok (.iaload, 1) := by decide +kernel
theorem dL_law_1086 : decode cL_law 1086 = .ok (.invokevirtual 123, 3) := by decide +kernel
theorem dL_law_1089 : decode cL_law 1089 = .ok (.aload_n 2, 1) := by decide +kernel
theorem dL_law_1090 : decode cL_law 1090 = .ok (.aload_n 0, 1) := by decide +kernel
theorem dL_law_1091 : decode cL_law 1091 = .ok (.iload_n 3, 1) := by decide +kernel
theorem dL_law_1092 : decode cL_law 1092 = .ok (.iconst 1, 1) := by decide +kernel
theorem dL_law_1093 : decode cL_law 1093 = .ok (.iadd, 1) := by decide +kernel
theorem dL_law_1094 : decode cL_law 1094 = .ok (.iaload, 1) := by decide +kernel
theorem dL_law_1095 : decode cL_law 1095 = .ok (.aload_n 0, 1) := by decide +kernel
theorem dL_law_1096 : decode cL_law 1096 = .ok (.iload_n 3, 1) := by decide +kernel
theorem dL_law_1097 : decode cL_law 1097 = .ok (.iconst 2, 1) := by decide +kernel
theorem dL_law_1098 : decode cL_law 1098 = .ok (.iadd, 1) := by decide +kernel
theorem dL_law_1099 : decode cL_law 1099 = .ok (.iaload, 1) := by decide +kernel
theorem dL_law_1100 : decode cL_law 1100 = .ok (.aload_n 0, 1) := by decide +kernel
theorem dL_law_1101 : decode cL_law 1101 = .ok (.iload_n 3, 1) := by decide +kernel
theorem dL_law_1102 : decode cL_law 1102 = .ok (.iconst 3, 1) := by decide +kernel
theorem dL_law_1103 : decode cL_law 1103 = .ok (.iadd, 1) := by decide +kernel
theorem dL_law_1104 : decode cL_law 1104 = .ok (.iaload, 1) := by decide +kernel
theorem dL_law_1105 : decode cL_law 1105 = .ok (.aload_n 0, 1) := by decide +kernel
theorem dL_law_1106 : decode cL_law 1106 = .ok (.iload_n 3, 1) := by decide +kernel
theorem dL_law_1107 : decode cL_law 1107 = .ok (.iconst 4, 1) := by decide +kernel
theorem dL_law_1108 : decode cL_law 1108 = .ok (.iadd, 1) := by decide +kernel
theorem dL_law_1109 : decode cL_law 1109 = .ok (.iaload, 1) := by decide +kernel
theorem dL_law_1110 : decode cL_law 1110 = .ok (.aload_n 0, 1) := by decide +kernel
theorem dL_law_1111 : decode cL_law 1111 = .ok (.iload_n 3, 1) := by decide +kernel
theorem dL_law_1112 : decode cL_law 1112 = .ok (.iconst 5, 1) := by decide +kernel
theorem dL_law_1113 : decode cL_law 1113 = .ok (.iadd, 1) := by decide +kernel
theorem dL_law_1114 : decode cL_law 1114 = .ok (.iaload, 1) := by decide +kernel
theorem dL_law_1115 : decode cL_law 1115 = .ok (.invokevirtual 126, 3) := by decide +kernel
theorem dL_law_1118 : decode cL_law 1118 = .ok (.if_icmp .eq 133, 3) := by decide +kernel
theorem dL_law_1121 : decode cL_law 1121 = .ok (.iconst 0, 1) := by decide +kernel
theorem dL_law_1122 : decode cL_law 1122 = .ok (.ireturn, 1) := by decide +kernel
theorem dL_law_1123 : decode cL_law 1123 = .ok (.aload_n 1, 1) := by decide +kernel
theorem dL_law_1124 : decode cL_law 1124 = .ok (.aload_n 0, 1) := by decide +kernel
theorem dL_law_1125 : decode cL_law 1125 = .ok (.iload_n 3, 1) := by decide +kernel
theorem dL_law_1126 : decode cL_law 1126 = .ok (.iconst 1, 1) := by decide +kernel
theorem dL_law_1127 : decode cL_law 1127 = .ok (.iadd, 1) := by decide +kernel
theorem dL_law_1128 : decode cL_law 1128 = .ok (.iaload, 1) := by decide +kernel
theorem dL_law_1129 : decode cL_law 1129 = .ok (.invokevirtual 127, 3) := by decide +kernel
theorem dL_law_1132 : decode cL_law 1132 = .ok (.aload_n 2, 1) := by decide +kernel
theorem dL_law_1133 : decode cL_law 1133 = .ok (.aload_n 0, 1) := by decide +kernel
theorem dL_law_1134 : decode cL_law 1134 = .ok (.iload_n 3, 1) := by decide +kernel
theorem dL_law_1135 : decode cL_law 1135 = .ok (.iconst 1, 1) := by decide +kernel
theorem dL_law_1136 : decode cL_law 1136 = .ok (.iadd, 1) := by decide +kernel
theorem dL_law_1137 : decode cL_law 1137 = .ok (.iaload, 1) := by decide +kernel
theorem dL_law_1138 : decode cL_law 1138 = .ok (.invokevirtual 130, 3) := by decide +kernel
theorem dL_law_1141 : decode cL_law 1141 = .ok (.if_icmp .eq 110, 3) := by decide +kernel
theorem dL_law_1144 : decode cL_law 1144 = .ok (.iconst 0, 1) := by decide +kernel
theorem dL_law_1145 : decode cL_law 1145 = .ok (.ireturn, 1) := by decide +kernel
theorem dL_law_1146 : decode cL_law 1146 = .ok (.aload_n 1, 1) := by decide +kernel
theorem dL_law_1147 : decode cL_law 1147 = .ok (.aload_n 0, 1) := by decide +kernel
theorem dL_law_1148 : decode cL_law 1148 = .ok (.iload_n 3, 1) := by decide +kernel
theorem dL_law_1149 : decode cL_law 1149 = .ok (.iconst 1, 1) := by decide +kernel
theorem dL_law_1150 : decode cL_law 1150 = .ok (.iadd, 1) := by decide +kernel
theorem dL_law_1151 : decode cL_law 1151 = .ok (.iaload, 1) := by decide +kernel
theorem dL_law_1152 : decode cL_law 1152 = .ok (.invokevirtual 131, 3) := by decide +kernel
theorem dL_law_1155 : decode cL_law 1155 = .ok (.aload_n 2, 1) := by decide +kernel
theorem dL_law_1156 : decode cL_law 1156 = .ok (.aload_n 0, 1) := by decide +kernel
theorem dL_law_1157 : decode cL_law 1157 = .ok (.iload_n 3, 1) := by decide +kernel
theorem dL_law_1158 : decode cL_law 1158 = .ok (.iconst 1, 1) := by decide +kernel
theorem dL_law_1159 : decode cL_law 1159 = .ok (.iadd, 1) := by decide +kernel
theorem dL_law_1160 : decode cL_law 1160 = .ok (.iaload, 1) := by decide +kernel
theorem dL_law_1161 : decode cL_law 1161 = .ok (.invokevirtual 134, 3) := by decide +kernel
theorem dL_law_1164 : decode cL_law 1164 = .ok (.if_icmp .eq 87, 3) := by decide +kernel
theorem dL_law_1167 : decode cL_law 1167 = .ok (.iconst 0, 1) := by decide +kernel
theorem dL_law_1168 : decode cL_law 1168 = .ok (.ireturn, 1) := by decide +kernel
theorem dL_law_1169 : decode cL_law 1169 = .ok (.aload_n 1, 1) := by decide +kernel
theorem dL_law_1170 : decode cL_law 1170 = .ok (.aload_n 0, 1) := by decide +kernel
theorem dL_law_1171 : decode cL_law 1171 = .ok (.iload_n 3, 1) := by decide +kernel
theorem dL_law_1172 : decode cL_law 1172 = .ok (.iconst 1, 1) := by decide +kernel
theorem dL_law_1173 : decode cL_law 1173 = .ok (.iadd, 1) := by decide +kernel
theorem dL_law_1174 : decode cL_law 1174 = .ok (.iaload, 1) := by decide +kernel
theorem dL_law_1175 : decode cL_law 1175 = .ok (.aload_n 0, 1) := by decide +kernel
theorem dL_law_1176 : decode cL_law 1176 = .ok (.iload_n 3, 1) := by decide +kernel
theorem dL_law_1177 : decode cL_law 1177 = .ok (.iconst 2, 1) := by decide +kernel
theorem dL_law_1178 : decode cL_law 1178 = .ok (.iadd, 1) := by decide +kernel
theorem dL_law_1179 : decode cL_law 1179 = .ok (.iaload, 1) := by decide +kernel
theorem dL_law_1180 : decode cL_law 1180 = .ok (.invokevirtual 135, 3) := by decide +kernel
theorem dL_law_1183 : decode cL_law 1183 = .ok (.aload_n 2, 1) := by decide +kernel
theorem dL_law_1184 : decode cL_law 1184 = .ok (.aload_n 0, 1) := by decide +kernel
theorem dL_law_1185 : decode cL_law 1185 = .ok (.iload_n 3, 1) := by decide +kernel
theorem dL_law_1186 : decode cL_law 1186 = .ok (.iconst 1, 1) := by decide +kernel
theorem dL_law_1187 : decode cL_law 1187 = .ok (.iadd, 1) := by decide +kernel
theorem dL_law_1188 : decode cL_law 1188 = .ok (.iaload, 1) := by decide +kernel
theorem dL_law_1189 : decode cL_law 1189 = .ok (.aload_n 0, 1) := by decide +kernel
theorem dL_law_1190 : decode cL_law 1190 = .ok (.iload_n 3, 1) := by decide +kernel
theorem dL_law_1191 : decode cL_law 1191 = .ok (.iconst 2, 1) := by decide +kernel
theorem dL_law_1192 : decode cL_law 1192 = .ok (.iadd, 1) := by decide +kernel
theorem dL_law_1193 : decode cL_law 1193 = .ok (.iaload, 1) := by decide +kernel
theorem dL_law_1194 : decode cL_law 1194 = .ok (.invokevirtual 138, 3) := by decide +kernel
theorem dL_law_1197 : decode cL_law 1197 = .ok (.if_icmp .eq 54, 3) := by decide +kernel
theorem dL_law_1200 : decode cL_law 1200 = .ok (.iconst 0, 1) := by decide +kernel
theorem dL_law_1201 : decode cL_law 1201 = .ok (.ireturn, 1) := by decide +kernel
theorem dL_law_1202 : decode cL_law 1202 = .ok (.aload_n 1, 1) := by decide +kernel
theorem dL_law_1203 : decode cL_law 1203 = .ok (.invokevirtual 139, 3) := by decide +kernel
theorem dL_law_1206 : decode cL_law 1206 = .ok (.aload_n 2, 1) := by decide +kernel
theorem dL_law_1207 : decode cL_law 1207 = .ok (.invokevirtual 143, 3) := by decide +kernel
theorem dL_law_1210 : decode cL_law 1210 = .ok (.if_icmp .eq 41, 3) := by decide +kernel
theorem dL_law_1213 : decode cL_law 1213 = .ok (.iconst 0, 1) := by decide +kernel
theorem dL_law_1214 : decode cL_law 1214 = .ok (.ireturn, 1) := by decide +kernel
theorem dL_law_1215 : decode cL_law 1215 = .ok (.aload_n 1, 1) := by decide +kernel
theorem dL_law_1216 : decode cL_law 1216 = .ok (.invokevirtual 144, 3) := by decide +kernel
theorem dL_law_1219 : decode cL_law 1219 = .ok (.aload_n 2, 1) := by decide +kernel
theorem dL_law_1220 : decode cL_law 1220 = .ok (.invokevirtual 147, 3) := by decide +kernel
theorem dL_law_1223 : decode cL_law 1223 = .ok (.if_icmp .eq 28, 3) := by decide +kernel
theorem dL_law_1226 : decode cL_law 1226 = .ok (.iconst 0, 1) := by decide +kernel
theorem dL_law_1227 : decode cL_law 1227 = .ok (.ireturn, 1) := by decide +kernel
theorem dL_law_1228 : decode cL_law 1228 = .ok (.aload_n 1, 1) := by decide +kernel
theorem dL_law_1229 : decode cL_law 1229 = .ok (.aload_n 0, 1) := by decide +kernel
theorem dL_law_1230 : decode cL_law 1230 = .ok (.iload_n 3, 1) := by decide +kernel
theorem dL_law_1231 : decode cL_law 1231 = .ok (.iconst 1, 1) := by decide +kernel
theorem dL_law_1232 : decode cL_law 1232 = .ok (.iadd, 1) := by decide +kernel
theorem dL_law_1233 : decode cL_law 1233 = .ok (.iaload, 1) := by decide +kernel
theorem dL_law_1234 : decode cL_law 1234 = .ok (.invokevirtual 148, 3) := by decide +kernel
theorem dL_law_1237 : decode cL_law 1237 = .ok (.aload_n 2, 1) := by decide +kernel
theorem dL_law_1238 : decode cL_law 1238 = .ok (.aload_n 0, 1) := by decide +kernel
theorem dL_law_1239 : decode cL_law 1239 = .ok (.iload_n 3, 1) := by decide +kernel
theorem dL_law_1240 : decode cL_law 1240 = .ok (.iconst 1, 1) := by decide +kernel
theorem dL_law_1241 : decode cL_law 1241 = .ok (.iadd, 1) := by decide +kernel
theorem dL_law_1242 : decode cL_law 1242 = .ok (.iaload, 1) := by decide +kernel
theorem dL_law_1243 : decode cL_law 1243 = .ok (.invokevirtual 151, 3) := by decide +kernel
theorem dL_law_1246 : decode cL_law 1246 = .ok (.if_icmp .eq 5, 3) := by decide +kernel
theorem dL_law_1249 : decode cL_law 1249 = .ok (.iconst 0, 1) := by decide +kernel
theorem dL_law_1250 : decode cL_law 1250 = .ok (.ireturn, 1) := by decide +kernel
theorem dL_law_1251 : decode cL_law 1251 = .ok (.iinc 3 6, 3) := by decide +kernel
theorem dL_law_1254 : decode cL_law 1254 = .ok (.goto (-1236), 3) := by decide +kernel
theorem dL_law_1257 : decode cL_law 1257 = .ok (.iconst 1, 1) := by decide +kernel
theorem dL_law_1258 : decode cL_law 1258 = .ok (.ireturn, 1) := by decide +kernel
end
section
/-- the tables' words that may be carried along -/
def wsA : List Cond := lw_tbl.filter goodWord
theorem wsA_in {w : Cond} (h : w ∈ wsA) : w ∈ lw_tbl := (List.mem_filter.mp h).1
theorem wsA_ok {w : Cond} (h : w ∈ wsA) : (w.onTables && w.keeps) = true ∨ ∃ ty, w = .arrayClass ty := good_of_word (List.mem_filter.mp h).2
theorem wsA_mk {w : Cond} (i : Nat) (h : lw_tbl[i]? = some w) (hg : goodWord w = true) : w ∈ wsA := List.mem_filter.mpr ⟨List.mem_of_getElem? h, hg⟩
theorem wd_0 : Cond.selects RX4 yX4_failed yX4_failed ∈ wsA := wsA_mk 0 (by decide +kernel) rfl
theorem wd_1 : Cond.selects RX1 yX1_passes yX1_passes ∈ wsA := wsA_mk 1 (by decide +kernel) rfl
theorem wd_2 : Cond.selects RX1 yX1_isAtEnd yX1_isAtEnd ∈ wsA := wsA_mk 2 (by decide +kernel) rfl
theorem wd_3 : Cond.selects RX1 yX1_readsHours yX1_readsHours ∈ wsA := wsA_mk 3 (by decide +kernel) rfl
theorem wd_4 : Cond.selects RX1 yX1_digitBelow yX1_digitBelow ∈ wsA := wsA_mk 4 (by decide +kernel) rfl
theorem wd_5 : Cond.selects RX1 yX1_readsSwearers yX1_readsSwearers ∈ wsA := wsA_mk 5 (by decide +kernel) rfl
theorem wd_6 : Cond.selects RX1 yX1_kindLetter yX1_kindLetter ∈ wsA := wsA_mk 6 (by decide +kernel) rfl
theorem wd_7 : Cond.selects RX1 yX1_readsOaths yX1_readsOaths ∈ wsA := wsA_mk 7 (by decide +kernel) rfl
theorem wd_8 : Cond.selects RX4 yX4_hasDay yX4_hasDay ∈ wsA := wsA_mk 8 (by decide +kernel) rfl
theorem wd_9 : Cond.selects RX4 yX4_playCase yX4_playCase ∈ wsA := wsA_mk 9 (by decide +kernel) rfl
theorem wd_10 : Cond.selects RX0 yX0_takesStove yX0_takesStove ∈ wsA := wsA_mk 10 (by decide +kernel) rfl
theorem wd_11 : Cond.selects RX0 yX0_takesFrost yX0_takesFrost ∈ wsA := wsA_mk 11 (by decide +kernel) rfl
theorem wd_12 : Cond.selects RX0 yX0_takesCoat yX0_takesCoat ∈ wsA := wsA_mk 12 (by decide +kernel) rfl
theorem wd_13 : Cond.selects RX4 yX4_ofCase yX4_ofCase ∈ wsA := wsA_mk 13 (by decide +kernel) rfl
theorem wd_14 : Cond.selects RX0 yX0_hasRing yX0_hasRing ∈ wsA := wsA_mk 14 (by decide +kernel) rfl
theorem wd_15 : Cond.selects RX0 yX0_swearingWithin yX0_swearingWithin ∈ wsA := wsA_mk 15 (by decide +kernel) rfl
theorem wd_16 : Cond.selects RX0 yX0_swornToBy yX0_swornToBy ∈ wsA := wsA_mk 16 (by decide +kernel) rfl
theorem wd_17 : Cond.selects RX4 yX4_refusalOfSwearers yX4_refusalOfSwearers ∈ wsA := wsA_mk 17 (by decide +kernel) rfl
theorem wd_18 : Cond.selects RX4 yX4_stovesThatSpare yX4_stovesThatSpare ∈ wsA := wsA_mk 18 (by decide +kernel) rfl
theorem wd_19 : Cond.selects RX3 yX3_cutToLane yX3_cutToLane ∈ wsA := wsA_mk 19 (by decide +kernel) rfl
theorem wd_20 : Cond.selects RX4 yX4_doubleBody yX4_doubleBody ∈ wsA := wsA_mk 20 (by decide +kernel) rfl
theorem wd_21 : Cond.selects RX4 yX4_leaveInTrace yX4_leaveInTrace ∈ wsA := wsA_mk 21 (by decide +kernel) rfl
theorem wd_22 : Cond.selects RX4 yX4_beardedBody yX4_beardedBody ∈ wsA := wsA_mk 22 (by decide +kernel) rfl
theorem wd_23 : Cond.selects RX4 yX4_plainBody yX4_plainBody ∈ wsA := wsA_mk 23 (by decide +kernel) rfl
theorem wd_24 : Cond.selects RX4 yX4_doublePinch yX4_doublePinch ∈ wsA := wsA_mk 24 (by decide +kernel) rfl
theorem wd_25 : Cond.selects RX4 yX4_lentPinch yX4_lentPinch ∈ wsA := wsA_mk 25 (by decide +kernel) rfl
theorem wd_26 : Cond.selects RX5 yX5_against yX5_against ∈ wsA := wsA_mk 26 (by decide +kernel) rfl
theorem wd_27 : Cond.selects RX5 yX5_fails yX5_fails ∈ wsA := wsA_mk 27 (by decide +kernel) rfl
theorem wd_28 : Cond.selects RX5 yX5_readDay yX5_readDay ∈ wsA := wsA_mk 28 (by decide +kernel) rfl
theorem wd_29 : Cond.selects RX5 yX5_isSign yX5_isSign ∈ wsA := wsA_mk 29 (by decide +kernel) rfl
theorem wd_30 : Cond.selects RX5 yX5_digit yX5_digit ∈ wsA := wsA_mk 30 (by decide +kernel) rfl
theorem wd_31 : Cond.selects RX5 yX5_readSwearerNext yX5_readSwearerNext ∈ wsA := wsA_mk 31 (by decide +kernel) rfl
theorem wd_32 : Cond.selects RX5 yX5_readOathNext yX5_readOathNext ∈ wsA := wsA_mk 32 (by decide +kernel) rfl
theorem wd_33 : Cond.selects RX5 yX5_takeDay yX5_takeDay ∈ wsA := wsA_mk 33 (by decide +kernel) rfl
theorem wd_34 : Cond.selects RX5 yX5_isSwearer yX5_isSwearer ∈ wsA := wsA_mk 34 (by decide +kernel) rfl
theorem wd_35 : Cond.selects RX5 yX5_warmthOf yX5_warmthOf ∈ wsA := wsA_mk 35 (by decide +kernel) rfl
theorem wd_36 : Cond.selects RX5 yX5_coldHours yX5_coldHours ∈ wsA := wsA_mk 36 (by decide +kernel) rfl
theorem wd_37 : Cond.selects RX5 yX5_isCold yX5_isCold ∈ wsA := wsA_mk 37 (by decide +kernel) rfl
theorem wd_38 : Cond.selects RX5 yX5_chillOf yX5_chillOf ∈ wsA := wsA_mk 38 (by decide +kernel) rfl
theorem wd_39 : Cond.selects RX5 yX5_swornBy yX5_swornBy ∈ wsA := wsA_mk 39 (by decide +kernel) rfl
theorem wd_40 : Cond.selects RX5 yX5_whichBind yX5_whichBind ∈ wsA := wsA_mk 40 (by decide +kernel) rfl
theorem wd_41 : Cond.selects RX5 yX5_binds yX5_binds ∈ wsA := wsA_mk 41 (by decide +kernel) rfl
theorem wd_42 : Cond.selects RX5 yX5_isOath yX5_isOath ∈ wsA := wsA_mk 42 (by decide +kernel) rfl
theorem wd_43 : Cond.selects RX5 yX5_isHour yX5_isHour ∈ wsA := wsA_mk 43 (by decide +kernel) rfl
theorem wd_44 : Cond.selects RX5 yX5_whoCold yX5_whoCold ∈ wsA := wsA_mk 44 (by decide +kernel) rfl
theorem wd_45 : Cond.selects RX5 yX5_letOff yX5_letOff ∈ wsA := wsA_mk 45 (by decide +kernel) rfl
theorem wd_46 : Cond.selects RX5 yX5_keep yX5_keep ∈ wsA := wsA_mk 46 (by decide +kernel) rfl
theorem wd_47 : Cond.selects RX5 yX5_goCase yX5_goCase ∈ wsA := wsA_mk 47 (by decide +kernel) rfl
theorem wd_48 : Cond.selects RX5 yX5_does yX5_does ∈ wsA := wsA_mk 48 (by decide +kernel) rfl
theorem wd_49 : Cond.selects RX5 yX5_tellCase yX5_tellCase ∈ wsA := wsA_mk 49 (by decide +kernel) rfl
theorem wd_50 : Cond.selects RX5 yX5_leastLetGo yX5_leastLetGo ∈ wsA := wsA_mk 50 (by decide +kernel) rfl
theorem wd_51 : Cond.selects RX5 yX5_anyRound yX5_anyRound ∈ wsA := wsA_mk 51 (by decide +kernel) rfl
theorem wd_52 : Cond.selects RX5 yX5_boundOf yX5_boundOf ∈ wsA := wsA_mk 52 (by decide +kernel) rfl
theorem wd_53 : Cond.selects RX5 yX5_boundBy yX5_boundBy ∈ wsA := wsA_mk 53 (by decide +kernel) rfl
theorem wd_54 : Cond.selects RX5 yX5_leastOfSize yX5_leastOfSize ∈ wsA := wsA_mk 54 (by decide +kernel) rfl
theorem wd_55 : Cond.selects RX5 yX5_putBack yX5_putBack ∈ wsA := wsA_mk 55 (by decide +kernel) rfl
theorem wd_56 : Cond.selects RX5 yX5_areThere yX5_areThere ∈ wsA := wsA_mk 56 (by decide +kernel) rfl
theorem wd_57 : Cond.selects RX5 yX5_areSo yX5_areSo ∈ wsA := wsA_mk 57 (by decide +kernel) rfl
theorem wd_58 : Cond.selects RX5 yX5_lost yX5_lost ∈ wsA := wsA_mk 58 (by decide +kernel) rfl
theorem wd_59 : Cond.selects RX5 yX5_begins yX5_begins ∈ wsA := wsA_mk 59 (by decide +kernel) rfl
theorem wd_60 : Cond.initialized RL ∈ wsA := wsA_mk 60 (by decide +kernel) rfl
theorem wd_61 : Cond.initialized RX4 ∈ wsA := wsA_mk 61 (by decide +kernel) rfl
theorem wd_62 : Cond.initialized RX3 ∈ wsA := wsA_mk 62 (by decide +kernel) rfl
theorem wd_63 : Cond.initialized RX0 ∈ wsA := wsA_mk 63 (by decide +kernel) rfl
theorem wd_64 : Cond.initialized RX1 ∈ wsA := wsA_mk 64 (by decide +kernel) rfl
theorem wd_65 : Cond.initialized RX2 ∈ wsA := wsA_mk 65 (by decide +kernel) rfl
theorem wd_66 : Cond.initialized RX5 ∈ wsA := wsA_mk 66 (by decide +kernel) rfl
theorem wd_67 : Cond.initialized RJ10 ∈ wsA := wsA_mk 67 (by decide +kernel) rfl
theorem wd_68 : Cond.initialized RJ6 ∈ wsA := wsA_mk 68 (by decide +kernel) rfl
theorem wd_69 : Cond.initialized RJ7 ∈ wsA := wsA_mk 69 (by decide +kernel) rfl
theorem wd_70 : Cond.classLink RL 7 RX4 ∈ wsA := wsA_mk 70 (by decide +kernel) rfl
theorem wd_71 : Cond.instantiable RX4 7 ∈ wsA := wsA_mk 71 (by decide +kernel) rfl
theorem wd_72 : Cond.methodLink RL 9 yX4_init ∈ wsA := wsA_mk 72 (by decide +kernel) rfl
theorem wd_73 : Cond.instanceMethod yX4_init ∈ wsA := wsA_mk 73 (by decide +kernel) rfl
theorem wd_74 : Cond.code yX4_init cX4_init 2 none ∈ wsA := wsA_mk 74 (by decide +kernel) rfl
theorem wd_75 : Cond.methodLink RX4 3 objectInit ∈ wsA := wsA_mk 75 (by decide +kernel) rfl
theorem wd_76 : Cond.instanceMethod objectInit ∈ wsA := wsA_mk 76 (by decide +kernel) rfl
theorem wd_77 : Cond.code objectInit object_method_1_code 1 none ∈ wsA := wsA_mk 77 (by decide +kernel) rfl
theorem wd_78 : Cond.classLink RX4 11 RX3 ∈ wsA := wsA_mk 78 (by decide +kernel) rfl
theorem wd_80 : Cond.instantiable RX3 4 ∈ wsA := wsA_mk 80 (by decide +kernel) rfl
theorem wd_82 : Cond.instanceMethod yX3_init ∈ wsA := wsA_mk 82 (by decide +kernel) rfl
theorem wd_83 : Cond.code yX3_init cX3_init 1 none ∈ wsA := wsA_mk 83 (by decide +kernel) rfl
theorem wd_84 : Cond.methodLink RX3 3 objectInit ∈ wsA := wsA_mk 84 (by decide +kernel) rfl
theorem wd_85 : Cond.fieldLink RX3 15 "ColdOaths$Sheet" "there" "Z" ∈ wsA := wsA_mk 85 (by decide +kernel) rfl
theorem wd_86 : Cond.fieldLink RX4 231 "ColdOaths$Sheet" "there" "Z" ∈ wsA := wsA_mk 86 (by decide +kernel) rfl
theorem wd_87 : Cond.fieldLink RX3 19 "ColdOaths$Sheet" "lane" "I" ∈ wsA := wsA_mk 87 (by decide +kernel) rfl
theorem wd_88 : Cond.fieldLink RX4 241 "ColdOaths$Sheet" "lane" "I" ∈ wsA := wsA_mk 88 (by decide +kernel) rfl
theorem wd_89 : Cond.fieldLink RX3 9 "ColdOaths$Sheet" "cells" "[I" ∈ wsA := wsA_mk 89 (by decide +kernel) rfl
theorem wd_90 : Cond.fieldLink RX4 244 "ColdOaths$Sheet" "cells" "[I" ∈ wsA := wsA_mk 90 (by decide +kernel) rfl
theorem wd_91 : Cond.fieldLink RX3 23 "ColdOaths$Sheet" "length" "I" ∈ wsA := wsA_mk 91 (by decide +kernel) rfl
theorem wd_101 : Cond.arrayClass FieldType.int ∈ wsA := wsA_mk 101 (by decide +kernel) rfl
theorem wd_102 : Cond.classLink RX4 18 RX0 ∈ wsA := wsA_mk 102 (by decide +kernel) rfl
theorem wd_103 : Cond.instantiable RX0 11 ∈ wsA := wsA_mk 103 (by decide +kernel) rfl
theorem wd_105 : Cond.instanceMethod yX0_init ∈ wsA := wsA_mk 105 (by decide +kernel) rfl
theorem wd_106 : Cond.code yX0_init cX0_init 1 none ∈ wsA := wsA_mk 106 (by decide +kernel) rfl
theorem wd_107 : Cond.methodLink RX0 3 objectInit ∈ wsA := wsA_mk 107 (by decide +kernel) rfl
theorem wd_108 : Cond.fieldLink RX0 34 "ColdOaths$Day" "hours" "I" ∈ wsA := wsA_mk 108 (by decide +kernel) rfl
theorem wd_109 : Cond.fieldLink RX1 52 "ColdOaths$Day" "hours" "I" ∈ wsA := wsA_mk 109 (by decide +kernel) rfl
theorem wd_110 : Cond.fieldLink RX4 204 "ColdOaths$Day" "hours" "I" ∈ wsA := wsA_mk 110 (by decide +kernel) rfl
theorem wd_111 : Cond.fieldLink RX0 37 "ColdOaths$Day" "swearers" "I" ∈ wsA := wsA_mk 111 (by decide +kernel) rfl
theorem wd_112 : Cond.fieldLink RX4 82 "ColdOaths$Day" "swearers" "I" ∈ wsA := wsA_mk 112 (by decide +kernel) rfl
theorem wd_113 : Cond.fieldLink RX1 63 "ColdOaths$Day" "swearers" "I" ∈ wsA := wsA_mk 113 (by decide +kernel) rfl
theorem wd_114 : Cond.fieldLink RX0 40 "ColdOaths$Day" "oaths" "I" ∈ wsA := wsA_mk 114 (by decide +kernel) rfl
theorem wd_115 : Cond.fieldLink RX4 145 "ColdOaths$Day" "oaths" "I" ∈ wsA := wsA_mk 115 (by decide +kernel) rfl
theorem wd_116 : Cond.fieldLink RX0 9 "ColdOaths$Day" "stoveHour" "I" ∈ wsA := wsA_mk 116 (by decide +kernel) rfl
theorem wd_117 : Cond.fieldLink RX4 133 "ColdOaths$Day" "stoveHour" "I" ∈ wsA := wsA_mk 117 (by decide +kernel) rfl
theorem wd_118 : Cond.fieldLink RX0 47 "ColdOaths$Day" "stoveHeat" "I" ∈ wsA := wsA_mk 118 (by decide +kernel) rfl
theorem wd_119 : Cond.fieldLink RX4 136 "ColdOaths$Day" "stoveHeat" "I" ∈ wsA := wsA_mk 119 (by decide +kernel) rfl
theorem wd_120 : Cond.fieldLink RX0 15 "ColdOaths$Day" "frostOf" "[I" ∈ wsA := wsA_mk 120 (by decide +kernel) rfl
theorem wd_121 : Cond.fieldLink RX4 130 "ColdOaths$Day" "frostOf" "[I" ∈ wsA := wsA_mk 121 (by decide +kernel) rfl
theorem wd_122 : Cond.fieldLink RX0 19 "ColdOaths$Day" "kindOf" "[I" ∈ wsA := wsA_mk 122 (by decide +kernel) rfl
theorem wd_123 : Cond.fieldLink RX4 88 "ColdOaths$Day" "kindOf" "[I" ∈ wsA := wsA_mk 123 (by decide +kernel) rfl
theorem wd_124 : Cond.fieldLink RX0 22 "ColdOaths$Day" "coatOf" "[I" ∈ wsA := wsA_mk 124 (by decide +kernel) rfl
theorem wd_125 : Cond.fieldLink RX4 92 "ColdOaths$Day" "coatOf" "[I" ∈ wsA := wsA_mk 125 (by decide +kernel) rfl
theorem wd_126 : Cond.fieldLink RX0 25 "ColdOaths$Day" "swornBy" "[I" ∈ wsA := wsA_mk 126 (by decide +kernel) rfl
theorem wd_127 : Cond.fieldLink RX4 111 "ColdOaths$Day" "swornBy" "[I" ∈ wsA := wsA_mk 127 (by decide +kernel) rfl
theorem wd_128 : Cond.fieldLink RX0 28 "ColdOaths$Day" "swornTo" "[I" ∈ wsA := wsA_mk 128 (by decide +kernel) rfl
theorem wd_129 : Cond.fieldLink RX4 114 "ColdOaths$Day" "swornTo" "[I" ∈ wsA := wsA_mk 129 (by decide +kernel) rfl
theorem wd_130 : Cond.fieldLink RX0 31 "ColdOaths$Day" "swornAt" "[I" ∈ wsA := wsA_mk 130 (by decide +kernel) rfl
theorem wd_131 : Cond.fieldLink RX4 117 "ColdOaths$Day" "swornAt" "[I" ∈ wsA := wsA_mk 131 (by decide +kernel) rfl
theorem wd_155 : Cond.classLink RX4 28 RX1 ∈ wsA := wsA_mk 155 (by decide +kernel) rfl
theorem wd_156 : Cond.instantiable RX1 4 ∈ wsA := wsA_mk 156 (by decide +kernel) rfl
theorem wd_158 : Cond.instanceMethod yX1_init ∈ wsA := wsA_mk 158 (by decide +kernel) rfl
theorem wd_159 : Cond.code yX1_init cX1_init 1 none ∈ wsA := wsA_mk 159 (by decide +kernel) rfl
theorem wd_160 : Cond.methodLink RX1 3 objectInit ∈ wsA := wsA_mk 160 (by decide +kernel) rfl
theorem wd_161 : Cond.fieldLink RX1 22 "ColdOaths$Reader" "place" "I" ∈ wsA := wsA_mk 161 (by decide +kernel) rfl
theorem wd_162 : Cond.fieldLink RX4 72 "ColdOaths$Reader" "place" "I" ∈ wsA := wsA_mk 162 (by decide +kernel) rfl
theorem wd_163 : Cond.fieldLink RX1 9 "ColdOaths$Reader" "row" "LColdOaths$Sheet;" ∈ wsA := wsA_mk 163 (by decide +kernel) rfl
theorem wd_164 : Cond.fieldLink RX1 15 "ColdOaths$Reader" "start" "I" ∈ wsA := wsA_mk 164 (by decide +kernel) rfl
theorem wd_165 : Cond.fieldLink RX1 19 "ColdOaths$Reader" "count" "I" ∈ wsA := wsA_mk 165 (by decide +kernel) rfl
theorem wd_175 : Cond.classLink RX4 35 RX2 ∈ wsA := wsA_mk 175 (by decide +kernel) rfl
theorem wd_176 : Cond.instantiable RX2 4 ∈ wsA := wsA_mk 176 (by decide +kernel) rfl
theorem wd_178 : Cond.instanceMethod yX2_init ∈ wsA := wsA_mk 178 (by decide +kernel) rfl
theorem wd_179 : Cond.code yX2_init cX2_init 1 none ∈ wsA := wsA_mk 179 (by decide +kernel) rfl
theorem wd_180 : Cond.methodLink RX2 3 objectInit ∈ wsA := wsA_mk 180 (by decide +kernel) rfl
theorem wd_181 : Cond.fieldLink RX2 22 "ColdOaths$Readings" "count" "I" ∈ wsA := wsA_mk 181 (by decide +kernel) rfl
theorem wd_182 : Cond.fieldLink RX4 79 "ColdOaths$Readings" "count" "I" ∈ wsA := wsA_mk 182 (by decide +kernel) rfl
theorem wd_183 : Cond.fieldLink RX2 9 "ColdOaths$Readings" "who" "[I" ∈ wsA := wsA_mk 183 (by decide +kernel) rfl
theorem wd_184 : Cond.fieldLink RX2 15 "ColdOaths$Readings" "when" "[I" ∈ wsA := wsA_mk 184 (by decide +kernel) rfl
theorem wd_185 : Cond.fieldLink RX2 18 "ColdOaths$Readings" "cold" "[Z" ∈ wsA := wsA_mk 185 (by decide +kernel) rfl
theorem wd_195 : Cond.arrayClass FieldType.boolean ∈ wsA := wsA_mk 195 (by decide +kernel) rfl
theorem wd_196 : Cond.fieldLink RX4 13 "ColdOaths" "sheets" "[LColdOaths$Sheet;" ∈ wsA := wsA_mk 196 (by decide +kernel) rfl
theorem wd_197 : Cond.fieldLink RX4 21 "ColdOaths" "now" "LColdOaths$Day;" ∈ wsA := wsA_mk 197 (by decide +kernel) rfl
theorem wd_198 : Cond.fieldLink RX4 25 "ColdOaths" "draft" "LColdOaths$Day;" ∈ wsA := wsA_mk 198 (by decide +kernel) rfl
theorem wd_199 : Cond.fieldLink RX4 31 "ColdOaths" "reader" "LColdOaths$Reader;" ∈ wsA := wsA_mk 199 (by decide +kernel) rfl
theorem wd_200 : Cond.fieldLink RX4 38 "ColdOaths" "readings" "LColdOaths$Readings;" ∈ wsA := wsA_mk 200 (by decide +kernel) rfl
theorem wd_201 : Cond.fieldLink RX4 268 "ColdOaths" "trail" "I" ∈ wsA := wsA_mk 201 (by decide +kernel) rfl
theorem wd_202 : Cond.fieldLink RX4 42 "ColdOaths" "lastFault" "I" ∈ wsA := wsA_mk 202 (by decide +kernel) rfl
theorem wd_218 : Cond.methodLink RL 13 yX4_day ∈ wsA := wsA_mk 218 (by decide +kernel) rfl
theorem wd_219 : Cond.instanceMethod yX4_day ∈ wsA := wsA_mk 219 (by decide +kernel) rfl
theorem wd_220 : Cond.selects RX4 yX4_day yX4_day ∈ wsA := wsA_mk 220 (by decide +kernel) rfl
theorem wd_221 : Cond.code yX4_day cX4_day 7 (some .int) ∈ wsA := wsA_mk 221 (by decide +kernel) rfl
theorem wd_222 : Cond.methodLink RX4 46 yX4_isSheet ∈ wsA := wsA_mk 222 (by decide +kernel) rfl
theorem wd_223 : Cond.static yX4_isSheet ∈ wsA := wsA_mk 223 (by decide +kernel) rfl
theorem wd_224 : Cond.code yX4_isSheet cX4_isSheet 1 (some .boolean) ∈ wsA := wsA_mk 224 (by decide +kernel) rfl
theorem wd_225 : Cond.methodLink RX4 50 yX4_isLane ∈ wsA := wsA_mk 225 (by decide +kernel) rfl
theorem wd_226 : Cond.static yX4_isLane ∈ wsA := wsA_mk 226 (by decide +kernel) rfl
theorem wd_227 : Cond.code yX4_isLane cX4_isLane 1 (some .boolean) ∈ wsA := wsA_mk 227 (by decide +kernel) rfl
theorem wd_228 : Cond.methodLink RX4 53 yX3_faultAs ∈ wsA := wsA_mk 228 (by decide +kernel) rfl
theorem wd_229 : Cond.instanceMethod yX3_faultAs ∈ wsA := wsA_mk 229 (by decide +kernel) rfl
theorem wd_230 : Cond.selects RX3 yX3_faultAs yX3_faultAs ∈ wsA := wsA_mk 230 (by decide +kernel) rfl
theorem wd_231 : Cond.code yX3_faultAs cX3_faultAs 2 (some .int) ∈ wsA := wsA_mk 231 (by decide +kernel) rfl
theorem wd_232 : Cond.methodLink RX4 57 yX3_hasCells ∈ wsA := wsA_mk 232 (by decide +kernel) rfl
theorem wd_233 : Cond.instanceMethod yX3_hasCells ∈ wsA := wsA_mk 233 (by decide +kernel) rfl
theorem wd_234 : Cond.selects RX3 yX3_hasCells yX3_hasCells ∈ wsA := wsA_mk 234 (by decide +kernel) rfl
theorem wd_235 : Cond.code yX3_hasCells cX3_hasCells 3 (some .boolean) ∈ wsA := wsA_mk 235 (by decide +kernel) rfl
theorem wd_236 : Cond.methodLink RX4 61 yX4_failed ∈ wsA := wsA_mk 236 (by decide +kernel) rfl
theorem wd_238 : Cond.instanceMethod yX4_failed ∈ wsA := wsA_mk 238 (by decide +kernel) rfl
theorem wd_239 : Cond.code yX4_failed cX4_failed 2 (some .int) ∈ wsA := wsA_mk 239 (by decide +kernel) rfl
theorem wd_240 : Cond.methodLink RX4 64 yX1_open ∈ wsA := wsA_mk 240 (by decide +kernel) rfl
theorem wd_241 : Cond.instanceMethod yX1_open ∈ wsA := wsA_mk 241 (by decide +kernel) rfl
theorem wd_242 : Cond.selects RX1 yX1_open yX1_open ∈ wsA := wsA_mk 242 (by decide +kernel) rfl
theorem wd_243 : Cond.code yX1_open cX1_open 4 none ∈ wsA := wsA_mk 243 (by decide +kernel) rfl
theorem wd_244 : Cond.methodLink RX4 68 yX1_reads ∈ wsA := wsA_mk 244 (by decide +kernel) rfl
theorem wd_245 : Cond.instanceMethod yX1_reads ∈ wsA := wsA_mk 245 (by decide +kernel) rfl
theorem wd_246 : Cond.selects RX1 yX1_reads yX1_reads ∈ wsA := wsA_mk 246 (by decide +kernel) rfl
theorem wd_247 : Cond.code yX1_reads cX1_reads 2 (some .boolean) ∈ wsA := wsA_mk 247 (by decide +kernel) rfl
theorem wd_248 : Cond.methodLink RX1 25 yX0_clear ∈ wsA := wsA_mk 248 (by decide +kernel) rfl
theorem wd_249 : Cond.instanceMethod yX0_clear ∈ wsA := wsA_mk 249 (by decide +kernel) rfl
theorem wd_250 : Cond.selects RX0 yX0_clear yX0_clear ∈ wsA := wsA_mk 250 (by decide +kernel) rfl
theorem wd_251 : Cond.code yX0_clear cX0_clear 1 none ∈ wsA := wsA_mk 251 (by decide +kernel) rfl
theorem wd_252 : Cond.methodLink RX0 43 yX0_putStove ∈ wsA := wsA_mk 252 (by decide +kernel) rfl
theorem wd_253 : Cond.instanceMethod yX0_putStove ∈ wsA := wsA_mk 253 (by decide +kernel) rfl
theorem wd_254 : Cond.selects RX0 yX0_putStove yX0_putStove ∈ wsA := wsA_mk 254 (by decide +kernel) rfl
theorem wd_255 : Cond.code yX0_putStove cX0_putStove 3 none ∈ wsA := wsA_mk 255 (by decide +kernel) rfl
theorem wd_256 : Cond.methodLink RX1 30 yX1_passes ∈ wsA := wsA_mk 256 (by decide +kernel) rfl
theorem wd_258 : Cond.instanceMethod yX1_passes ∈ wsA := wsA_mk 258 (by decide +kernel) rfl
theorem wd_259 : Cond.code yX1_passes cX1_passes 2 (some .boolean) ∈ wsA := wsA_mk 259 (by decide +kernel) rfl
theorem wd_260 : Cond.methodLink RX1 70 yX1_isAtEnd ∈ wsA := wsA_mk 260 (by decide +kernel) rfl
theorem wd_262 : Cond.instanceMethod yX1_isAtEnd ∈ wsA := wsA_mk 262 (by decide +kernel) rfl
theorem wd_263 : Cond.code yX1_isAtEnd cX1_isAtEnd 1 (some .boolean) ∈ wsA := wsA_mk 263 (by decide +kernel) rfl
theorem wd_264 : Cond.methodLink RX1 74 yX3_at ∈ wsA := wsA_mk 264 (by decide +kernel) rfl
theorem wd_265 : Cond.instanceMethod yX3_at ∈ wsA := wsA_mk 265 (by decide +kernel) rfl
theorem wd_266 : Cond.selects RX3 yX3_at yX3_at ∈ wsA := wsA_mk 266 (by decide +kernel) rfl
theorem wd_267 : Cond.code yX3_at cX3_at 2 (some .int) ∈ wsA := wsA_mk 267 (by decide +kernel) rfl
theorem wd_268 : Cond.methodLink RX3 32 yX3_hasCell ∈ wsA := wsA_mk 268 (by decide +kernel) rfl
theorem wd_269 : Cond.instanceMethod yX3_hasCell ∈ wsA := wsA_mk 269 (by decide +kernel) rfl
theorem wd_270 : Cond.selects RX3 yX3_hasCell yX3_hasCell ∈ wsA := wsA_mk 270 (by decide +kernel) rfl
theorem wd_271 : Cond.code yX3_hasCell cX3_hasCell 2 (some .boolean) ∈ wsA := wsA_mk 271 (by decide +kernel) rfl
theorem wd_272 : Cond.methodLink RX1 34 yX1_readsHours ∈ wsA := wsA_mk 272 (by decide +kernel) rfl
theorem wd_274 : Cond.instanceMethod yX1_readsHours ∈ wsA := wsA_mk 274 (by decide +kernel) rfl
theorem wd_275 : Cond.code yX1_readsHours cX1_readsHours 4 (some .boolean) ∈ wsA := wsA_mk 275 (by decide +kernel) rfl
theorem wd_276 : Cond.methodLink RX1 44 yX1_digitBelow ∈ wsA := wsA_mk 276 (by decide +kernel) rfl
theorem wd_278 : Cond.instanceMethod yX1_digitBelow ∈ wsA := wsA_mk 278 (by decide +kernel) rfl
theorem wd_279 : Cond.code yX1_digitBelow cX1_digitBelow 4 (some .int) ∈ wsA := wsA_mk 279 (by decide +kernel) rfl
theorem wd_280 : Cond.methodLink RX1 48 yX0_addHour ∈ wsA := wsA_mk 280 (by decide +kernel) rfl
theorem wd_281 : Cond.instanceMethod yX0_addHour ∈ wsA := wsA_mk 281 (by decide +kernel) rfl
theorem wd_282 : Cond.selects RX0 yX0_addHour yX0_addHour ∈ wsA := wsA_mk 282 (by decide +kernel) rfl
theorem wd_283 : Cond.code yX0_addHour cX0_addHour 2 none ∈ wsA := wsA_mk 283 (by decide +kernel) rfl
theorem wd_284 : Cond.methodLink RX1 38 yX1_readsSwearers ∈ wsA := wsA_mk 284 (by decide +kernel) rfl
theorem wd_286 : Cond.instanceMethod yX1_readsSwearers ∈ wsA := wsA_mk 286 (by decide +kernel) rfl
theorem wd_287 : Cond.code yX1_readsSwearers cX1_readsSwearers 5 (some .boolean) ∈ wsA := wsA_mk 287 (by decide +kernel) rfl
theorem wd_288 : Cond.methodLink RX1 55 yX1_kindLetter ∈ wsA := wsA_mk 288 (by decide +kernel) rfl
theorem wd_290 : Cond.instanceMethod yX1_kindLetter ∈ wsA := wsA_mk 290 (by decide +kernel) rfl
theorem wd_291 : Cond.code yX1_kindLetter cX1_kindLetter 1 (some .int) ∈ wsA := wsA_mk 291 (by decide +kernel) rfl
theorem wd_292 : Cond.methodLink RX1 59 yX0_addSwearer ∈ wsA := wsA_mk 292 (by decide +kernel) rfl
theorem wd_293 : Cond.instanceMethod yX0_addSwearer ∈ wsA := wsA_mk 293 (by decide +kernel) rfl
theorem wd_294 : Cond.selects RX0 yX0_addSwearer yX0_addSwearer ∈ wsA := wsA_mk 294 (by decide +kernel) rfl
theorem wd_295 : Cond.code yX0_addSwearer cX0_addSwearer 3 none ∈ wsA := wsA_mk 295 (by decide +kernel) rfl
theorem wd_296 : Cond.methodLink RX1 41 yX1_readsOaths ∈ wsA := wsA_mk 296 (by decide +kernel) rfl
theorem wd_298 : Cond.instanceMethod yX1_readsOaths ∈ wsA := wsA_mk 298 (by decide +kernel) rfl
theorem wd_299 : Cond.code yX1_readsOaths cX1_readsOaths 6 (some .boolean) ∈ wsA := wsA_mk 299 (by decide +kernel) rfl
theorem wd_300 : Cond.methodLink RX1 66 yX0_addOath ∈ wsA := wsA_mk 300 (by decide +kernel) rfl
theorem wd_301 : Cond.instanceMethod yX0_addOath ∈ wsA := wsA_mk 301 (by decide +kernel) rfl
theorem wd_302 : Cond.selects RX0 yX0_addOath yX0_addOath ∈ wsA := wsA_mk 302 (by decide +kernel) rfl
theorem wd_303 : Cond.code yX0_addOath cX0_addOath 4 none ∈ wsA := wsA_mk 303 (by decide +kernel) rfl
theorem wd_304 : Cond.methodLink RX4 75 yX0_become ∈ wsA := wsA_mk 304 (by decide +kernel) rfl
theorem wd_305 : Cond.instanceMethod yX0_become ∈ wsA := wsA_mk 305 (by decide +kernel) rfl
theorem wd_306 : Cond.selects RX0 yX0_become yX0_become ∈ wsA := wsA_mk 306 (by decide +kernel) rfl
theorem wd_307 : Cond.code yX0_become cX0_become 2 none ∈ wsA := wsA_mk 307 (by decide +kernel) rfl
theorem wd_308 : Cond.methodLink RX0 50 arraycopyName ∈ wsA := wsA_mk 308 (by decide +kernel) rfl
theorem wd_309 : Cond.static arraycopyName ∈ wsA := wsA_mk 309 (by decide +kernel) rfl
theorem wd_310 : Cond.native arraycopyName ∈ wsA := wsA_mk 310 (by decide +kernel) rfl
theorem wd_311 : Cond.methodLink RL 18 yX4_ofSwearer ∈ wsA := wsA_mk 311 (by decide +kernel) rfl
theorem wd_312 : Cond.instanceMethod yX4_ofSwearer ∈ wsA := wsA_mk 312 (by decide +kernel) rfl
theorem wd_313 : Cond.selects RX4 yX4_ofSwearer yX4_ofSwearer ∈ wsA := wsA_mk 313 (by decide +kernel) rfl
theorem wd_314 : Cond.code yX4_ofSwearer cX4_ofSwearer 3 (some .int) ∈ wsA := wsA_mk 314 (by decide +kernel) rfl
theorem wd_315 : Cond.methodLink RX4 85 yX0_hasSwearer ∈ wsA := wsA_mk 315 (by decide +kernel) rfl
theorem wd_316 : Cond.instanceMethod yX0_hasSwearer ∈ wsA := wsA_mk 316 (by decide +kernel) rfl
theorem wd_317 : Cond.selects RX0 yX0_hasSwearer yX0_hasSwearer ∈ wsA := wsA_mk 317 (by decide +kernel) rfl
theorem wd_318 : Cond.code yX0_hasSwearer cX0_hasSwearer 2 (some .boolean) ∈ wsA := wsA_mk 318 (by decide +kernel) rfl
theorem wd_319 : Cond.methodLink RX4 95 yX0_warmth ∈ wsA := wsA_mk 319 (by decide +kernel) rfl
theorem wd_320 : Cond.instanceMethod yX0_warmth ∈ wsA := wsA_mk 320 (by decide +kernel) rfl
theorem wd_321 : Cond.selects RX0 yX0_warmth yX0_warmth ∈ wsA := wsA_mk 321 (by decide +kernel) rfl
theorem wd_322 : Cond.code yX0_warmth cX0_warmth 2 (some .int) ∈ wsA := wsA_mk 322 (by decide +kernel) rfl
theorem wd_323 : Cond.methodLink RX4 98 yX0_coldHours ∈ wsA := wsA_mk 323 (by decide +kernel) rfl
theorem wd_324 : Cond.instanceMethod yX0_coldHours ∈ wsA := wsA_mk 324 (by decide +kernel) rfl
theorem wd_325 : Cond.selects RX0 yX0_coldHours yX0_coldHours ∈ wsA := wsA_mk 325 (by decide +kernel) rfl
theorem wd_326 : Cond.code yX0_coldHours cX0_coldHours 4 (some .int) ∈ wsA := wsA_mk 326 (by decide +kernel) rfl
theorem wd_327 : Cond.methodLink RX0 88 yX0_isCold ∈ wsA := wsA_mk 327 (by decide +kernel) rfl
theorem wd_328 : Cond.instanceMethod yX0_isCold ∈ wsA := wsA_mk 328 (by decide +kernel) rfl
theorem wd_329 : Cond.selects RX0 yX0_isCold yX0_isCold ∈ wsA := wsA_mk 329 (by decide +kernel) rfl
theorem wd_330 : Cond.code yX0_isCold cX0_isCold 3 (some .boolean) ∈ wsA := wsA_mk 330 (by decide +kernel) rfl
theorem wd_331 : Cond.methodLink RX0 84 yX0_chillOf ∈ wsA := wsA_mk 331 (by decide +kernel) rfl
theorem wd_332 : Cond.instanceMethod yX0_chillOf ∈ wsA := wsA_mk 332 (by decide +kernel) rfl
theorem wd_333 : Cond.selects RX0 yX0_chillOf yX0_chillOf ∈ wsA := wsA_mk 333 (by decide +kernel) rfl
theorem wd_334 : Cond.code yX0_chillOf cX0_chillOf 4 (some .int) ∈ wsA := wsA_mk 334 (by decide +kernel) rfl
theorem wd_335 : Cond.methodLink RX0 80 yX0_warmth ∈ wsA := wsA_mk 335 (by decide +kernel) rfl
theorem wd_336 : Cond.methodLink RX4 101 yX0_oathsBy ∈ wsA := wsA_mk 336 (by decide +kernel) rfl
theorem wd_337 : Cond.instanceMethod yX0_oathsBy ∈ wsA := wsA_mk 337 (by decide +kernel) rfl
theorem wd_338 : Cond.selects RX0 yX0_oathsBy yX0_oathsBy ∈ wsA := wsA_mk 338 (by decide +kernel) rfl
theorem wd_339 : Cond.code yX0_oathsBy cX0_oathsBy 4 (some .int) ∈ wsA := wsA_mk 339 (by decide +kernel) rfl
theorem wd_340 : Cond.methodLink RX4 104 yX0_bindingOaths ∈ wsA := wsA_mk 340 (by decide +kernel) rfl
theorem wd_341 : Cond.instanceMethod yX0_bindingOaths ∈ wsA := wsA_mk 341 (by decide +kernel) rfl
theorem wd_342 : Cond.selects RX0 yX0_bindingOaths yX0_bindingOaths ∈ wsA := wsA_mk 342 (by decide +kernel) rfl
theorem wd_343 : Cond.code yX0_bindingOaths cX0_bindingOaths 3 (some .int) ∈ wsA := wsA_mk 343 (by decide +kernel) rfl
theorem wd_344 : Cond.methodLink RX0 99 yX0_binds ∈ wsA := wsA_mk 344 (by decide +kernel) rfl
theorem wd_345 : Cond.instanceMethod yX0_binds ∈ wsA := wsA_mk 345 (by decide +kernel) rfl
theorem wd_346 : Cond.selects RX0 yX0_binds yX0_binds ∈ wsA := wsA_mk 346 (by decide +kernel) rfl
theorem wd_347 : Cond.code yX0_binds cX0_binds 2 (some .boolean) ∈ wsA := wsA_mk 347 (by decide +kernel) rfl
theorem wd_348 : Cond.methodLink RL 23 yX4_ofOath ∈ wsA := wsA_mk 348 (by decide +kernel) rfl
theorem wd_349 : Cond.instanceMethod yX4_ofOath ∈ wsA := wsA_mk 349 (by decide +kernel) rfl
theorem wd_350 : Cond.selects RX4 yX4_ofOath yX4_ofOath ∈ wsA := wsA_mk 350 (by decide +kernel) rfl
theorem wd_351 : Cond.code yX4_ofOath cX4_ofOath 3 (some .int) ∈ wsA := wsA_mk 351 (by decide +kernel) rfl
theorem wd_352 : Cond.methodLink RX4 108 yX0_hasOath ∈ wsA := wsA_mk 352 (by decide +kernel) rfl
theorem wd_353 : Cond.instanceMethod yX0_hasOath ∈ wsA := wsA_mk 353 (by decide +kernel) rfl
theorem wd_354 : Cond.selects RX0 yX0_hasOath yX0_hasOath ∈ wsA := wsA_mk 354 (by decide +kernel) rfl
theorem wd_355 : Cond.code yX0_hasOath cX0_hasOath 2 (some .boolean) ∈ wsA := wsA_mk 355 (by decide +kernel) rfl
theorem wd_356 : Cond.methodLink RX4 120 yX0_chillOf ∈ wsA := wsA_mk 356 (by decide +kernel) rfl
theorem wd_357 : Cond.methodLink RX4 124 yX0_binds ∈ wsA := wsA_mk 357 (by decide +kernel) rfl
theorem wd_358 : Cond.methodLink RL 27 yX4_ofHour ∈ wsA := wsA_mk 358 (by decide +kernel) rfl
theorem wd_359 : Cond.instanceMethod yX4_ofHour ∈ wsA := wsA_mk 359 (by decide +kernel) rfl
theorem wd_360 : Cond.selects RX4 yX4_ofHour yX4_ofHour ∈ wsA := wsA_mk 360 (by decide +kernel) rfl
theorem wd_361 : Cond.code yX4_ofHour cX4_ofHour 3 (some .int) ∈ wsA := wsA_mk 361 (by decide +kernel) rfl
theorem wd_362 : Cond.methodLink RX4 127 yX0_hasHour ∈ wsA := wsA_mk 362 (by decide +kernel) rfl
theorem wd_363 : Cond.instanceMethod yX0_hasHour ∈ wsA := wsA_mk 363 (by decide +kernel) rfl
theorem wd_364 : Cond.selects RX0 yX0_hasHour yX0_hasHour ∈ wsA := wsA_mk 364 (by decide +kernel) rfl
theorem wd_365 : Cond.code yX0_hasHour cX0_hasHour 2 (some .boolean) ∈ wsA := wsA_mk 365 (by decide +kernel) rfl
theorem wd_366 : Cond.methodLink RX4 139 yX0_coldSwearers ∈ wsA := wsA_mk 366 (by decide +kernel) rfl
theorem wd_367 : Cond.instanceMethod yX0_coldSwearers ∈ wsA := wsA_mk 367 (by decide +kernel) rfl
theorem wd_368 : Cond.selects RX0 yX0_coldSwearers yX0_coldSwearers ∈ wsA := wsA_mk 368 (by decide +kernel) rfl
theorem wd_369 : Cond.code yX0_coldSwearers cX0_coldSwearers 4 (some .int) ∈ wsA := wsA_mk 369 (by decide +kernel) rfl
theorem wd_370 : Cond.methodLink RL 31 yX4_chill ∈ wsA := wsA_mk 370 (by decide +kernel) rfl
theorem wd_371 : Cond.instanceMethod yX4_chill ∈ wsA := wsA_mk 371 (by decide +kernel) rfl
theorem wd_372 : Cond.selects RX4 yX4_chill yX4_chill ∈ wsA := wsA_mk 372 (by decide +kernel) rfl
theorem wd_373 : Cond.code yX4_chill cX4_chill 3 (some .int) ∈ wsA := wsA_mk 373 (by decide +kernel) rfl
theorem wd_374 : Cond.methodLink RL 35 yX4_coat ∈ wsA := wsA_mk 374 (by decide +kernel) rfl
theorem wd_375 : Cond.instanceMethod yX4_coat ∈ wsA := wsA_mk 375 (by decide +kernel) rfl
theorem wd_376 : Cond.selects RX4 yX4_coat yX4_coat ∈ wsA := wsA_mk 376 (by decide +kernel) rfl
theorem wd_377 : Cond.code yX4_coat cX4_coat 4 (some .int) ∈ wsA := wsA_mk 377 (by decide +kernel) rfl
theorem wd_378 : Cond.methodLink RX4 142 yX4_isDigit ∈ wsA := wsA_mk 378 (by decide +kernel) rfl
theorem wd_379 : Cond.static yX4_isDigit ∈ wsA := wsA_mk 379 (by decide +kernel) rfl
theorem wd_380 : Cond.code yX4_isDigit cX4_isDigit 1 (some .boolean) ∈ wsA := wsA_mk 380 (by decide +kernel) rfl
theorem wd_381 : Cond.methodLink RL 39 yX4_frost ∈ wsA := wsA_mk 381 (by decide +kernel) rfl
theorem wd_382 : Cond.instanceMethod yX4_frost ∈ wsA := wsA_mk 382 (by decide +kernel) rfl
theorem wd_383 : Cond.selects RX4 yX4_frost yX4_frost ∈ wsA := wsA_mk 383 (by decide +kernel) rfl
theorem wd_384 : Cond.code yX4_frost cX4_frost 4 (some .int) ∈ wsA := wsA_mk 384 (by decide +kernel) rfl
theorem wd_385 : Cond.methodLink RL 43 yX4_swear ∈ wsA := wsA_mk 385 (by decide +kernel) rfl
theorem wd_386 : Cond.instanceMethod yX4_swear ∈ wsA := wsA_mk 386 (by decide +kernel) rfl
theorem wd_387 : Cond.selects RX4 yX4_swear yX4_swear ∈ wsA := wsA_mk 387 (by decide +kernel) rfl
theorem wd_388 : Cond.code yX4_swear cX4_swear 4 (some .int) ∈ wsA := wsA_mk 388 (by decide +kernel) rfl
theorem wd_389 : Cond.methodLink RX4 148 yX0_addOath ∈ wsA := wsA_mk 389 (by decide +kernel) rfl
theorem wd_390 : Cond.methodLink RL 48 yX4_release ∈ wsA := wsA_mk 390 (by decide +kernel) rfl
theorem wd_391 : Cond.instanceMethod yX4_release ∈ wsA := wsA_mk 391 (by decide +kernel) rfl
theorem wd_392 : Cond.selects RX4 yX4_release yX4_release ∈ wsA := wsA_mk 392 (by decide +kernel) rfl
theorem wd_393 : Cond.code yX4_release cX4_release 2 (some .int) ∈ wsA := wsA_mk 393 (by decide +kernel) rfl
theorem wd_394 : Cond.methodLink RX4 152 yX0_dropOath ∈ wsA := wsA_mk 394 (by decide +kernel) rfl
theorem wd_395 : Cond.instanceMethod yX0_dropOath ∈ wsA := wsA_mk 395 (by decide +kernel) rfl
theorem wd_396 : Cond.selects RX0 yX0_dropOath yX0_dropOath ∈ wsA := wsA_mk 396 (by decide +kernel) rfl
theorem wd_397 : Cond.code yX0_dropOath cX0_dropOath 3 none ∈ wsA := wsA_mk 397 (by decide +kernel) rfl
theorem wd_398 : Cond.methodLink RX0 56 yX0_hasOath ∈ wsA := wsA_mk 398 (by decide +kernel) rfl
theorem wd_399 : Cond.methodLink RL 53 yX4_stove ∈ wsA := wsA_mk 399 (by decide +kernel) rfl
theorem wd_400 : Cond.instanceMethod yX4_stove ∈ wsA := wsA_mk 400 (by decide +kernel) rfl
theorem wd_401 : Cond.selects RX4 yX4_stove yX4_stove ∈ wsA := wsA_mk 401 (by decide +kernel) rfl
theorem wd_402 : Cond.code yX4_stove cX4_stove 3 (some .int) ∈ wsA := wsA_mk 402 (by decide +kernel) rfl
theorem wd_403 : Cond.methodLink RX4 156 yX4_hasDay ∈ wsA := wsA_mk 403 (by decide +kernel) rfl
theorem wd_405 : Cond.instanceMethod yX4_hasDay ∈ wsA := wsA_mk 405 (by decide +kernel) rfl
theorem wd_406 : Cond.code yX4_hasDay cX4_hasDay 1 (some .boolean) ∈ wsA := wsA_mk 406 (by decide +kernel) rfl
theorem wd_407 : Cond.methodLink RX4 160 yX0_putStove ∈ wsA := wsA_mk 407 (by decide +kernel) rfl
theorem wd_408 : Cond.methodLink RX4 164 yJ6_bitCount_0f7a4 ∈ wsA := wsA_mk 408 (by decide +kernel) rfl
theorem wd_409 : Cond.static yJ6_bitCount_0f7a4 ∈ wsA := wsA_mk 409 (by decide +kernel) rfl
theorem wd_410 : Cond.code yJ6_bitCount_0f7a4 cJ6_bitCount_0f7a4 1 (some .int) ∈ wsA := wsA_mk 410 (by decide +kernel) rfl
theorem wd_411 : Cond.constant RJ6 265 (1431655765 : Int32) ∈ wsA := wsA_mk 411 (by decide +kernel) rfl
theorem wd_412 : Cond.constant RJ6 266 (858993459 : Int32) ∈ wsA := wsA_mk 412 (by decide +kernel) rfl
theorem wd_413 : Cond.constant RJ6 267 (252645135 : Int32) ∈ wsA := wsA_mk 413 (by decide +kernel) rfl
theorem wd_414 : Cond.methodLink RL 57 yX4_trial ∈ wsA := wsA_mk 414 (by decide +kernel) rfl
theorem wd_415 : Cond.instanceMethod yX4_trial ∈ wsA := wsA_mk 415 (by decide +kernel) rfl
theorem wd_416 : Cond.selects RX4 yX4_trial yX4_trial ∈ wsA := wsA_mk 416 (by decide +kernel) rfl
theorem wd_417 : Cond.code yX4_trial cX4_trial 9 (some .int) ∈ wsA := wsA_mk 417 (by decide +kernel) rfl
theorem wd_418 : Cond.methodLink RX4 169 yX4_isOfTrial ∈ wsA := wsA_mk 418 (by decide +kernel) rfl
theorem wd_419 : Cond.static yX4_isOfTrial ∈ wsA := wsA_mk 419 (by decide +kernel) rfl
theorem wd_420 : Cond.code yX4_isOfTrial cX4_isOfTrial 1 (some .boolean) ∈ wsA := wsA_mk 420 (by decide +kernel) rfl
theorem wd_421 : Cond.methodLink RX4 172 yX4_isCase ∈ wsA := wsA_mk 421 (by decide +kernel) rfl
theorem wd_422 : Cond.static yX4_isCase ∈ wsA := wsA_mk 422 (by decide +kernel) rfl
theorem wd_423 : Cond.code yX4_isCase cX4_isCase 4 (some .boolean) ∈ wsA := wsA_mk 423 (by decide +kernel) rfl
theorem wd_424 : Cond.methodLink RX4 183 yX3_at ∈ wsA := wsA_mk 424 (by decide +kernel) rfl
theorem wd_425 : Cond.methodLink RX4 186 yX4_isAct ∈ wsA := wsA_mk 425 (by decide +kernel) rfl
theorem wd_426 : Cond.static yX4_isAct ∈ wsA := wsA_mk 426 (by decide +kernel) rfl
theorem wd_427 : Cond.code yX4_isAct cX4_isAct 3 (some .boolean) ∈ wsA := wsA_mk 427 (by decide +kernel) rfl
theorem wd_428 : Cond.methodLink RX4 176 yX4_playCase ∈ wsA := wsA_mk 428 (by decide +kernel) rfl
theorem wd_430 : Cond.instanceMethod yX4_playCase ∈ wsA := wsA_mk 430 (by decide +kernel) rfl
theorem wd_431 : Cond.code yX4_playCase cX4_playCase 5 (some .int) ∈ wsA := wsA_mk 431 (by decide +kernel) rfl
theorem wd_432 : Cond.methodLink RX4 189 yX0_takesAct ∈ wsA := wsA_mk 432 (by decide +kernel) rfl
theorem wd_433 : Cond.instanceMethod yX0_takesAct ∈ wsA := wsA_mk 433 (by decide +kernel) rfl
theorem wd_434 : Cond.selects RX0 yX0_takesAct yX0_takesAct ∈ wsA := wsA_mk 434 (by decide +kernel) rfl
theorem wd_435 : Cond.code yX0_takesAct cX0_takesAct 4 (some .boolean) ∈ wsA := wsA_mk 435 (by decide +kernel) rfl
theorem wd_436 : Cond.methodLink RX0 60 yX0_takesStove ∈ wsA := wsA_mk 436 (by decide +kernel) rfl
theorem wd_438 : Cond.instanceMethod yX0_takesStove ∈ wsA := wsA_mk 438 (by decide +kernel) rfl
theorem wd_439 : Cond.code yX0_takesStove cX0_takesStove 3 (some .boolean) ∈ wsA := wsA_mk 439 (by decide +kernel) rfl
theorem wd_440 : Cond.methodLink RX0 74 yX0_hasHour ∈ wsA := wsA_mk 440 (by decide +kernel) rfl
theorem wd_441 : Cond.methodLink RX0 64 yX0_dropOath ∈ wsA := wsA_mk 441 (by decide +kernel) rfl
theorem wd_442 : Cond.methodLink RX0 68 yX0_takesFrost ∈ wsA := wsA_mk 442 (by decide +kernel) rfl
theorem wd_444 : Cond.instanceMethod yX0_takesFrost ∈ wsA := wsA_mk 444 (by decide +kernel) rfl
theorem wd_445 : Cond.code yX0_takesFrost cX0_takesFrost 3 (some .boolean) ∈ wsA := wsA_mk 445 (by decide +kernel) rfl
theorem wd_446 : Cond.methodLink RX0 71 yX0_takesCoat ∈ wsA := wsA_mk 446 (by decide +kernel) rfl
theorem wd_448 : Cond.instanceMethod yX0_takesCoat ∈ wsA := wsA_mk 448 (by decide +kernel) rfl
theorem wd_449 : Cond.code yX0_takesCoat cX0_takesCoat 3 (some .boolean) ∈ wsA := wsA_mk 449 (by decide +kernel) rfl
theorem wd_450 : Cond.methodLink RX0 77 yX0_hasSwearer ∈ wsA := wsA_mk 450 (by decide +kernel) rfl
theorem wd_451 : Cond.methodLink RX4 180 yX4_ofCase ∈ wsA := wsA_mk 451 (by decide +kernel) rfl
theorem wd_453 : Cond.instanceMethod yX4_ofCase ∈ wsA := wsA_mk 453 (by decide +kernel) rfl
theorem wd_454 : Cond.code yX4_ofCase cX4_ofCase 2 (some .int) ∈ wsA := wsA_mk 454 (by decide +kernel) rfl
theorem wd_455 : Cond.methodLink RX4 192 yX0_timesCold ∈ wsA := wsA_mk 455 (by decide +kernel) rfl
theorem wd_456 : Cond.instanceMethod yX0_timesCold ∈ wsA := wsA_mk 456 (by decide +kernel) rfl
theorem wd_457 : Cond.selects RX0 yX0_timesCold yX0_timesCold ∈ wsA := wsA_mk 457 (by decide +kernel) rfl
theorem wd_458 : Cond.code yX0_timesCold cX0_timesCold 3 (some .int) ∈ wsA := wsA_mk 458 (by decide +kernel) rfl
theorem wd_459 : Cond.methodLink RX0 91 yX0_coldHours ∈ wsA := wsA_mk 459 (by decide +kernel) rfl
theorem wd_460 : Cond.methodLink RX0 94 yJ6_bitCount_0f7a4 ∈ wsA := wsA_mk 460 (by decide +kernel) rfl
theorem wd_461 : Cond.methodLink RX4 195 yX0_leastToLetGo ∈ wsA := wsA_mk 461 (by decide +kernel) rfl
theorem wd_462 : Cond.instanceMethod yX0_leastToLetGo ∈ wsA := wsA_mk 462 (by decide +kernel) rfl
theorem wd_463 : Cond.selects RX0 yX0_leastToLetGo yX0_leastToLetGo ∈ wsA := wsA_mk 463 (by decide +kernel) rfl
theorem wd_464 : Cond.code yX0_leastToLetGo cX0_leastToLetGo 5 (some .int) ∈ wsA := wsA_mk 464 (by decide +kernel) rfl
theorem wd_465 : Cond.methodLink RX0 102 yX0_bindingOaths ∈ wsA := wsA_mk 465 (by decide +kernel) rfl
theorem wd_466 : Cond.methodLink RX0 112 yX0_hasRing ∈ wsA := wsA_mk 466 (by decide +kernel) rfl
theorem wd_468 : Cond.instanceMethod yX0_hasRing ∈ wsA := wsA_mk 468 (by decide +kernel) rfl
theorem wd_469 : Cond.code yX0_hasRing cX0_hasRing 4 (some .boolean) ∈ wsA := wsA_mk 469 (by decide +kernel) rfl
theorem wd_470 : Cond.methodLink RX0 115 yX0_swearingWithin ∈ wsA := wsA_mk 470 (by decide +kernel) rfl
theorem wd_472 : Cond.instanceMethod yX0_swearingWithin ∈ wsA := wsA_mk 472 (by decide +kernel) rfl
theorem wd_473 : Cond.code yX0_swearingWithin cX0_swearingWithin 5 (some .int) ∈ wsA := wsA_mk 473 (by decide +kernel) rfl
theorem wd_475 : Cond.static yX4_hasBit ∈ wsA := wsA_mk 475 (by decide +kernel) rfl
theorem wd_476 : Cond.code yX4_hasBit cX4_hasBit 2 (some .boolean) ∈ wsA := wsA_mk 476 (by decide +kernel) rfl
theorem wd_477 : Cond.methodLink RL 62 yX4_bound ∈ wsA := wsA_mk 477 (by decide +kernel) rfl
theorem wd_478 : Cond.instanceMethod yX4_bound ∈ wsA := wsA_mk 478 (by decide +kernel) rfl
theorem wd_479 : Cond.selects RX4 yX4_bound yX4_bound ∈ wsA := wsA_mk 479 (by decide +kernel) rfl
theorem wd_480 : Cond.code yX4_bound cX4_bound 3 (some .int) ∈ wsA := wsA_mk 480 (by decide +kernel) rfl
theorem wd_481 : Cond.methodLink RX4 198 yX0_leastRow ∈ wsA := wsA_mk 481 (by decide +kernel) rfl
theorem wd_482 : Cond.instanceMethod yX0_leastRow ∈ wsA := wsA_mk 482 (by decide +kernel) rfl
theorem wd_483 : Cond.selects RX0 yX0_leastRow yX0_leastRow ∈ wsA := wsA_mk 483 (by decide +kernel) rfl
theorem wd_484 : Cond.code yX0_leastRow cX0_leastRow 6 (some .int) ∈ wsA := wsA_mk 484 (by decide +kernel) rfl
theorem wd_485 : Cond.methodLink RX0 106 yX0_swornToBy ∈ wsA := wsA_mk 485 (by decide +kernel) rfl
theorem wd_487 : Cond.instanceMethod yX0_swornToBy ∈ wsA := wsA_mk 487 (by decide +kernel) rfl
theorem wd_488 : Cond.code yX0_swornToBy cX0_swornToBy 5 (some .int) ∈ wsA := wsA_mk 488 (by decide +kernel) rfl
theorem wd_489 : Cond.methodLink RL 66 yX4_together ∈ wsA := wsA_mk 489 (by decide +kernel) rfl
theorem wd_490 : Cond.instanceMethod yX4_together ∈ wsA := wsA_mk 490 (by decide +kernel) rfl
theorem wd_491 : Cond.selects RX4 yX4_together yX4_together ∈ wsA := wsA_mk 491 (by decide +kernel) rfl
theorem wd_492 : Cond.code yX4_together cX4_together 4 (some .int) ∈ wsA := wsA_mk 492 (by decide +kernel) rfl
theorem wd_493 : Cond.methodLink RX4 201 yX4_refusalOfSwearers ∈ wsA := wsA_mk 493 (by decide +kernel) rfl
theorem wd_495 : Cond.instanceMethod yX4_refusalOfSwearers ∈ wsA := wsA_mk 495 (by decide +kernel) rfl
theorem wd_496 : Cond.code yX4_refusalOfSwearers cX4_refusalOfSwearers 2 (some .int) ∈ wsA := wsA_mk 496 (by decide +kernel) rfl
theorem wd_497 : Cond.methodLink RL 70 yX4_coated ∈ wsA := wsA_mk 497 (by decide +kernel) rfl
theorem wd_498 : Cond.instanceMethod yX4_coated ∈ wsA := wsA_mk 498 (by decide +kernel) rfl
theorem wd_499 : Cond.selects RX4 yX4_coated yX4_coated ∈ wsA := wsA_mk 499 (by decide +kernel) rfl
theorem wd_500 : Cond.code yX4_coated cX4_coated 4 (some .int) ∈ wsA := wsA_mk 500 (by decide +kernel) rfl
theorem wd_501 : Cond.methodLink RX4 207 yX4_hasBit ∈ wsA := wsA_mk 501 (by decide +kernel) rfl
theorem wd_502 : Cond.methodLink RL 74 yX4_letgo ∈ wsA := wsA_mk 502 (by decide +kernel) rfl
theorem wd_503 : Cond.instanceMethod yX4_letgo ∈ wsA := wsA_mk 503 (by decide +kernel) rfl
theorem wd_504 : Cond.selects RX4 yX4_letgo yX4_letgo ∈ wsA := wsA_mk 504 (by decide +kernel) rfl
theorem wd_505 : Cond.code yX4_letgo cX4_letgo 3 (some .int) ∈ wsA := wsA_mk 505 (by decide +kernel) rfl
theorem wd_506 : Cond.methodLink RL 78 yX4_stoves ∈ wsA := wsA_mk 506 (by decide +kernel) rfl
theorem wd_507 : Cond.instanceMethod yX4_stoves ∈ wsA := wsA_mk 507 (by decide +kernel) rfl
theorem wd_508 : Cond.selects RX4 yX4_stoves yX4_stoves ∈ wsA := wsA_mk 508 (by decide +kernel) rfl
theorem wd_509 : Cond.code yX4_stoves cX4_stoves 3 (some .int) ∈ wsA := wsA_mk 509 (by decide +kernel) rfl
theorem wd_510 : Cond.methodLink RX4 210 yX0_allOaths ∈ wsA := wsA_mk 510 (by decide +kernel) rfl
theorem wd_511 : Cond.instanceMethod yX0_allOaths ∈ wsA := wsA_mk 511 (by decide +kernel) rfl
theorem wd_512 : Cond.selects RX0 yX0_allOaths yX0_allOaths ∈ wsA := wsA_mk 512 (by decide +kernel) rfl
theorem wd_513 : Cond.code yX0_allOaths cX0_allOaths 1 (some .int) ∈ wsA := wsA_mk 513 (by decide +kernel) rfl
theorem wd_514 : Cond.methodLink RX4 213 yX4_stovesThatSpare ∈ wsA := wsA_mk 514 (by decide +kernel) rfl
theorem wd_516 : Cond.instanceMethod yX4_stovesThatSpare ∈ wsA := wsA_mk 516 (by decide +kernel) rfl
theorem wd_517 : Cond.code yX4_stovesThatSpare cX4_stovesThatSpare 8 (some .int) ∈ wsA := wsA_mk 517 (by decide +kernel) rfl
theorem wd_518 : Cond.methodLink RL 82 yX4_reading ∈ wsA := wsA_mk 518 (by decide +kernel) rfl
theorem wd_519 : Cond.instanceMethod yX4_reading ∈ wsA := wsA_mk 519 (by decide +kernel) rfl
theorem wd_520 : Cond.selects RX4 yX4_reading yX4_reading ∈ wsA := wsA_mk 520 (by decide +kernel) rfl
theorem wd_521 : Cond.code yX4_reading cX4_reading 4 (some .int) ∈ wsA := wsA_mk 521 (by decide +kernel) rfl
theorem wd_522 : Cond.methodLink RX4 216 yX2_add ∈ wsA := wsA_mk 522 (by decide +kernel) rfl
theorem wd_523 : Cond.instanceMethod yX2_add ∈ wsA := wsA_mk 523 (by decide +kernel) rfl
theorem wd_524 : Cond.selects RX2 yX2_add yX2_add ∈ wsA := wsA_mk 524 (by decide +kernel) rfl
theorem wd_525 : Cond.code yX2_add cX2_add 4 none ∈ wsA := wsA_mk 525 (by decide +kernel) rfl
theorem wd_526 : Cond.methodLink RL 86 yX4_back ∈ wsA := wsA_mk 526 (by decide +kernel) rfl
theorem wd_527 : Cond.instanceMethod yX4_back ∈ wsA := wsA_mk 527 (by decide +kernel) rfl
theorem wd_528 : Cond.selects RX4 yX4_back yX4_back ∈ wsA := wsA_mk 528 (by decide +kernel) rfl
theorem wd_529 : Cond.code yX4_back cX4_back 2 (some .int) ∈ wsA := wsA_mk 529 (by decide +kernel) rfl
theorem wd_530 : Cond.methodLink RL 90 yX4_coats ∈ wsA := wsA_mk 530 (by decide +kernel) rfl
theorem wd_531 : Cond.instanceMethod yX4_coats ∈ wsA := wsA_mk 531 (by decide +kernel) rfl
theorem wd_532 : Cond.selects RX4 yX4_coats yX4_coats ∈ wsA := wsA_mk 532 (by decide +kernel) rfl
theorem wd_533 : Cond.code yX4_coats cX4_coats 4 (some .int) ∈ wsA := wsA_mk 533 (by decide +kernel) rfl
theorem wd_534 : Cond.methodLink RX4 220 yX2_holdIn ∈ wsA := wsA_mk 534 (by decide +kernel) rfl
theorem wd_535 : Cond.instanceMethod yX2_holdIn ∈ wsA := wsA_mk 535 (by decide +kernel) rfl
theorem wd_536 : Cond.selects RX2 yX2_holdIn yX2_holdIn ∈ wsA := wsA_mk 536 (by decide +kernel) rfl
theorem wd_537 : Cond.code yX2_holdIn cX2_holdIn 3 (some .boolean) ∈ wsA := wsA_mk 537 (by decide +kernel) rfl
theorem wd_538 : Cond.methodLink RX2 26 yX0_isCold ∈ wsA := wsA_mk 538 (by decide +kernel) rfl
theorem wd_539 : Cond.methodLink RL 94 yX4_kinds ∈ wsA := wsA_mk 539 (by decide +kernel) rfl
theorem wd_540 : Cond.instanceMethod yX4_kinds ∈ wsA := wsA_mk 540 (by decide +kernel) rfl
theorem wd_541 : Cond.selects RX4 yX4_kinds yX4_kinds ∈ wsA := wsA_mk 541 (by decide +kernel) rfl
theorem wd_542 : Cond.code yX4_kinds cX4_kinds 4 (some .int) ∈ wsA := wsA_mk 542 (by decide +kernel) rfl
theorem wd_543 : Cond.methodLink RL 98 yX4_frosts ∈ wsA := wsA_mk 543 (by decide +kernel) rfl
theorem wd_544 : Cond.instanceMethod yX4_frosts ∈ wsA := wsA_mk 544 (by decide +kernel) rfl
theorem wd_545 : Cond.selects RX4 yX4_frosts yX4_frosts ∈ wsA := wsA_mk 545 (by decide +kernel) rfl
theorem wd_546 : Cond.code yX4_frosts cX4_frosts 4 (some .int) ∈ wsA := wsA_mk 546 (by decide +kernel) rfl
theorem wd_547 : Cond.methodLink RL 102 yX4_odds ∈ wsA := wsA_mk 547 (by decide +kernel) rfl
theorem wd_548 : Cond.instanceMethod yX4_odds ∈ wsA := wsA_mk 548 (by decide +kernel) rfl
theorem wd_549 : Cond.selects RX4 yX4_odds yX4_odds ∈ wsA := wsA_mk 549 (by decide +kernel) rfl
theorem wd_550 : Cond.code yX4_odds cX4_odds 10 (some .long) ∈ wsA := wsA_mk 550 (by decide +kernel) rfl
theorem wd_551 : Cond.constantLong RX4 223 (-9223372036854775808 : Int64) ∈ wsA := wsA_mk 551 (by decide +kernel) rfl
theorem wd_552 : Cond.methodLink RX4 225 yX4_lessened ∈ wsA := wsA_mk 552 (by decide +kernel) rfl
theorem wd_553 : Cond.static yX4_lessened ∈ wsA := wsA_mk 553 (by decide +kernel) rfl
theorem wd_554 : Cond.code yX4_lessened cX4_lessened 3 (some .int) ∈ wsA := wsA_mk 554 (by decide +kernel) rfl
theorem wd_555 : Cond.methodLink RL 107 yX4_sheet ∈ wsA := wsA_mk 555 (by decide +kernel) rfl
theorem wd_556 : Cond.instanceMethod yX4_sheet ∈ wsA := wsA_mk 556 (by decide +kernel) rfl
theorem wd_557 : Cond.selects RX4 yX4_sheet yX4_sheet ∈ wsA := wsA_mk 557 (by decide +kernel) rfl
theorem wd_558 : Cond.code yX4_sheet cX4_sheet 4 (some .int) ∈ wsA := wsA_mk 558 (by decide +kernel) rfl
theorem wd_559 : Cond.methodLink RX4 228 yX3_renew ∈ wsA := wsA_mk 559 (by decide +kernel) rfl
theorem wd_560 : Cond.instanceMethod yX3_renew ∈ wsA := wsA_mk 560 (by decide +kernel) rfl
theorem wd_561 : Cond.selects RX3 yX3_renew yX3_renew ∈ wsA := wsA_mk 561 (by decide +kernel) rfl
theorem wd_562 : Cond.code yX3_renew cX3_renew 3 none ∈ wsA := wsA_mk 562 (by decide +kernel) rfl
theorem wd_563 : Cond.methodLink RX3 26 yJ7_fill_53178 ∈ wsA := wsA_mk 563 (by decide +kernel) rfl
theorem wd_564 : Cond.static yJ7_fill_53178 ∈ wsA := wsA_mk 564 (by decide +kernel) rfl
theorem wd_565 : Cond.code yJ7_fill_53178 cJ7_fill_53178 4 none ∈ wsA := wsA_mk 565 (by decide +kernel) rfl
theorem wd_566 : Cond.methodLink RL 111 yX4_lose ∈ wsA := wsA_mk 566 (by decide +kernel) rfl
theorem wd_567 : Cond.instanceMethod yX4_lose ∈ wsA := wsA_mk 567 (by decide +kernel) rfl
theorem wd_568 : Cond.selects RX4 yX4_lose yX4_lose ∈ wsA := wsA_mk 568 (by decide +kernel) rfl
theorem wd_569 : Cond.code yX4_lose cX4_lose 3 (some .int) ∈ wsA := wsA_mk 569 (by decide +kernel) rfl
theorem wd_570 : Cond.methodLink RL 115 yX4_put ∈ wsA := wsA_mk 570 (by decide +kernel) rfl
theorem wd_571 : Cond.instanceMethod yX4_put ∈ wsA := wsA_mk 571 (by decide +kernel) rfl
theorem wd_572 : Cond.selects RX4 yX4_put yX4_put ∈ wsA := wsA_mk 572 (by decide +kernel) rfl
theorem wd_573 : Cond.code yX4_put cX4_put 5 (some .int) ∈ wsA := wsA_mk 573 (by decide +kernel) rfl
theorem wd_574 : Cond.methodLink RX4 235 yX3_hasCell ∈ wsA := wsA_mk 574 (by decide +kernel) rfl
theorem wd_575 : Cond.methodLink RX4 238 yX3_store ∈ wsA := wsA_mk 575 (by decide +kernel) rfl
theorem wd_576 : Cond.instanceMethod yX3_store ∈ wsA := wsA_mk 576 (by decide +kernel) rfl
theorem wd_577 : Cond.selects RX3 yX3_store yX3_store ∈ wsA := wsA_mk 577 (by decide +kernel) rfl
theorem wd_578 : Cond.code yX3_store cX3_store 3 none ∈ wsA := wsA_mk 578 (by decide +kernel) rfl
theorem wd_579 : Cond.methodLink RX3 36 yX3_cutToLane ∈ wsA := wsA_mk 579 (by decide +kernel) rfl
theorem wd_581 : Cond.instanceMethod yX3_cutToLane ∈ wsA := wsA_mk 581 (by decide +kernel) rfl
theorem wd_582 : Cond.code yX3_cutToLane cX3_cutToLane 2 (some .int) ∈ wsA := wsA_mk 582 (by decide +kernel) rfl
theorem wd_583 : Cond.methodLink RL 119 yX4_cell ∈ wsA := wsA_mk 583 (by decide +kernel) rfl
theorem wd_584 : Cond.instanceMethod yX4_cell ∈ wsA := wsA_mk 584 (by decide +kernel) rfl
theorem wd_585 : Cond.selects RX4 yX4_cell yX4_cell ∈ wsA := wsA_mk 585 (by decide +kernel) rfl
theorem wd_586 : Cond.code yX4_cell cX4_cell 6 (some .long) ∈ wsA := wsA_mk 586 (by decide +kernel) rfl
theorem wd_587 : Cond.methodLink RL 123 yX4_copy ∈ wsA := wsA_mk 587 (by decide +kernel) rfl
theorem wd_588 : Cond.instanceMethod yX4_copy ∈ wsA := wsA_mk 588 (by decide +kernel) rfl
theorem wd_589 : Cond.selects RX4 yX4_copy yX4_copy ∈ wsA := wsA_mk 589 (by decide +kernel) rfl
theorem wd_590 : Cond.code yX4_copy cX4_copy 8 (some .int) ∈ wsA := wsA_mk 590 (by decide +kernel) rfl
theorem wd_591 : Cond.methodLink RX4 247 arraycopyName ∈ wsA := wsA_mk 591 (by decide +kernel) rfl
theorem wd_592 : Cond.methodLink RL 127 yX4_tell ∈ wsA := wsA_mk 592 (by decide +kernel) rfl
theorem wd_593 : Cond.instanceMethod yX4_tell ∈ wsA := wsA_mk 593 (by decide +kernel) rfl
theorem wd_594 : Cond.selects RX4 yX4_tell yX4_tell ∈ wsA := wsA_mk 594 (by decide +kernel) rfl
theorem wd_595 : Cond.code yX4_tell cX4_tell 2 (some .int) ∈ wsA := wsA_mk 595 (by decide +kernel) rfl
theorem wd_596 : Cond.methodLink RX4 253 yX4_doubleBody ∈ wsA := wsA_mk 596 (by decide +kernel) rfl
theorem wd_598 : Cond.instanceMethod yX4_doubleBody ∈ wsA := wsA_mk 598 (by decide +kernel) rfl
theorem wd_599 : Cond.code yX4_doubleBody cX4_doubleBody 3 (some .int) ∈ wsA := wsA_mk 599 (by decide +kernel) rfl
theorem wd_600 : Cond.methodLink RX4 271 yX4_leaveInTrace ∈ wsA := wsA_mk 600 (by decide +kernel) rfl
theorem wd_602 : Cond.instanceMethod yX4_leaveInTrace ∈ wsA := wsA_mk 602 (by decide +kernel) rfl
theorem wd_603 : Cond.code yX4_leaveInTrace cX4_leaveInTrace 2 none ∈ wsA := wsA_mk 603 (by decide +kernel) rfl
theorem wd_604 : Cond.methodLink RX4 256 yX4_beardedBody ∈ wsA := wsA_mk 604 (by decide +kernel) rfl
theorem wd_606 : Cond.instanceMethod yX4_beardedBody ∈ wsA := wsA_mk 606 (by decide +kernel) rfl
theorem wd_607 : Cond.code yX4_beardedBody cX4_beardedBody 2 (some .int) ∈ wsA := wsA_mk 607 (by decide +kernel) rfl
theorem wd_608 : Cond.methodLink RX4 259 yX4_plainBody ∈ wsA := wsA_mk 608 (by decide +kernel) rfl
theorem wd_610 : Cond.instanceMethod yX4_plainBody ∈ wsA := wsA_mk 610 (by decide +kernel) rfl
theorem wd_611 : Cond.code yX4_plainBody cX4_plainBody 2 (some .int) ∈ wsA := wsA_mk 611 (by decide +kernel) rfl
theorem wd_612 : Cond.methodLink RL 131 yX4_pinch ∈ wsA := wsA_mk 612 (by decide +kernel) rfl
theorem wd_613 : Cond.instanceMethod yX4_pinch ∈ wsA := wsA_mk 613 (by decide +kernel) rfl
theorem wd_614 : Cond.selects RX4 yX4_pinch yX4_pinch ∈ wsA := wsA_mk 614 (by decide +kernel) rfl
theorem wd_615 : Cond.code yX4_pinch cX4_pinch 2 (some .int) ∈ wsA := wsA_mk 615 (by decide +kernel) rfl
theorem wd_616 : Cond.methodLink RX4 262 yX4_doublePinch ∈ wsA := wsA_mk 616 (by decide +kernel) rfl
theorem wd_618 : Cond.instanceMethod yX4_doublePinch ∈ wsA := wsA_mk 618 (by decide +kernel) rfl
theorem wd_619 : Cond.code yX4_doublePinch cX4_doublePinch 1 (some .int) ∈ wsA := wsA_mk 619 (by decide +kernel) rfl
theorem wd_620 : Cond.methodLink RX4 265 yX4_lentPinch ∈ wsA := wsA_mk 620 (by decide +kernel) rfl
theorem wd_622 : Cond.instanceMethod yX4_lentPinch ∈ wsA := wsA_mk 622 (by decide +kernel) rfl
theorem wd_623 : Cond.code yX4_lentPinch cX4_lentPinch 2 (some .int) ∈ wsA := wsA_mk 623 (by decide +kernel) rfl
theorem wd_624 : Cond.methodLink RL 135 yX4_as ∈ wsA := wsA_mk 624 (by decide +kernel) rfl
theorem wd_625 : Cond.instanceMethod yX4_as ∈ wsA := wsA_mk 625 (by decide +kernel) rfl
theorem wd_626 : Cond.selects RX4 yX4_as yX4_as ∈ wsA := wsA_mk 626 (by decide +kernel) rfl
theorem wd_627 : Cond.code yX4_as cX4_as 3 (some .int) ∈ wsA := wsA_mk 627 (by decide +kernel) rfl
theorem wd_628 : Cond.methodLink RL 139 yX4_trace ∈ wsA := wsA_mk 628 (by decide +kernel) rfl
theorem wd_629 : Cond.instanceMethod yX4_trace ∈ wsA := wsA_mk 629 (by decide +kernel) rfl
theorem wd_630 : Cond.selects RX4 yX4_trace yX4_trace ∈ wsA := wsA_mk 630 (by decide +kernel) rfl
theorem wd_631 : Cond.code yX4_trace cX4_trace 1 (some .int) ∈ wsA := wsA_mk 631 (by decide +kernel) rfl
theorem wd_632 : Cond.methodLink RL 144 yX4_fault ∈ wsA := wsA_mk 632 (by decide +kernel) rfl
theorem wd_633 : Cond.instanceMethod yX4_fault ∈ wsA := wsA_mk 633 (by decide +kernel) rfl
theorem wd_634 : Cond.selects RX4 yX4_fault yX4_fault ∈ wsA := wsA_mk 634 (by decide +kernel) rfl
theorem wd_635 : Cond.code yX4_fault cX4_fault 1 (some .int) ∈ wsA := wsA_mk 635 (by decide +kernel) rfl
theorem wd_636 : Cond.methodLink RL 148 yX4_many ∈ wsA := wsA_mk 636 (by decide +kernel) rfl
theorem wd_637 : Cond.instanceMethod yX4_many ∈ wsA := wsA_mk 637 (by decide +kernel) rfl
theorem wd_638 : Cond.selects RX4 yX4_many yX4_many ∈ wsA := wsA_mk 638 (by decide +kernel) rfl
theorem wd_639 : Cond.code yX4_many cX4_many 2 (some .int) ∈ wsA := wsA_mk 639 (by decide +kernel) rfl
theorem wd_640 : Cond.classLink RL 10 RX5 ∈ wsA := wsA_mk 640 (by decide +kernel) rfl
theorem wd_641 : Cond.instantiable RX5 28 ∈ wsA := wsA_mk 641 (by decide +kernel) rfl
theorem wd_642 : Cond.methodLink RL 12 yX5_init ∈ wsA := wsA_mk 642 (by decide +kernel) rfl
theorem wd_643 : Cond.instanceMethod yX5_init ∈ wsA := wsA_mk 643 (by decide +kernel) rfl
theorem wd_644 : Cond.code yX5_init cX5_init 1 none ∈ wsA := wsA_mk 644 (by decide +kernel) rfl
theorem wd_645 : Cond.methodLink RX5 1 objectInit ∈ wsA := wsA_mk 645 (by decide +kernel) rfl
theorem wd_646 : Cond.fieldLink RX5 62 "ColdOathsModel" "fault" "I" ∈ wsA := wsA_mk 646 (by decide +kernel) rfl
theorem wd_647 : Cond.fieldLink RX5 226 "ColdOathsModel" "trace" "I" ∈ wsA := wsA_mk 647 (by decide +kernel) rfl
theorem wd_648 : Cond.fieldLink RX5 9 "ColdOathsModel" "sorts" "[I" ∈ wsA := wsA_mk 648 (by decide +kernel) rfl
theorem wd_649 : Cond.fieldLink RX5 13 "ColdOathsModel" "sheetLong" "[I" ∈ wsA := wsA_mk 649 (by decide +kernel) rfl
theorem wd_650 : Cond.fieldLink RX5 16 "ColdOathsModel" "cells" "[I" ∈ wsA := wsA_mk 650 (by decide +kernel) rfl
theorem wd_651 : Cond.fieldLink RX5 71 "ColdOathsModel" "hours" "I" ∈ wsA := wsA_mk 651 (by decide +kernel) rfl
theorem wd_652 : Cond.fieldLink RX5 74 "ColdOathsModel" "swearers" "I" ∈ wsA := wsA_mk 652 (by decide +kernel) rfl
theorem wd_653 : Cond.fieldLink RX5 77 "ColdOathsModel" "oaths" "I" ∈ wsA := wsA_mk 653 (by decide +kernel) rfl
theorem wd_654 : Cond.fieldLink RX5 19 "ColdOathsModel" "stoveAt" "I" ∈ wsA := wsA_mk 654 (by decide +kernel) rfl
theorem wd_655 : Cond.fieldLink RX5 113 "ColdOathsModel" "heat" "I" ∈ wsA := wsA_mk 655 (by decide +kernel) rfl
theorem wd_656 : Cond.fieldLink RX5 23 "ColdOathsModel" "frost" "[I" ∈ wsA := wsA_mk 656 (by decide +kernel) rfl
theorem wd_657 : Cond.fieldLink RX5 26 "ColdOathsModel" "kind" "[I" ∈ wsA := wsA_mk 657 (by decide +kernel) rfl
theorem wd_658 : Cond.fieldLink RX5 29 "ColdOathsModel" "coat" "[I" ∈ wsA := wsA_mk 658 (by decide +kernel) rfl
theorem wd_659 : Cond.fieldLink RX5 32 "ColdOathsModel" "byWhom" "[I" ∈ wsA := wsA_mk 659 (by decide +kernel) rfl
theorem wd_660 : Cond.fieldLink RX5 35 "ColdOathsModel" "toWhom" "[I" ∈ wsA := wsA_mk 660 (by decide +kernel) rfl
theorem wd_661 : Cond.fieldLink RX5 38 "ColdOathsModel" "when" "[I" ∈ wsA := wsA_mk 661 (by decide +kernel) rfl
theorem wd_662 : Cond.fieldLink RX5 80 "ColdOathsModel" "at" "I" ∈ wsA := wsA_mk 662 (by decide +kernel) rfl
theorem wd_663 : Cond.fieldLink RX5 104 "ColdOathsModel" "readHours" "I" ∈ wsA := wsA_mk 663 (by decide +kernel) rfl
theorem wd_664 : Cond.fieldLink RX5 107 "ColdOathsModel" "readSwearers" "I" ∈ wsA := wsA_mk 664 (by decide +kernel) rfl
theorem wd_665 : Cond.fieldLink RX5 110 "ColdOathsModel" "readOaths" "I" ∈ wsA := wsA_mk 665 (by decide +kernel) rfl
theorem wd_666 : Cond.fieldLink RX5 41 "ColdOathsModel" "readFrost" "[I" ∈ wsA := wsA_mk 666 (by decide +kernel) rfl
theorem wd_667 : Cond.fieldLink RX5 44 "ColdOathsModel" "readSwearer" "[I" ∈ wsA := wsA_mk 667 (by decide +kernel) rfl
theorem wd_668 : Cond.fieldLink RX5 47 "ColdOathsModel" "readOath" "[I" ∈ wsA := wsA_mk 668 (by decide +kernel) rfl
theorem wd_669 : Cond.fieldLink RX5 50 "ColdOathsModel" "kept" "[I" ∈ wsA := wsA_mk 669 (by decide +kernel) rfl
theorem wd_670 : Cond.fieldLink RX5 116 "ColdOathsModel" "readings" "I" ∈ wsA := wsA_mk 670 (by decide +kernel) rfl
theorem wd_671 : Cond.fieldLink RX5 53 "ColdOathsModel" "readWho" "[I" ∈ wsA := wsA_mk 671 (by decide +kernel) rfl
theorem wd_672 : Cond.fieldLink RX5 56 "ColdOathsModel" "readWhen" "[I" ∈ wsA := wsA_mk 672 (by decide +kernel) rfl
theorem wd_673 : Cond.fieldLink RX5 59 "ColdOathsModel" "readCold" "[I" ∈ wsA := wsA_mk 673 (by decide +kernel) rfl
theorem wd_731 : Cond.methodLink RL 17 yX5_day ∈ wsA := wsA_mk 731 (by decide +kernel) rfl
theorem wd_732 : Cond.instanceMethod yX5_day ∈ wsA := wsA_mk 732 (by decide +kernel) rfl
theorem wd_733 : Cond.selects RX5 yX5_day yX5_day ∈ wsA := wsA_mk 733 (by decide +kernel) rfl
theorem wd_734 : Cond.code yX5_day cX5_day 7 (some .int) ∈ wsA := wsA_mk 734 (by decide +kernel) rfl
theorem wd_735 : Cond.methodLink RX5 83 yX5_isSheet ∈ wsA := wsA_mk 735 (by decide +kernel) rfl
theorem wd_736 : Cond.static yX5_isSheet ∈ wsA := wsA_mk 736 (by decide +kernel) rfl
theorem wd_737 : Cond.code yX5_isSheet cX5_isSheet 1 (some .boolean) ∈ wsA := wsA_mk 737 (by decide +kernel) rfl
theorem wd_738 : Cond.methodLink RX5 67 yX5_within ∈ wsA := wsA_mk 738 (by decide +kernel) rfl
theorem wd_739 : Cond.static yX5_within ∈ wsA := wsA_mk 739 (by decide +kernel) rfl
theorem wd_740 : Cond.code yX5_within cX5_within 3 (some .boolean) ∈ wsA := wsA_mk 740 (by decide +kernel) rfl
theorem wd_741 : Cond.methodLink RX5 87 yX5_isSort ∈ wsA := wsA_mk 741 (by decide +kernel) rfl
theorem wd_742 : Cond.static yX5_isSort ∈ wsA := wsA_mk 742 (by decide +kernel) rfl
theorem wd_743 : Cond.code yX5_isSort cX5_isSort 1 (some .boolean) ∈ wsA := wsA_mk 743 (by decide +kernel) rfl
theorem wd_744 : Cond.methodLink RX5 90 yX5_against ∈ wsA := wsA_mk 744 (by decide +kernel) rfl
theorem wd_746 : Cond.instanceMethod yX5_against ∈ wsA := wsA_mk 746 (by decide +kernel) rfl
theorem wd_747 : Cond.code yX5_against cX5_against 5 (some .int) ∈ wsA := wsA_mk 747 (by decide +kernel) rfl
theorem wd_748 : Cond.methodLink RX5 94 yX5_fails ∈ wsA := wsA_mk 748 (by decide +kernel) rfl
theorem wd_750 : Cond.instanceMethod yX5_fails ∈ wsA := wsA_mk 750 (by decide +kernel) rfl
theorem wd_751 : Cond.code yX5_fails cX5_fails 2 (some .int) ∈ wsA := wsA_mk 751 (by decide +kernel) rfl
theorem wd_752 : Cond.methodLink RX5 98 yX5_readDay ∈ wsA := wsA_mk 752 (by decide +kernel) rfl
theorem wd_754 : Cond.instanceMethod yX5_readDay ∈ wsA := wsA_mk 754 (by decide +kernel) rfl
theorem wd_755 : Cond.code yX5_readDay cX5_readDay 3 (some .boolean) ∈ wsA := wsA_mk 755 (by decide +kernel) rfl
theorem wd_756 : Cond.methodLink RX5 119 yX5_isSign ∈ wsA := wsA_mk 756 (by decide +kernel) rfl
theorem wd_758 : Cond.instanceMethod yX5_isSign ∈ wsA := wsA_mk 758 (by decide +kernel) rfl
theorem wd_759 : Cond.code yX5_isSign cX5_isSign 3 (some .boolean) ∈ wsA := wsA_mk 759 (by decide +kernel) rfl
theorem wd_760 : Cond.methodLink RX5 123 yX5_digit ∈ wsA := wsA_mk 760 (by decide +kernel) rfl
theorem wd_762 : Cond.instanceMethod yX5_digit ∈ wsA := wsA_mk 762 (by decide +kernel) rfl
theorem wd_763 : Cond.code yX5_digit cX5_digit 3 (some .int) ∈ wsA := wsA_mk 763 (by decide +kernel) rfl
theorem wd_764 : Cond.methodLink RX5 127 yX5_readSwearerNext ∈ wsA := wsA_mk 764 (by decide +kernel) rfl
theorem wd_766 : Cond.instanceMethod yX5_readSwearerNext ∈ wsA := wsA_mk 766 (by decide +kernel) rfl
theorem wd_767 : Cond.code yX5_readSwearerNext cX5_readSwearerNext 4 (some .boolean) ∈ wsA := wsA_mk 767 (by decide +kernel) rfl
theorem wd_768 : Cond.methodLink RX5 130 yX5_readOathNext ∈ wsA := wsA_mk 768 (by decide +kernel) rfl
theorem wd_770 : Cond.instanceMethod yX5_readOathNext ∈ wsA := wsA_mk 770 (by decide +kernel) rfl
theorem wd_771 : Cond.code yX5_readOathNext cX5_readOathNext 3 (some .boolean) ∈ wsA := wsA_mk 771 (by decide +kernel) rfl
theorem wd_772 : Cond.methodLink RX5 101 yX5_takeDay ∈ wsA := wsA_mk 772 (by decide +kernel) rfl
theorem wd_774 : Cond.instanceMethod yX5_takeDay ∈ wsA := wsA_mk 774 (by decide +kernel) rfl
theorem wd_775 : Cond.code yX5_takeDay cX5_takeDay 2 none ∈ wsA := wsA_mk 775 (by decide +kernel) rfl
theorem wd_776 : Cond.methodLink RL 22 yX5_ofSwearer ∈ wsA := wsA_mk 776 (by decide +kernel) rfl
theorem wd_777 : Cond.instanceMethod yX5_ofSwearer ∈ wsA := wsA_mk 777 (by decide +kernel) rfl
theorem wd_778 : Cond.selects RX5 yX5_ofSwearer yX5_ofSwearer ∈ wsA := wsA_mk 778 (by decide +kernel) rfl
theorem wd_779 : Cond.code yX5_ofSwearer cX5_ofSwearer 3 (some .int) ∈ wsA := wsA_mk 779 (by decide +kernel) rfl
theorem wd_780 : Cond.methodLink RX5 145 yX5_isSwearer ∈ wsA := wsA_mk 780 (by decide +kernel) rfl
theorem wd_782 : Cond.instanceMethod yX5_isSwearer ∈ wsA := wsA_mk 782 (by decide +kernel) rfl
theorem wd_783 : Cond.code yX5_isSwearer cX5_isSwearer 2 (some .boolean) ∈ wsA := wsA_mk 783 (by decide +kernel) rfl
theorem wd_784 : Cond.methodLink RX5 133 yX5_warmthOf ∈ wsA := wsA_mk 784 (by decide +kernel) rfl
theorem wd_786 : Cond.instanceMethod yX5_warmthOf ∈ wsA := wsA_mk 786 (by decide +kernel) rfl
theorem wd_787 : Cond.code yX5_warmthOf cX5_warmthOf 2 (some .int) ∈ wsA := wsA_mk 787 (by decide +kernel) rfl
theorem wd_788 : Cond.methodLink RX5 148 yX5_coldHours ∈ wsA := wsA_mk 788 (by decide +kernel) rfl
theorem wd_790 : Cond.instanceMethod yX5_coldHours ∈ wsA := wsA_mk 790 (by decide +kernel) rfl
theorem wd_791 : Cond.code yX5_coldHours cX5_coldHours 4 (some .int) ∈ wsA := wsA_mk 791 (by decide +kernel) rfl
theorem wd_792 : Cond.methodLink RX5 139 yX5_isCold ∈ wsA := wsA_mk 792 (by decide +kernel) rfl
theorem wd_794 : Cond.instanceMethod yX5_isCold ∈ wsA := wsA_mk 794 (by decide +kernel) rfl
theorem wd_795 : Cond.code yX5_isCold cX5_isCold 3 (some .boolean) ∈ wsA := wsA_mk 795 (by decide +kernel) rfl
theorem wd_796 : Cond.methodLink RX5 136 yX5_chillOf ∈ wsA := wsA_mk 796 (by decide +kernel) rfl
theorem wd_798 : Cond.instanceMethod yX5_chillOf ∈ wsA := wsA_mk 798 (by decide +kernel) rfl
theorem wd_799 : Cond.code yX5_chillOf cX5_chillOf 3 (some .int) ∈ wsA := wsA_mk 799 (by decide +kernel) rfl
theorem wd_800 : Cond.methodLink RX5 151 yX5_swornBy ∈ wsA := wsA_mk 800 (by decide +kernel) rfl
theorem wd_802 : Cond.instanceMethod yX5_swornBy ∈ wsA := wsA_mk 802 (by decide +kernel) rfl
theorem wd_803 : Cond.code yX5_swornBy cX5_swornBy 4 (some .int) ∈ wsA := wsA_mk 803 (by decide +kernel) rfl
theorem wd_804 : Cond.methodLink RX5 154 yX5_whichBind ∈ wsA := wsA_mk 804 (by decide +kernel) rfl
theorem wd_806 : Cond.instanceMethod yX5_whichBind ∈ wsA := wsA_mk 806 (by decide +kernel) rfl
theorem wd_807 : Cond.code yX5_whichBind cX5_whichBind 3 (some .int) ∈ wsA := wsA_mk 807 (by decide +kernel) rfl
theorem wd_808 : Cond.methodLink RX5 142 yX5_binds ∈ wsA := wsA_mk 808 (by decide +kernel) rfl
theorem wd_810 : Cond.instanceMethod yX5_binds ∈ wsA := wsA_mk 810 (by decide +kernel) rfl
theorem wd_811 : Cond.code yX5_binds cX5_binds 2 (some .boolean) ∈ wsA := wsA_mk 811 (by decide +kernel) rfl
theorem wd_812 : Cond.methodLink RL 26 yX5_ofOath ∈ wsA := wsA_mk 812 (by decide +kernel) rfl
theorem wd_813 : Cond.instanceMethod yX5_ofOath ∈ wsA := wsA_mk 813 (by decide +kernel) rfl
theorem wd_814 : Cond.selects RX5 yX5_ofOath yX5_ofOath ∈ wsA := wsA_mk 814 (by decide +kernel) rfl
theorem wd_815 : Cond.code yX5_ofOath cX5_ofOath 3 (some .int) ∈ wsA := wsA_mk 815 (by decide +kernel) rfl
theorem wd_816 : Cond.methodLink RX5 158 yX5_isOath ∈ wsA := wsA_mk 816 (by decide +kernel) rfl
theorem wd_818 : Cond.instanceMethod yX5_isOath ∈ wsA := wsA_mk 818 (by decide +kernel) rfl
theorem wd_819 : Cond.code yX5_isOath cX5_isOath 2 (some .boolean) ∈ wsA := wsA_mk 819 (by decide +kernel) rfl
theorem wd_820 : Cond.methodLink RL 30 yX5_ofHour ∈ wsA := wsA_mk 820 (by decide +kernel) rfl
theorem wd_821 : Cond.instanceMethod yX5_ofHour ∈ wsA := wsA_mk 821 (by decide +kernel) rfl
theorem wd_822 : Cond.selects RX5 yX5_ofHour yX5_ofHour ∈ wsA := wsA_mk 822 (by decide +kernel) rfl
theorem wd_823 : Cond.code yX5_ofHour cX5_ofHour 3 (some .int) ∈ wsA := wsA_mk 823 (by decide +kernel) rfl
theorem wd_824 : Cond.methodLink RX5 161 yX5_isHour ∈ wsA := wsA_mk 824 (by decide +kernel) rfl
theorem wd_826 : Cond.instanceMethod yX5_isHour ∈ wsA := wsA_mk 826 (by decide +kernel) rfl
theorem wd_827 : Cond.code yX5_isHour cX5_isHour 2 (some .boolean) ∈ wsA := wsA_mk 827 (by decide +kernel) rfl
theorem wd_828 : Cond.methodLink RX5 164 yX5_whoCold ∈ wsA := wsA_mk 828 (by decide +kernel) rfl
theorem wd_830 : Cond.instanceMethod yX5_whoCold ∈ wsA := wsA_mk 830 (by decide +kernel) rfl
theorem wd_831 : Cond.code yX5_whoCold cX5_whoCold 4 (some .int) ∈ wsA := wsA_mk 831 (by decide +kernel) rfl
theorem wd_832 : Cond.methodLink RL 34 yX5_chill ∈ wsA := wsA_mk 832 (by decide +kernel) rfl
theorem wd_833 : Cond.instanceMethod yX5_chill ∈ wsA := wsA_mk 833 (by decide +kernel) rfl
theorem wd_834 : Cond.selects RX5 yX5_chill yX5_chill ∈ wsA := wsA_mk 834 (by decide +kernel) rfl
theorem wd_835 : Cond.code yX5_chill cX5_chill 3 (some .int) ∈ wsA := wsA_mk 835 (by decide +kernel) rfl
theorem wd_836 : Cond.methodLink RL 38 yX5_coat ∈ wsA := wsA_mk 836 (by decide +kernel) rfl
theorem wd_837 : Cond.instanceMethod yX5_coat ∈ wsA := wsA_mk 837 (by decide +kernel) rfl
theorem wd_838 : Cond.selects RX5 yX5_coat yX5_coat ∈ wsA := wsA_mk 838 (by decide +kernel) rfl
theorem wd_839 : Cond.code yX5_coat cX5_coat 4 (some .int) ∈ wsA := wsA_mk 839 (by decide +kernel) rfl
theorem wd_840 : Cond.methodLink RL 42 yX5_frost ∈ wsA := wsA_mk 840 (by decide +kernel) rfl
theorem wd_841 : Cond.instanceMethod yX5_frost ∈ wsA := wsA_mk 841 (by decide +kernel) rfl
theorem wd_842 : Cond.selects RX5 yX5_frost yX5_frost ∈ wsA := wsA_mk 842 (by decide +kernel) rfl
theorem wd_843 : Cond.code yX5_frost cX5_frost 4 (some .int) ∈ wsA := wsA_mk 843 (by decide +kernel) rfl
theorem wd_844 : Cond.methodLink RL 47 yX5_swear ∈ wsA := wsA_mk 844 (by decide +kernel) rfl
theorem wd_845 : Cond.instanceMethod yX5_swear ∈ wsA := wsA_mk 845 (by decide +kernel) rfl
theorem wd_846 : Cond.selects RX5 yX5_swear yX5_swear ∈ wsA := wsA_mk 846 (by decide +kernel) rfl
theorem wd_847 : Cond.code yX5_swear cX5_swear 4 (some .int) ∈ wsA := wsA_mk 847 (by decide +kernel) rfl
theorem wd_848 : Cond.methodLink RL 52 yX5_release ∈ wsA := wsA_mk 848 (by decide +kernel) rfl
theorem wd_849 : Cond.instanceMethod yX5_release ∈ wsA := wsA_mk 849 (by decide +kernel) rfl
theorem wd_850 : Cond.selects RX5 yX5_release yX5_release ∈ wsA := wsA_mk 850 (by decide +kernel) rfl
theorem wd_851 : Cond.code yX5_release cX5_release 2 (some .int) ∈ wsA := wsA_mk 851 (by decide +kernel) rfl
theorem wd_852 : Cond.methodLink RX5 167 yX5_letOff ∈ wsA := wsA_mk 852 (by decide +kernel) rfl
theorem wd_854 : Cond.instanceMethod yX5_letOff ∈ wsA := wsA_mk 854 (by decide +kernel) rfl
theorem wd_855 : Cond.code yX5_letOff cX5_letOff 3 none ∈ wsA := wsA_mk 855 (by decide +kernel) rfl
theorem wd_856 : Cond.methodLink RL 56 yX5_stove ∈ wsA := wsA_mk 856 (by decide +kernel) rfl
theorem wd_857 : Cond.instanceMethod yX5_stove ∈ wsA := wsA_mk 857 (by decide +kernel) rfl
theorem wd_858 : Cond.selects RX5 yX5_stove yX5_stove ∈ wsA := wsA_mk 858 (by decide +kernel) rfl
theorem wd_859 : Cond.code yX5_stove cX5_stove 3 (some .int) ∈ wsA := wsA_mk 859 (by decide +kernel) rfl
theorem wd_860 : Cond.methodLink RX5 171 yX5_size ∈ wsA := wsA_mk 860 (by decide +kernel) rfl
theorem wd_861 : Cond.static yX5_size ∈ wsA := wsA_mk 861 (by decide +kernel) rfl
theorem wd_862 : Cond.code yX5_size cX5_size 3 (some .int) ∈ wsA := wsA_mk 862 (by decide +kernel) rfl
theorem wd_863 : Cond.methodLink RL 61 yX5_trial ∈ wsA := wsA_mk 863 (by decide +kernel) rfl
theorem wd_864 : Cond.instanceMethod yX5_trial ∈ wsA := wsA_mk 864 (by decide +kernel) rfl
theorem wd_865 : Cond.selects RX5 yX5_trial yX5_trial ∈ wsA := wsA_mk 865 (by decide +kernel) rfl
theorem wd_866 : Cond.code yX5_trial cX5_trial 10 (some .int) ∈ wsA := wsA_mk 866 (by decide +kernel) rfl
theorem wd_867 : Cond.methodLink RX5 177 yX5_isPair ∈ wsA := wsA_mk 867 (by decide +kernel) rfl
theorem wd_868 : Cond.static yX5_isPair ∈ wsA := wsA_mk 868 (by decide +kernel) rfl
theorem wd_869 : Cond.code yX5_isPair cX5_isPair 2 (some .boolean) ∈ wsA := wsA_mk 869 (by decide +kernel) rfl
theorem wd_870 : Cond.methodLink RX5 180 yX5_keep ∈ wsA := wsA_mk 870 (by decide +kernel) rfl
theorem wd_872 : Cond.instanceMethod yX5_keep ∈ wsA := wsA_mk 872 (by decide +kernel) rfl
theorem wd_873 : Cond.code yX5_keep cX5_keep 2 none ∈ wsA := wsA_mk 873 (by decide +kernel) rfl
theorem wd_874 : Cond.methodLink RX5 183 yX5_goCase ∈ wsA := wsA_mk 874 (by decide +kernel) rfl
theorem wd_876 : Cond.instanceMethod yX5_goCase ∈ wsA := wsA_mk 876 (by decide +kernel) rfl
theorem wd_877 : Cond.code yX5_goCase cX5_goCase 4 (some .int) ∈ wsA := wsA_mk 877 (by decide +kernel) rfl
theorem wd_878 : Cond.methodLink RX5 174 yX5_does ∈ wsA := wsA_mk 878 (by decide +kernel) rfl
theorem wd_880 : Cond.instanceMethod yX5_does ∈ wsA := wsA_mk 880 (by decide +kernel) rfl
theorem wd_881 : Cond.code yX5_does cX5_does 3 (some .boolean) ∈ wsA := wsA_mk 881 (by decide +kernel) rfl
theorem wd_882 : Cond.methodLink RX5 186 yX5_tellCase ∈ wsA := wsA_mk 882 (by decide +kernel) rfl
theorem wd_884 : Cond.instanceMethod yX5_tellCase ∈ wsA := wsA_mk 884 (by decide +kernel) rfl
theorem wd_885 : Cond.code yX5_tellCase cX5_tellCase 4 (some .int) ∈ wsA := wsA_mk 885 (by decide +kernel) rfl
theorem wd_886 : Cond.methodLink RX5 192 yX5_leastLetGo ∈ wsA := wsA_mk 886 (by decide +kernel) rfl
theorem wd_888 : Cond.instanceMethod yX5_leastLetGo ∈ wsA := wsA_mk 888 (by decide +kernel) rfl
theorem wd_889 : Cond.code yX5_leastLetGo cX5_leastLetGo 4 (some .int) ∈ wsA := wsA_mk 889 (by decide +kernel) rfl
theorem wd_890 : Cond.methodLink RX5 208 yX5_anyRound ∈ wsA := wsA_mk 890 (by decide +kernel) rfl
theorem wd_892 : Cond.instanceMethod yX5_anyRound ∈ wsA := wsA_mk 892 (by decide +kernel) rfl
theorem wd_893 : Cond.code yX5_anyRound cX5_anyRound 3 (some .boolean) ∈ wsA := wsA_mk 893 (by decide +kernel) rfl
theorem wd_894 : Cond.methodLink RX5 201 yX5_boundOf ∈ wsA := wsA_mk 894 (by decide +kernel) rfl
theorem wd_896 : Cond.instanceMethod yX5_boundOf ∈ wsA := wsA_mk 896 (by decide +kernel) rfl
theorem wd_897 : Cond.code yX5_boundOf cX5_boundOf 7 (some .int) ∈ wsA := wsA_mk 897 (by decide +kernel) rfl
theorem wd_898 : Cond.methodLink RX5 198 yX5_boundBy ∈ wsA := wsA_mk 898 (by decide +kernel) rfl
theorem wd_900 : Cond.instanceMethod yX5_boundBy ∈ wsA := wsA_mk 900 (by decide +kernel) rfl
theorem wd_901 : Cond.code yX5_boundBy cX5_boundBy 5 (some .int) ∈ wsA := wsA_mk 901 (by decide +kernel) rfl
theorem wd_902 : Cond.methodLink RX5 195 yX5_isOf ∈ wsA := wsA_mk 902 (by decide +kernel) rfl
theorem wd_903 : Cond.static yX5_isOf ∈ wsA := wsA_mk 903 (by decide +kernel) rfl
theorem wd_904 : Cond.code yX5_isOf cX5_isOf 2 (some .boolean) ∈ wsA := wsA_mk 904 (by decide +kernel) rfl
theorem wd_905 : Cond.methodLink RX5 211 yX5_leastOfSize ∈ wsA := wsA_mk 905 (by decide +kernel) rfl
theorem wd_907 : Cond.instanceMethod yX5_leastOfSize ∈ wsA := wsA_mk 907 (by decide +kernel) rfl
theorem wd_908 : Cond.code yX5_leastOfSize cX5_leastOfSize 4 (some .int) ∈ wsA := wsA_mk 908 (by decide +kernel) rfl
theorem wd_909 : Cond.methodLink RX5 189 yX5_putBack ∈ wsA := wsA_mk 909 (by decide +kernel) rfl
theorem wd_911 : Cond.instanceMethod yX5_putBack ∈ wsA := wsA_mk 911 (by decide +kernel) rfl
theorem wd_912 : Cond.code yX5_putBack cX5_putBack 2 none ∈ wsA := wsA_mk 912 (by decide +kernel) rfl
theorem wd_913 : Cond.methodLink RL 65 yX5_bound ∈ wsA := wsA_mk 913 (by decide +kernel) rfl
theorem wd_914 : Cond.instanceMethod yX5_bound ∈ wsA := wsA_mk 914 (by decide +kernel) rfl
theorem wd_915 : Cond.selects RX5 yX5_bound yX5_bound ∈ wsA := wsA_mk 915 (by decide +kernel) rfl
theorem wd_916 : Cond.code yX5_bound cX5_bound 3 (some .int) ∈ wsA := wsA_mk 916 (by decide +kernel) rfl
theorem wd_917 : Cond.methodLink RL 69 yX5_together ∈ wsA := wsA_mk 917 (by decide +kernel) rfl
theorem wd_918 : Cond.instanceMethod yX5_together ∈ wsA := wsA_mk 918 (by decide +kernel) rfl
theorem wd_919 : Cond.selects RX5 yX5_together yX5_together ∈ wsA := wsA_mk 919 (by decide +kernel) rfl
theorem wd_920 : Cond.code yX5_together cX5_together 3 (some .int) ∈ wsA := wsA_mk 920 (by decide +kernel) rfl
theorem wd_921 : Cond.methodLink RX5 205 yX5_areThere ∈ wsA := wsA_mk 921 (by decide +kernel) rfl
theorem wd_923 : Cond.instanceMethod yX5_areThere ∈ wsA := wsA_mk 923 (by decide +kernel) rfl
theorem wd_924 : Cond.code yX5_areThere cX5_areThere 2 (some .boolean) ∈ wsA := wsA_mk 924 (by decide +kernel) rfl
theorem wd_925 : Cond.methodLink RL 73 yX5_coated ∈ wsA := wsA_mk 925 (by decide +kernel) rfl
theorem wd_926 : Cond.instanceMethod yX5_coated ∈ wsA := wsA_mk 926 (by decide +kernel) rfl
theorem wd_927 : Cond.selects RX5 yX5_coated yX5_coated ∈ wsA := wsA_mk 927 (by decide +kernel) rfl
theorem wd_928 : Cond.code yX5_coated cX5_coated 3 (some .int) ∈ wsA := wsA_mk 928 (by decide +kernel) rfl
theorem wd_929 : Cond.methodLink RL 77 yX5_letgo ∈ wsA := wsA_mk 929 (by decide +kernel) rfl
theorem wd_930 : Cond.instanceMethod yX5_letgo ∈ wsA := wsA_mk 930 (by decide +kernel) rfl
theorem wd_931 : Cond.selects RX5 yX5_letgo yX5_letgo ∈ wsA := wsA_mk 931 (by decide +kernel) rfl
theorem wd_932 : Cond.code yX5_letgo cX5_letgo 3 (some .int) ∈ wsA := wsA_mk 932 (by decide +kernel) rfl
theorem wd_933 : Cond.methodLink RL 81 yX5_stoves ∈ wsA := wsA_mk 933 (by decide +kernel) rfl
theorem wd_934 : Cond.instanceMethod yX5_stoves ∈ wsA := wsA_mk 934 (by decide +kernel) rfl
theorem wd_935 : Cond.selects RX5 yX5_stoves yX5_stoves ∈ wsA := wsA_mk 935 (by decide +kernel) rfl
theorem wd_936 : Cond.code yX5_stoves cX5_stoves 7 (some .int) ∈ wsA := wsA_mk 936 (by decide +kernel) rfl
theorem wd_937 : Cond.methodLink RL 85 yX5_reading ∈ wsA := wsA_mk 937 (by decide +kernel) rfl
theorem wd_938 : Cond.instanceMethod yX5_reading ∈ wsA := wsA_mk 938 (by decide +kernel) rfl
theorem wd_939 : Cond.selects RX5 yX5_reading yX5_reading ∈ wsA := wsA_mk 939 (by decide +kernel) rfl
theorem wd_940 : Cond.code yX5_reading cX5_reading 4 (some .int) ∈ wsA := wsA_mk 940 (by decide +kernel) rfl
theorem wd_941 : Cond.methodLink RL 89 yX5_back ∈ wsA := wsA_mk 941 (by decide +kernel) rfl
theorem wd_942 : Cond.instanceMethod yX5_back ∈ wsA := wsA_mk 942 (by decide +kernel) rfl
theorem wd_943 : Cond.selects RX5 yX5_back yX5_back ∈ wsA := wsA_mk 943 (by decide +kernel) rfl
theorem wd_944 : Cond.code yX5_back cX5_back 2 (some .int) ∈ wsA := wsA_mk 944 (by decide +kernel) rfl
theorem wd_945 : Cond.methodLink RL 93 yX5_coats ∈ wsA := wsA_mk 945 (by decide +kernel) rfl
theorem wd_946 : Cond.instanceMethod yX5_coats ∈ wsA := wsA_mk 946 (by decide +kernel) rfl
theorem wd_947 : Cond.selects RX5 yX5_coats yX5_coats ∈ wsA := wsA_mk 947 (by decide +kernel) rfl
theorem wd_948 : Cond.code yX5_coats cX5_coats 5 (some .int) ∈ wsA := wsA_mk 948 (by decide +kernel) rfl
theorem wd_949 : Cond.methodLink RX5 214 yX5_areSo ∈ wsA := wsA_mk 949 (by decide +kernel) rfl
theorem wd_951 : Cond.instanceMethod yX5_areSo ∈ wsA := wsA_mk 951 (by decide +kernel) rfl
theorem wd_952 : Cond.code yX5_areSo cX5_areSo 2 (some .boolean) ∈ wsA := wsA_mk 952 (by decide +kernel) rfl
theorem wd_953 : Cond.methodLink RL 97 yX5_kinds ∈ wsA := wsA_mk 953 (by decide +kernel) rfl
theorem wd_954 : Cond.instanceMethod yX5_kinds ∈ wsA := wsA_mk 954 (by decide +kernel) rfl
theorem wd_955 : Cond.selects RX5 yX5_kinds yX5_kinds ∈ wsA := wsA_mk 955 (by decide +kernel) rfl
theorem wd_956 : Cond.code yX5_kinds cX5_kinds 5 (some .int) ∈ wsA := wsA_mk 956 (by decide +kernel) rfl
theorem wd_957 : Cond.methodLink RL 101 yX5_frosts ∈ wsA := wsA_mk 957 (by decide +kernel) rfl
theorem wd_958 : Cond.instanceMethod yX5_frosts ∈ wsA := wsA_mk 958 (by decide +kernel) rfl
theorem wd_959 : Cond.selects RX5 yX5_frosts yX5_frosts ∈ wsA := wsA_mk 959 (by decide +kernel) rfl
theorem wd_960 : Cond.code yX5_frosts cX5_frosts 5 (some .int) ∈ wsA := wsA_mk 960 (by decide +kernel) rfl
theorem wd_961 : Cond.methodLink RL 106 yX5_odds ∈ wsA := wsA_mk 961 (by decide +kernel) rfl
theorem wd_962 : Cond.instanceMethod yX5_odds ∈ wsA := wsA_mk 962 (by decide +kernel) rfl
theorem wd_963 : Cond.selects RX5 yX5_odds yX5_odds ∈ wsA := wsA_mk 963 (by decide +kernel) rfl
theorem wd_964 : Cond.code yX5_odds cX5_odds 9 (some .long) ∈ wsA := wsA_mk 964 (by decide +kernel) rfl
theorem wd_965 : Cond.constantLong RX5 65 (-9223372036854775808 : Int64) ∈ wsA := wsA_mk 965 (by decide +kernel) rfl
theorem wd_966 : Cond.methodLink RX5 218 yX5_inLeastTerms ∈ wsA := wsA_mk 966 (by decide +kernel) rfl
theorem wd_967 : Cond.static yX5_inLeastTerms ∈ wsA := wsA_mk 967 (by decide +kernel) rfl
theorem wd_968 : Cond.code yX5_inLeastTerms cX5_inLeastTerms 11 (some .long) ∈ wsA := wsA_mk 968 (by decide +kernel) rfl
theorem wd_969 : Cond.methodLink RL 110 yX5_sheet ∈ wsA := wsA_mk 969 (by decide +kernel) rfl
theorem wd_970 : Cond.instanceMethod yX5_sheet ∈ wsA := wsA_mk 970 (by decide +kernel) rfl
theorem wd_971 : Cond.selects RX5 yX5_sheet yX5_sheet ∈ wsA := wsA_mk 971 (by decide +kernel) rfl
theorem wd_972 : Cond.code yX5_sheet cX5_sheet 5 (some .int) ∈ wsA := wsA_mk 972 (by decide +kernel) rfl
theorem wd_973 : Cond.methodLink RL 114 yX5_lose ∈ wsA := wsA_mk 973 (by decide +kernel) rfl
theorem wd_974 : Cond.instanceMethod yX5_lose ∈ wsA := wsA_mk 974 (by decide +kernel) rfl
theorem wd_975 : Cond.selects RX5 yX5_lose yX5_lose ∈ wsA := wsA_mk 975 (by decide +kernel) rfl
theorem wd_976 : Cond.code yX5_lose cX5_lose 3 (some .int) ∈ wsA := wsA_mk 976 (by decide +kernel) rfl
theorem wd_977 : Cond.methodLink RL 118 yX5_put ∈ wsA := wsA_mk 977 (by decide +kernel) rfl
theorem wd_978 : Cond.instanceMethod yX5_put ∈ wsA := wsA_mk 978 (by decide +kernel) rfl
theorem wd_979 : Cond.selects RX5 yX5_put yX5_put ∈ wsA := wsA_mk 979 (by decide +kernel) rfl
theorem wd_980 : Cond.code yX5_put cX5_put 4 (some .int) ∈ wsA := wsA_mk 980 (by decide +kernel) rfl
theorem wd_981 : Cond.methodLink RL 122 yX5_cell ∈ wsA := wsA_mk 981 (by decide +kernel) rfl
theorem wd_982 : Cond.instanceMethod yX5_cell ∈ wsA := wsA_mk 982 (by decide +kernel) rfl
theorem wd_983 : Cond.selects RX5 yX5_cell yX5_cell ∈ wsA := wsA_mk 983 (by decide +kernel) rfl
theorem wd_984 : Cond.code yX5_cell cX5_cell 4 (some .long) ∈ wsA := wsA_mk 984 (by decide +kernel) rfl
theorem wd_985 : Cond.methodLink RX5 222 yX5_lost ∈ wsA := wsA_mk 985 (by decide +kernel) rfl
theorem wd_987 : Cond.instanceMethod yX5_lost ∈ wsA := wsA_mk 987 (by decide +kernel) rfl
theorem wd_988 : Cond.code yX5_lost cX5_lost 2 (some .long) ∈ wsA := wsA_mk 988 (by decide +kernel) rfl
theorem wd_989 : Cond.methodLink RL 126 yX5_copy ∈ wsA := wsA_mk 989 (by decide +kernel) rfl
theorem wd_990 : Cond.instanceMethod yX5_copy ∈ wsA := wsA_mk 990 (by decide +kernel) rfl
theorem wd_991 : Cond.selects RX5 yX5_copy yX5_copy ∈ wsA := wsA_mk 991 (by decide +kernel) rfl
theorem wd_992 : Cond.code yX5_copy cX5_copy 10 (some .int) ∈ wsA := wsA_mk 992 (by decide +kernel) rfl
theorem wd_993 : Cond.methodLink RL 130 yX5_tell ∈ wsA := wsA_mk 993 (by decide +kernel) rfl
theorem wd_994 : Cond.instanceMethod yX5_tell ∈ wsA := wsA_mk 994 (by decide +kernel) rfl
theorem wd_995 : Cond.selects RX5 yX5_tell yX5_tell ∈ wsA := wsA_mk 995 (by decide +kernel) rfl
theorem wd_996 : Cond.code yX5_tell cX5_tell 3 (some .int) ∈ wsA := wsA_mk 996 (by decide +kernel) rfl
theorem wd_997 : Cond.methodLink RX5 229 yX5_begins ∈ wsA := wsA_mk 997 (by decide +kernel) rfl
theorem wd_999 : Cond.instanceMethod yX5_begins ∈ wsA := wsA_mk 999 (by decide +kernel) rfl
theorem wd_1000 : Cond.code yX5_begins cX5_begins 2 none ∈ wsA := wsA_mk 1000 (by decide +kernel) rfl
theorem wd_1001 : Cond.methodLink RL 134 yX5_pinch ∈ wsA := wsA_mk 1001 (by decide +kernel) rfl
theorem wd_1002 : Cond.instanceMethod yX5_pinch ∈ wsA := wsA_mk 1002 (by decide +kernel) rfl
theorem wd_1003 : Cond.selects RX5 yX5_pinch yX5_pinch ∈ wsA := wsA_mk 1003 (by decide +kernel) rfl
theorem wd_1004 : Cond.code yX5_pinch cX5_pinch 2 (some .int) ∈ wsA := wsA_mk 1004 (by decide +kernel) rfl
theorem wd_1005 : Cond.methodLink RL 138 yX5_as ∈ wsA := wsA_mk 1005 (by decide +kernel) rfl
theorem wd_1006 : Cond.instanceMethod yX5_as ∈ wsA := wsA_mk 1006 (by decide +kernel) rfl
theorem wd_1007 : Cond.selects RX5 yX5_as yX5_as ∈ wsA := wsA_mk 1007 (by decide +kernel) rfl
theorem wd_1008 : Cond.code yX5_as cX5_as 3 (some .int) ∈ wsA := wsA_mk 1008 (by decide +kernel) rfl
theorem wd_1009 : Cond.methodLink RL 143 yX5_trace ∈ wsA := wsA_mk 1009 (by decide +kernel) rfl
theorem wd_1010 : Cond.instanceMethod yX5_trace ∈ wsA := wsA_mk 1010 (by decide +kernel) rfl
theorem wd_1011 : Cond.selects RX5 yX5_trace yX5_trace ∈ wsA := wsA_mk 1011 (by decide +kernel) rfl
theorem wd_1012 : Cond.code yX5_trace cX5_trace 1 (some .int) ∈ wsA := wsA_mk 1012 (by decide +kernel) rfl
theorem wd_1013 : Cond.methodLink RL 147 yX5_fault ∈ wsA := wsA_mk 1013 (by decide +kernel) rfl
theorem wd_1014 : Cond.instanceMethod yX5_fault ∈ wsA := wsA_mk 1014 (by decide +kernel) rfl
theorem wd_1015 : Cond.selects RX5 yX5_fault yX5_fault ∈ wsA := wsA_mk 1015 (by decide +kernel) rfl
theorem wd_1016 : Cond.code yX5_fault cX5_fault 1 (some .int) ∈ wsA := wsA_mk 1016 (by decide +kernel) rfl
theorem wd_1017 : Cond.methodLink RL 151 yX5_many ∈ wsA := wsA_mk 1017 (by decide +kernel) rfl
theorem wd_1018 : Cond.instanceMethod yX5_many ∈ wsA := wsA_mk 1018 (by decide +kernel) rfl
theorem wd_1019 : Cond.selects RX5 yX5_many yX5_many ∈ wsA := wsA_mk 1019 (by decide +kernel) rfl
theorem wd_1020 : Cond.code yX5_many cX5_many 2 (some .int) ∈ wsA := wsA_mk 1020 (by decide +kernel) rfl
theorem inA0 : ∀ w ∈ wsX00, w ∈ wsA := fun w h => List.mem_filter.mpr (show w ∈ lw_tbl ∧ goodWord w = true from by
  have hp : wsX00 = [132, 134, 136, 138, 140, 142, 144, 146, 148, 150, 152].filterMap (fun i => lw_tbl[i]?) := by decide +kernel
  have hg : wsX00.all goodWord = true := by decide +kernel
  refine ⟨?_, List.all_eq_true.mp hg w h⟩
  rw [hp] at h
  obtain ⟨i, -, hi⟩ := List.mem_filterMap.mp h
  exact List.mem_of_getElem? hi)
theorem inA1 : ∀ w ∈ wsX10, w ∈ wsA := fun w h => List.mem_filter.mpr (show w ∈ lw_tbl ∧ goodWord w = true from by
  have hp : wsX10 = [166, 168, 170, 172].filterMap (fun i => lw_tbl[i]?) := by decide +kernel
  have hg : wsX10.all goodWord = true := by decide +kernel
  refine ⟨?_, List.all_eq_true.mp hg w h⟩
  rw [hp] at h
  obtain ⟨i, -, hi⟩ := List.mem_filterMap.mp h
  exact List.mem_of_getElem? hi)
theorem inA2 : ∀ w ∈ wsX20, w ∈ wsA := fun w h => List.mem_filter.mpr (show w ∈ lw_tbl ∧ goodWord w = true from by
  have hp : wsX20 = [186, 188, 190, 192].filterMap (fun i => lw_tbl[i]?) := by decide +kernel
  have hg : wsX20.all goodWord = true := by decide +kernel
  refine ⟨?_, List.all_eq_true.mp hg w h⟩
  rw [hp] at h
  obtain ⟨i, -, hi⟩ := List.mem_filterMap.mp h
  exact List.mem_of_getElem? hi)
theorem inA3 : ∀ w ∈ wsX30, w ∈ wsA := fun w h => List.mem_filter.mpr (show w ∈ lw_tbl ∧ goodWord w = true from by
  have hp : wsX30 = [92, 94, 96, 98].filterMap (fun i => lw_tbl[i]?) := by decide +kernel
  have hg : wsX30.all goodWord = true := by decide +kernel
  refine ⟨?_, List.all_eq_true.mp hg w h⟩
  rw [hp] at h
  obtain ⟨i, -, hi⟩ := List.mem_filterMap.mp h
  exact List.mem_of_getElem? hi)
theorem inA4 : ∀ w ∈ wsX40, w ∈ wsA := fun w h => List.mem_filter.mpr (show w ∈ lw_tbl ∧ goodWord w = true from by
  have hp : wsX40 = [203, 205, 207, 209, 211, 213, 215].filterMap (fun i => lw_tbl[i]?) := by decide +kernel
  have hg : wsX40.all goodWord = true := by decide +kernel
  refine ⟨?_, List.all_eq_true.mp hg w h⟩
  rw [hp] at h
  obtain ⟨i, -, hi⟩ := List.mem_filterMap.mp h
  exact List.mem_of_getElem? hi)
theorem inA5 : ∀ w ∈ wsX50, w ∈ wsA := fun w h => List.mem_filter.mpr (show w ∈ lw_tbl ∧ goodWord w = true from by
  have hp : wsX50 = [674, 676, 678, 680, 682, 684, 686, 688, 690, 692, 694, 696, 698, 700, 702, 704, 706, 708, 710, 712, 714, 716, 718, 720, 722, 724, 726, 728].filterMap (fun i => lw_tbl[i]?) := by decide +kernel
  have hg : wsX50.all goodWord = true := by decide +kernel
  refine ⟨?_, List.all_eq_true.mp hg w h⟩
  rw [hp] at h
  obtain ⟨i, -, hi⟩ := List.mem_filterMap.mp h
  exact List.mem_of_getElem? hi)
end
section
/-! ===== the state of the class and of the reference: numbers by cell and slot, rows by cell ===== -/
abbrev SX : Type := (Nat → Nat → Int32) × (Nat → Nat → Int32)
def gF (σ : SX) (b k : Nat) : Int32 := σ.1 b k
def gR (σ : SX) (b : Nat) : Nat → Int32 := σ.2 b
def sF (σ : SX) (b k : Nat) (v : Int32) : SX := (fun c j => cond (Nat.beq c b && Nat.beq j k) v (σ.1 c j), σ.2)
def sR (σ : SX) (b : Nat) (f : Nat → Int32) : SX := (σ.1, fun c => cond (Nat.beq c b) f (σ.2 c))
/-- which cells are days, which are sheets -/
def isDy (b : Nat) : Prop := b = 10 ∨ b = 17
def isSh (b : Nat) : Prop := b = 2 ∨ b = 4 ∨ b = 6 ∨ b = 8
theorem isDy_now : isDy 10 := Or.inl rfl
theorem isDy_draft : isDy 17 := Or.inr rfl
theorem isSh_of {i : Int32} (h : vp_in i 4) : isSh (2 + 2 * i.toNatClampNeg) := by
  have hlt : i.toNatClampNeg < 4 := Nat.not_le.mp fun q => h (Or.inr q)
  unfold isSh; omega
def WX (cI cZ cS : ClassId) (ad : Nat → Nat) (ro : Option Nat) (σ : SX) : va_W := [
  (ad 0, .inr (4, [.ref (ad 1), .ref (ad 10), .ref (ad 17), .ref (ad 24), .ref (ad 25), .int (gF σ 0 5), .int (gF σ 0 6)])),
  (ad 1, .inl (cS, 4, .inr (.inr (.inr (.inr (fun k => some (ad (2 + 2 * k)))))))),
  (ad 2, .inr (3, [.int (gF σ 2 0), .int (gF σ 2 1), .ref (ad 3), .int (gF σ 2 3)])),
  (ad 3, .inl (cI, 60, .inl (gR σ 3))),
  (ad 4, .inr (3, [.int (gF σ 4 0), .int (gF σ 4 1), .ref (ad 5), .int (gF σ 4 3)])),
  (ad 5, .inl (cI, 60, .inl (gR σ 5))),
  (ad 6, .inr (3, [.int (gF σ 6 0), .int (gF σ 6 1), .ref (ad 7), .int (gF σ 6 3)])),
  (ad 7, .inl (cI, 60, .inl (gR σ 7))),
  (ad 8, .inr (3, [.int (gF σ 8 0), .int (gF σ 8 1), .ref (ad 9), .int (gF σ 8 3)])),
  (ad 9, .inl (cI, 60, .inl (gR σ 9))),
  (ad 10, .inr (0, [.int (gF σ 10 0), .int (gF σ 10 1), .int (gF σ 10 2), .int (gF σ 10 3), .int (gF σ 10 4), .ref (ad 11), .ref (ad 12), .ref (ad 13), .ref (ad 14), .ref (ad 15), .ref (ad 16)])),
  (ad 11, .inl (cI, 6, .inl (gR σ 11))),
  (ad 12, .inl (cI, 4, .inl (gR σ 12))),
  (ad 13, .inl (cI, 4, .inl (gR σ 13))),
  (ad 14, .inl (cI, 6, .inl (gR σ 14))),
  (ad 15, .inl (cI, 6, .inl (gR σ 15))),
  (ad 16, .inl (cI, 6, .inl (gR σ 16))),
  (ad 17, .inr (0, [.int (gF σ 17 0), .int (gF σ 17 1), .int (gF σ 17 2), .int (gF σ 17 3), .int (gF σ 17 4), .ref (ad 18), .ref (ad 19), .ref (ad 20), .ref (ad 21), .ref (ad 22), .ref (ad 23)])),
  (ad 18, .inl (cI, 6, .inl (gR σ 18))),
  (ad 19, .inl (cI, 4, .inl (gR σ 19))),
  (ad 20, .inl (cI, 4, .inl (gR σ 20))),
  (ad 21, .inl (cI, 6, .inl (gR σ 21))),
  (ad 22, .inl (cI, 6, .inl (gR σ 22))),
  (ad 23, .inl (cI, 6, .inl (gR σ 23))),
  (ad 24, .inr (1, [.int (gF σ 24 0), va_rf (ro.map ad), .int (gF σ 24 2), .int (gF σ 24 3)])),
  (ad 25, .inr (2, [.int (gF σ 25 0), .ref (ad 26), .ref (ad 27), .ref (ad 28)])),
  (ad 26, .inl (cI, 8, .inl (gR σ 26))),
  (ad 27, .inl (cI, 8, .inl (gR σ 27))),
  (ad 28, .inl (cZ, 8, .inl (gR σ 28)))]
def WM (cI : ClassId) (am : Nat → Nat) (σ : SX) : va_W := [
  (am 0, .inr (5, [.int (gF σ 0 0), .int (gF σ 0 1), .ref (am 1), .ref (am 2), .ref (am 3), .int (gF σ 0 5), .int (gF σ 0 6), .int (gF σ 0 7), .int (gF σ 0 8), .int (gF σ 0 9), .ref (am 4), .ref (am 5), .ref (am 6), .ref (am 7), .ref (am 8), .ref (am 9), .int (gF σ 0 16), .int (gF σ 0 17), .int (gF σ 0 18), .int (gF σ 0 19), .ref (am 10), .ref (am 11), .ref (am 12), .ref (am 13), .int (gF σ 0 24), .ref (am 14), .ref (am 15), .ref (am 16)])),
  (am 1, .inl (cI, 4, .inl (gR σ 1))),
  (am 2, .inl (cI, 4, .inl (gR σ 2))),
  (am 3, .inl (cI, 240, .inl (gR σ 3))),
  (am 4, .inl (cI, 6, .inl (gR σ 4))),
  (am 5, .inl (cI, 4, .inl (gR σ 5))),
  (am 6, .inl (cI, 4, .inl (gR σ 6))),
  (am 7, .inl (cI, 6, .inl (gR σ 7))),
  (am 8, .inl (cI, 6, .inl (gR σ 8))),
  (am 9, .inl (cI, 6, .inl (gR σ 9))),
  (am 10, .inl (cI, 6, .inl (gR σ 10))),
  (am 11, .inl (cI, 8, .inl (gR σ 11))),
  (am 12, .inl (cI, 18, .inl (gR σ 12))),
  (am 13, .inl (cI, 31, .inl (gR σ 13))),
  (am 14, .inl (cI, 8, .inl (gR σ 14))),
  (am 15, .inl (cI, 8, .inl (gR σ 15))),
  (am 16, .inl (cI, 8, .inl (gR σ 16)))]
theorem xO {cI cZ cS : ClassId} {ad : Nat → Nat} {ro : Option Nat} {σ : SX} : (WX cI cZ cS ad ro σ)[0]? = some (ad 0, .inr (4, [.ref (ad 1), .ref (ad 10), .ref (ad 17), .ref (ad 24), .ref (ad 25), .int (gF σ 0 5), .int (gF σ 0 6)])) := rfl
theorem xO_5 {cI cZ cS : ClassId} {ad : Nat → Nat} {ro : Option Nat} {σ : SX} {v : Int32} : (WX cI cZ cS ad ro σ).set 0 (ad 0, .inr (4, [.ref (ad 1), .ref (ad 10), .ref (ad 17), .ref (ad 24), .ref (ad 25), .int v, .int (gF σ 0 6)])) = WX cI cZ cS ad ro (sF σ 0 5 v) := rfl
theorem xO_6 {cI cZ cS : ClassId} {ad : Nat → Nat} {ro : Option Nat} {σ : SX} {v : Int32} : (WX cI cZ cS ad ro σ).set 0 (ad 0, .inr (4, [.ref (ad 1), .ref (ad 10), .ref (ad 17), .ref (ad 24), .ref (ad 25), .int (gF σ 0 5), .int v])) = WX cI cZ cS ad ro (sF σ 0 6 v) := rfl
theorem xA {cI cZ cS : ClassId} {ad : Nat → Nat} {ro : Option Nat} {σ : SX} : (WX cI cZ cS ad ro σ)[1]? = some (ad 1, .inl (cS, 4, .inr (.inr (.inr (.inr (fun k => some (ad (2 + 2 * k)))))))) := rfl
theorem xS {cI cZ cS : ClassId} {ad : Nat → Nat} {ro : Option Nat} {σ : SX} {b : Nat} (hb : isSh b) : (WX cI cZ cS ad ro σ)[b]? = some (ad b, .inr (3, [.int (gF σ b 0), .int (gF σ b 1), .ref (ad (b + 1)), .int (gF σ b 3)])) := by rcases hb with rfl | rfl | rfl | rfl <;> rfl
theorem xS_0 {cI cZ cS : ClassId} {ad : Nat → Nat} {ro : Option Nat} {σ : SX} {b : Nat} {v : Int32} (hb : isSh b) : (WX cI cZ cS ad ro σ).set b (ad b, .inr (3, [.int v, .int (gF σ b 1), .ref (ad (b + 1)), .int (gF σ b 3)])) = WX cI cZ cS ad ro (sF σ b 0 v) := by rcases hb with rfl | rfl | rfl | rfl <;> rfl
theorem xS_1 {cI cZ cS : ClassId} {ad : Nat → Nat} {ro : Option Nat} {σ : SX} {b : Nat} {v : Int32} (hb : isSh b) : (WX cI cZ cS ad ro σ).set b (ad b, .inr (3, [.int (gF σ b 0), .int v, .ref (ad (b + 1)), .int (gF σ b 3)])) = WX cI cZ cS ad ro (sF σ b 1 v) := by rcases hb with rfl | rfl | rfl | rfl <;> rfl
theorem xS_3 {cI cZ cS : ClassId} {ad : Nat → Nat} {ro : Option Nat} {σ : SX} {b : Nat} {v : Int32} (hb : isSh b) : (WX cI cZ cS ad ro σ).set b (ad b, .inr (3, [.int (gF σ b 0), .int (gF σ b 1), .ref (ad (b + 1)), .int v])) = WX cI cZ cS ad ro (sF σ b 3 v) := by rcases hb with rfl | rfl | rfl | rfl <;> rfl
theorem xSc {cI cZ cS : ClassId} {ad : Nat → Nat} {ro : Option Nat} {σ : SX} {b : Nat} (hb : isSh b) : (WX cI cZ cS ad ro σ)[b + 1]? = some (ad (b + 1), .inl (cI, 60, .inl (gR σ (b + 1)))) := by rcases hb with rfl | rfl | rfl | rfl <;> rfl
theorem xSc_s {cI cZ cS : ClassId} {ad : Nat → Nat} {ro : Option Nat} {σ : SX} {b : Nat} {f : Nat → Int32} (hb : isSh b) : (WX cI cZ cS ad ro σ).set (b + 1) (ad (b + 1), .inl (cI, 60, .inl f)) = WX cI cZ cS ad ro (sR σ (b + 1) f) := by rcases hb with rfl | rfl | rfl | rfl <;> rfl
theorem xD {cI cZ cS : ClassId} {ad : Nat → Nat} {ro : Option Nat} {σ : SX} {b : Nat} (hb : isDy b) : (WX cI cZ cS ad ro σ)[b]? = some (ad b, .inr (0, [.int (gF σ b 0), .int (gF σ b 1), .int (gF σ b 2), .int (gF σ b 3), .int (gF σ b 4), .ref (ad (b + 1)), .ref (ad (b + 2)), .ref (ad (b + 3)), .ref (ad (b + 4)), .ref (ad (b + 5)), .ref (ad (b + 6))])) := by rcases hb with rfl | rfl <;> rfl
theorem xD_0 {cI cZ cS : ClassId} {ad : Nat → Nat} {ro : Option Nat} {σ : SX} {b : Nat} {v : Int32} (hb : isDy b) : (WX cI cZ cS ad ro σ).set b (ad b, .inr (0, [.int v, .int (gF σ b 1), .int (gF σ b 2), .int (gF σ b 3), .int (gF σ b 4), .ref (ad (b + 1)), .ref (ad (b + 2)), .ref (ad (b + 3)), .ref (ad (b + 4)), .ref (ad (b + 5)), .ref (ad (b + 6))])) = WX cI cZ cS ad ro (sF σ b 0 v) := by rcases hb with rfl | rfl <;> rfl
theorem xD_1 {cI cZ cS : ClassId} {ad : Nat → Nat} {ro : Option Nat} {σ : SX} {b : Nat} {v : Int32} (hb : isDy b) : (WX cI cZ cS ad ro σ).set b (ad b, .inr (0, [.int (gF σ b 0), .int v, .int (gF σ b 2), .int (gF σ b 3), .int (gF σ b 4), .ref (ad (b + 1)), .ref (ad (b + 2)), .ref (ad (b + 3)), .ref (ad (b + 4)), .ref (ad (b + 5)), .ref (ad (b + 6))])) = WX cI cZ cS ad ro (sF σ b 1 v) := by rcases hb with rfl | rfl <;> rfl
theorem xD_2 {cI cZ cS : ClassId} {ad : Nat → Nat} {ro : Option Nat} {σ : SX} {b : Nat} {v : Int32} (hb : isDy b) : (WX cI cZ cS ad ro σ).set b (ad b, .inr (0, [.int (gF σ b 0), .int (gF σ b 1), .int v, .int (gF σ b 3), .int (gF σ b 4), .ref (ad (b + 1)), .ref (ad (b + 2)), .ref (ad (b + 3)), .ref (ad (b + 4)), .ref (ad (b + 5)), .ref (ad (b + 6))])) = WX cI cZ cS ad ro (sF σ b 2 v) := by rcases hb with rfl | rfl <;> rfl
theorem xD_3 {cI cZ cS : ClassId} {ad : Nat → Nat} {ro : Option Nat} {σ : SX} {b : Nat} {v : Int32} (hb : isDy b) : (WX cI cZ cS ad ro σ).set b (ad b, .inr (0, [.int (gF σ b 0), .int (gF σ b 1), .int (gF σ b 2), .int v, .int (gF σ b 4), .ref (ad (b + 1)), .ref (ad (b + 2)), .ref (ad (b + 3)), .ref (ad (b + 4)), .ref (ad (b + 5)), .ref (ad (b + 6))])) = WX cI cZ cS ad ro (sF σ b 3 v) := by rcases hb with rfl | rfl <;> rfl
theorem xD_4 {cI cZ cS : ClassId} {ad : Nat → Nat} {ro : Option Nat} {σ : SX} {b : Nat} {v : Int32} (hb : isDy b) : (WX cI cZ cS ad ro σ).set b (ad b, .inr (0, [.int (gF σ b 0), .int (gF σ b 1), .int (gF σ b 2), .int (gF σ b 3), .int v, .ref (ad (b + 1)), .ref (ad (b + 2)), .ref (ad (b + 3)), .ref (ad (b + 4)), .ref (ad (b + 5)), .ref (ad (b + 6))])) = WX cI cZ cS ad ro (sF σ b 4 v) := by rcases hb with rfl | rfl <;> rfl
theorem xDr1 {cI cZ cS : ClassId} {ad : Nat → Nat} {ro : Option Nat} {σ : SX} {b : Nat} (hb : isDy b) : (WX cI cZ cS ad ro σ)[b + 1]? = some (ad (b + 1), .inl (cI, 6, .inl (gR σ (b + 1)))) := by rcases hb with rfl | rfl <;> rfl
theorem xDr1_s {cI cZ cS : ClassId} {ad : Nat → Nat} {ro : Option Nat} {σ : SX} {b : Nat} {f : Nat → Int32} (hb : isDy b) : (WX cI cZ cS ad ro σ).set (b + 1) (ad (b + 1), .inl (cI, 6, .inl f)) = WX cI cZ cS ad ro (sR σ (b + 1) f) := by rcases hb with rfl | rfl <;> rfl
theorem xDr2 {cI cZ cS : ClassId} {ad : Nat → Nat} {ro : Option Nat} {σ : SX} {b : Nat} (hb : isDy b) : (WX cI cZ cS ad ro σ)[b + 2]? = some (ad (b + 2), .inl (cI, 4, .inl (gR σ (b + 2)))) := by rcases hb with rfl | rfl <;> rfl
theorem xDr2_s {cI cZ cS : ClassId} {ad : Nat → Nat} {ro : Option Nat} {σ : SX} {b : Nat} {f : Nat → Int32} (hb : isDy b) : (WX cI cZ cS ad ro σ).set (b + 2) (ad (b + 2), .inl (cI, 4, .inl f)) = WX cI cZ cS ad ro (sR σ (b + 2) f) := by rcases hb with rfl | rfl <;> rfl
theorem xDr3 {cI cZ cS : ClassId} {ad : Nat → Nat} {ro : Option Nat} {σ : SX} {b : Nat} (hb : isDy b) : (WX cI cZ cS ad ro σ)[b + 3]? = some (ad (b + 3), .inl (cI, 4, .inl (gR σ (b + 3)))) := by rcases hb with rfl | rfl <;> rfl
theorem xDr3_s {cI cZ cS : ClassId} {ad : Nat → Nat} {ro : Option Nat} {σ : SX} {b : Nat} {f : Nat → Int32} (hb : isDy b) : (WX cI cZ cS ad ro σ).set (b + 3) (ad (b + 3), .inl (cI, 4, .inl f)) = WX cI cZ cS ad ro (sR σ (b + 3) f) := by rcases hb with rfl | rfl <;> rfl
theorem xDr4 {cI cZ cS : ClassId} {ad : Nat → Nat} {ro : Option Nat} {σ : SX} {b : Nat} (hb : isDy b) : (WX cI cZ cS ad ro σ)[b + 4]? = some (ad (b + 4), .inl (cI, 6, .inl (gR σ (b + 4)))) := by rcases hb with rfl | rfl <;> rfl
theorem xDr4_s {cI cZ cS : ClassId} {ad : Nat → Nat} {ro : Option Nat} {σ : SX} {b : Nat} {f : Nat → Int32} (hb : isDy b) : (WX cI cZ cS ad ro σ).set (b + 4) (ad (b + 4), .inl (cI, 6, .inl f)) = WX cI cZ cS ad ro (sR σ (b + 4) f) := by rcases hb with rfl | rfl <;> rfl
theorem xDr5 {cI cZ cS : ClassId} {ad : Nat → Nat} {ro : Option Nat} {σ : SX} {b : Nat} (hb : isDy b) : (WX cI cZ cS ad ro σ)[b + 5]? = some (ad (b + 5), .inl (cI, 6, .inl (gR σ (b + 5)))) := by rcases hb with rfl | rfl <;> rfl
theorem xDr5_s {cI cZ cS : ClassId} {ad : Nat → Nat} {ro : Option Nat} {σ : SX} {b : Nat} {f : Nat → Int32} (hb : isDy b) : (WX cI cZ cS ad ro σ).set (b + 5) (ad (b + 5), .inl (cI, 6, .inl f)) = WX cI cZ cS ad ro (sR σ (b + 5) f) := by rcases hb with rfl | rfl <;> rfl
theorem xDr6 {cI cZ cS : ClassId} {ad : Nat → Nat} {ro : Option Nat} {σ : SX} {b : Nat} (hb : isDy b) : (WX cI cZ cS ad ro σ)[b + 6]? = some (ad (b + 6), .inl (cI, 6, .inl (gR σ (b + 6)))) := by rcases hb with rfl | rfl <;> rfl
theorem xDr6_s {cI cZ cS : ClassId} {ad : Nat → Nat} {ro : Option Nat} {σ : SX} {b : Nat} {f : Nat → Int32} (hb : isDy b) : (WX cI cZ cS ad ro σ).set (b + 6) (ad (b + 6), .inl (cI, 6, .inl f)) = WX cI cZ cS ad ro (sR σ (b + 6) f) := by rcases hb with rfl | rfl <;> rfl
theorem xR {cI cZ cS : ClassId} {ad : Nat → Nat} {ro : Option Nat} {σ : SX} : (WX cI cZ cS ad ro σ)[24]? = some (ad 24, .inr (1, [.int (gF σ 24 0), va_rf (ro.map ad), .int (gF σ 24 2), .int (gF σ 24 3)])) := rfl
theorem xR_0 {cI cZ cS : ClassId} {ad : Nat → Nat} {ro : Option Nat} {σ : SX} {v : Int32} : (WX cI cZ cS ad ro σ).set 24 (ad 24, .inr (1, [.int v, va_rf (ro.map ad), .int (gF σ 24 2), .int (gF σ 24 3)])) = WX cI cZ cS ad ro (sF σ 24 0 v) := rfl
theorem xR_2 {cI cZ cS : ClassId} {ad : Nat → Nat} {ro : Option Nat} {σ : SX} {v : Int32} : (WX cI cZ cS ad ro σ).set 24 (ad 24, .inr (1, [.int (gF σ 24 0), va_rf (ro.map ad), .int v, .int (gF σ 24 3)])) = WX cI cZ cS ad ro (sF σ 24 2 v) := rfl
theorem xR_3 {cI cZ cS : ClassId} {ad : Nat → Nat} {ro : Option Nat} {σ : SX} {v : Int32} : (WX cI cZ cS ad ro σ).set 24 (ad 24, .inr (1, [.int (gF σ 24 0), va_rf (ro.map ad), .int (gF σ 24 2), .int v])) = WX cI cZ cS ad ro (sF σ 24 3 v) := rfl
theorem xR_1 {cI cZ cS : ClassId} {ad : Nat → Nat} {ro : Option Nat} {σ : SX} {b : Nat} : (WX cI cZ cS ad ro σ).set 24 (ad 24, .inr (1, [.int (gF σ 24 0), .ref (ad b), .int (gF σ 24 2), .int (gF σ 24 3)])) = WX cI cZ cS ad (some b) σ := rfl
theorem xG {cI cZ cS : ClassId} {ad : Nat → Nat} {ro : Option Nat} {σ : SX} : (WX cI cZ cS ad ro σ)[25]? = some (ad 25, .inr (2, [.int (gF σ 25 0), .ref (ad 26), .ref (ad 27), .ref (ad 28)])) := rfl
theorem xG_0 {cI cZ cS : ClassId} {ad : Nat → Nat} {ro : Option Nat} {σ : SX} {v : Int32} : (WX cI cZ cS ad ro σ).set 25 (ad 25, .inr (2, [.int v, .ref (ad 26), .ref (ad 27), .ref (ad 28)])) = WX cI cZ cS ad ro (sF σ 25 0 v) := rfl
theorem xGr26 {cI cZ cS : ClassId} {ad : Nat → Nat} {ro : Option Nat} {σ : SX} : (WX cI cZ cS ad ro σ)[26]? = some (ad 26, .inl (cI, 8, .inl (gR σ 26))) := rfl
theorem xGr26_s {cI cZ cS : ClassId} {ad : Nat → Nat} {ro : Option Nat} {σ : SX} {f : Nat → Int32} : (WX cI cZ cS ad ro σ).set 26 (ad 26, .inl (cI, 8, .inl f)) = WX cI cZ cS ad ro (sR σ 26 f) := rfl
theorem xGr27 {cI cZ cS : ClassId} {ad : Nat → Nat} {ro : Option Nat} {σ : SX} : (WX cI cZ cS ad ro σ)[27]? = some (ad 27, .inl (cI, 8, .inl (gR σ 27))) := rfl
theorem xGr27_s {cI cZ cS : ClassId} {ad : Nat → Nat} {ro : Option Nat} {σ : SX} {f : Nat → Int32} : (WX cI cZ cS ad ro σ).set 27 (ad 27, .inl (cI, 8, .inl f)) = WX cI cZ cS ad ro (sR σ 27 f) := rfl
theorem xGr28 {cI cZ cS : ClassId} {ad : Nat → Nat} {ro : Option Nat} {σ : SX} : (WX cI cZ cS ad ro σ)[28]? = some (ad 28, .inl (cZ, 8, .inl (gR σ 28))) := rfl
theorem xGr28_s {cI cZ cS : ClassId} {ad : Nat → Nat} {ro : Option Nat} {σ : SX} {f : Nat → Int32} : (WX cI cZ cS ad ro σ).set 28 (ad 28, .inl (cZ, 8, .inl f)) = WX cI cZ cS ad ro (sR σ 28 f) := rfl
theorem mO {cI : ClassId} {am : Nat → Nat} {σ : SX} : (WM cI am σ)[0]? = some (am 0, .inr (5, [.int (gF σ 0 0), .int (gF σ 0 1), .ref (am 1), .ref (am 2), .ref (am 3), .int (gF σ 0 5), .int (gF σ 0 6), .int (gF σ 0 7), .int (gF σ 0 8), .int (gF σ 0 9), .ref (am 4), .ref (am 5), .ref (am 6), .ref (am 7), .ref (am 8), .ref (am 9), .int (gF σ 0 16), .int (gF σ 0 17), .int (gF σ 0 18), .int (gF σ 0 19), .ref (am 10), .ref (am 11), .ref (am 12), .ref (am 13), .int (gF σ 0 24), .ref (am 14), .ref (am 15), .ref (am 16)])) := rfl
theorem mO_0 {cI : ClassId} {am : Nat → Nat} {σ : SX} {v : Int32} : (WM cI am σ).set 0 (am 0, .inr (5, [.int v, .int (gF σ 0 1), .ref (am 1), .ref (am 2), .ref (am 3), .int (gF σ 0 5), .int (gF σ 0 6), .int (gF σ 0 7), .int (gF σ 0 8), .int (gF σ 0 9), .ref (am 4), .ref (am 5), .ref (am 6), .ref (am 7), .ref (am 8), .ref (am 9), .int (gF σ 0 16), .int (gF σ 0 17), .int (gF σ 0 18), .int (gF σ 0 19), .ref (am 10), .ref (am 11), .ref (am 12), .ref (am 13), .int (gF σ 0 24), .ref (am 14), .ref (am 15), .ref (am 16)])) = WM cI am (sF σ 0 0 v) := rfl
theorem mO_1 {cI : ClassId} {am : Nat → Nat} {σ : SX} {v : Int32} : (WM cI am σ).set 0 (am 0, .inr (5, [.int (gF σ 0 0), .int v, .ref (am 1), .ref (am 2), .ref (am 3), .int (gF σ 0 5), .int (gF σ 0 6), .int (gF σ 0 7), .int (gF σ 0 8), .int (gF σ 0 9), .ref (am 4), .ref (am 5), .ref (am 6), .ref (am 7), .ref (am 8), .ref (am 9), .int (gF σ 0 16), .int (gF σ 0 17), .int (gF σ 0 18), .int (gF σ 0 19), .ref (am 10), .ref (am 11), .ref (am 12), .ref (am 13), .int (gF σ 0 24), .ref (am 14), .ref (am 15), .ref (am 16)])) = WM cI am (sF σ 0 1 v) := rfl
theorem mO_5 {cI : ClassId} {am : Nat → Nat} {σ : SX} {v : Int32} : (WM cI am σ).set 0 (am 0, .inr (5, [.int (gF σ 0 0), .int (gF σ 0 1), .ref (am 1), .ref (am 2), .ref (am 3), .int v, .int (gF σ 0 6), .int (gF σ 0 7), .int (gF σ 0 8), .int (gF σ 0 9), .ref (am 4), .ref (am 5), .ref (am 6), .ref (am 7), .ref (am 8), .ref (am 9), .int (gF σ 0 16), .int (gF σ 0 17), .int (gF σ 0 18), .int (gF σ 0 19), .ref (am 10), .ref (am 11), .ref (am 12), .ref (am 13), .int (gF σ 0 24), .ref (am 14), .ref (am 15), .ref (am 16)])) = WM cI am (sF σ 0 5 v) := rfl
theorem mO_6 {cI : ClassId} {am : Nat → Nat} {σ : SX} {v : Int32} : (WM cI am σ).set 0 (am 0, .inr (5, [.int (gF σ 0 0), .int (gF σ 0 1), .ref (am 1), .ref (am 2), .ref (am 3), .int (gF σ 0 5), .int v, .int (gF σ 0 7), .int (gF σ 0 8), .int (gF σ 0 9), .ref (am 4), .ref (am 5), .ref (am 6), .ref (am 7), .ref (am 8), .ref (am 9), .int (gF σ 0 16), .int (gF σ 0 17), .int (gF σ 0 18), .int (gF σ 0 19), .ref (am 10), .ref (am 11), .ref (am 12), .ref (am 13), .int (gF σ 0 24), .ref (am 14), .ref (am 15), .ref (am 16)])) = WM cI am (sF σ 0 6 v) := rfl
theorem mO_7 {cI : ClassId} {am : Nat → Nat} {σ : SX} {v : Int32} : (WM cI am σ).set 0 (am 0, .inr (5, [.int (gF σ 0 0), .int (gF σ 0 1), .ref (am 1), .ref (am 2), .ref (am 3), .int (gF σ 0 5), .int (gF σ 0 6), .int v, .int (gF σ 0 8), .int (gF σ 0 9), .ref (am 4), .ref (am 5), .ref (am 6), .ref (am 7), .ref (am 8), .ref (am 9), .int (gF σ 0 16), .int (gF σ 0 17), .int (gF σ 0 18), .int (gF σ 0 19), .ref (am 10), .ref (am 11), .ref (am 12), .ref (am 13), .int (gF σ 0 24), .ref (am 14), .ref (am 15), .ref (am 16)])) = WM cI am (sF σ 0 7 v) := rfl
theorem mO_8 {cI : ClassId} {am : Nat → Nat} {σ : SX} {v : Int32} : (WM cI am σ).set 0 (am 0, .inr (5, [.int (gF σ 0 0), .int (gF σ 0 1), .ref (am 1), .ref (am 2), .ref (am 3), .int (gF σ 0 5), .int (gF σ 0 6), .int (gF σ 0 7), .int v, .int (gF σ 0 9), .ref (am 4), .ref (am 5), .ref (am 6), .ref (am 7), .ref (am 8), .ref (am 9), .int (gF σ 0 16), .int (gF σ 0 17), .int (gF σ 0 18), .int (gF σ 0 19), .ref (am 10), .ref (am 11), .ref (am 12), .ref (am 13), .int (gF σ 0 24), .ref (am 14), .ref (am 15), .ref (am 16)])) = WM cI am (sF σ 0 8 v) := rfl
theorem mO_9 {cI : ClassId} {am : Nat → Nat} {σ : SX} {v : Int32} : (WM cI am σ).set 0 (am 0, .inr (5, [.int (gF σ 0 0), .int (gF σ 0 1), .ref (am 1), .ref (am 2), .ref (am 3), .int (gF σ 0 5), .int (gF σ 0 6), .int (gF σ 0 7), .int (gF σ 0 8), .int v, .ref (am 4), .ref (am 5), .ref (am 6), .ref (am 7), .ref (am 8), .ref (am 9), .int (gF σ 0 16), .int (gF σ 0 17), .int (gF σ 0 18), .int (gF σ 0 19), .ref (am 10), .ref (am 11), .ref (am 12), .ref (am 13), .int (gF σ 0 24), .ref (am 14), .ref (am 15), .ref (am 16)])) = WM cI am (sF σ 0 9 v) := rfl
theorem mO_16 {cI : ClassId} {am : Nat → Nat} {σ : SX} {v : Int32} : (WM cI am σ).set 0 (am 0, .inr (5, [.int (gF σ 0 0), .int (gF σ 0 1), .ref (am 1), .ref (am 2), .ref (am 3), .int (gF σ 0 5), .int (gF σ 0 6), .int (gF σ 0 7), .int (gF σ 0 8), .int (gF σ 0 9), .ref (am 4), .ref (am 5), .ref (am 6), .ref (am 7), .ref (am 8), .ref (am 9), .int v, .int (gF σ 0 17), .int (gF σ 0 18), .int (gF σ 0 19), .ref (am 10), .ref (am 11), .ref (am 12), .ref (am 13), .int (gF σ 0 24), .ref (am 14), .ref (am 15), .ref (am 16)])) = WM cI am (sF σ 0 16 v) := rfl
theorem mO_17 {cI : ClassId} {am : Nat → Nat} {σ : SX} {v : Int32} : (WM cI am σ).set 0 (am 0, .inr (5, [.int (gF σ 0 0), .int (gF σ 0 1), .ref (am 1), .ref (am 2), .ref (am 3), .int (gF σ 0 5), .int (gF σ 0 6), .int (gF σ 0 7), .int (gF σ 0 8), .int (gF σ 0 9), .ref (am 4), .ref (am 5), .ref (am 6), .ref (am 7), .ref (am 8), .ref (am 9), .int (gF σ 0 16), .int v, .int (gF σ 0 18), .int (gF σ 0 19), .ref (am 10), .ref (am 11), .ref (am 12), .ref (am 13), .int (gF σ 0 24), .ref (am 14), .ref (am 15), .ref (am 16)])) = WM cI am (sF σ 0 17 v) := rfl
theorem mO_18 {cI : ClassId} {am : Nat → Nat} {σ : SX} {v : Int32} : (WM cI am σ).set 0 (am 0, .inr (5, [.int (gF σ 0 0), .int (gF σ 0 1), .ref (am 1), .ref (am 2), .ref (am 3), .int (gF σ 0 5), .int (gF σ 0 6), .int (gF σ 0 7), .int (gF σ 0 8), .int (gF σ 0 9), .ref (am 4), .ref (am 5), .ref (am 6), .ref (am 7), .ref (am 8), .ref (am 9), .int (gF σ 0 16), .int (gF σ 0 17), .int v, .int (gF σ 0 19), .ref (am 10), .ref (am 11), .ref (am 12), .ref (am 13), .int (gF σ 0 24), .ref (am 14), .ref (am 15), .ref (am 16)])) = WM cI am (sF σ 0 18 v) := rfl
theorem mO_19 {cI : ClassId} {am : Nat → Nat} {σ : SX} {v : Int32} : (WM cI am σ).set 0 (am 0, .inr (5, [.int (gF σ 0 0), .int (gF σ 0 1), .ref (am 1), .ref (am 2), .ref (am 3), .int (gF σ 0 5), .int (gF σ 0 6), .int (gF σ 0 7), .int (gF σ 0 8), .int (gF σ 0 9), .ref (am 4), .ref (am 5), .ref (am 6), .ref (am 7), .ref (am 8), .ref (am 9), .int (gF σ 0 16), .int (gF σ 0 17), .int (gF σ 0 18), .int v, .ref (am 10), .ref (am 11), .ref (am 12), .ref (am 13), .int (gF σ 0 24), .ref (am 14), .ref (am 15), .ref (am 16)])) = WM cI am (sF σ 0 19 v) := rfl
theorem mO_24 {cI : ClassId} {am : Nat → Nat} {σ : SX} {v : Int32} : (WM cI am σ).set 0 (am 0, .inr (5, [.int (gF σ 0 0), .int (gF σ 0 1), .ref (am 1), .ref (am 2), .ref (am 3), .int (gF σ 0 5), .int (gF σ 0 6), .int (gF σ 0 7), .int (gF σ 0 8), .int (gF σ 0 9), .ref (am 4), .ref (am 5), .ref (am 6), .ref (am 7), .ref (am 8), .ref (am 9), .int (gF σ 0 16), .int (gF σ 0 17), .int (gF σ 0 18), .int (gF σ 0 19), .ref (am 10), .ref (am 11), .ref (am 12), .ref (am 13), .int v, .ref (am 14), .ref (am 15), .ref (am 16)])) = WM cI am (sF σ 0 24 v) := rfl
theorem mr1 {cI : ClassId} {am : Nat → Nat} {σ : SX} : (WM cI am σ)[1]? = some (am 1, .inl (cI, 4, .inl (gR σ 1))) := rfl
theorem mr1_s {cI : ClassId} {am : Nat → Nat} {σ : SX} {f : Nat → Int32} : (WM cI am σ).set 1 (am 1, .inl (cI, 4, .inl f)) = WM cI am (sR σ 1 f) := rfl
theorem mr2 {cI : ClassId} {am : Nat → Nat} {σ : SX} : (WM cI am σ)[2]? = some (am 2, .inl (cI, 4, .inl (gR σ 2))) := rfl
theorem mr2_s {cI : ClassId} {am : Nat → Nat} {σ : SX} {f : Nat → Int32} : (WM cI am σ).set 2 (am 2, .inl (cI, 4, .inl f)) = WM cI am (sR σ 2 f) := rfl
theorem mr3 {cI : ClassId} {am : Nat → Nat} {σ : SX} : (WM cI am σ)[3]? = some (am 3, .inl (cI, 240, .inl (gR σ 3))) := rfl
theorem mr3_s {cI : ClassId} {am : Nat → Nat} {σ : SX} {f : Nat → Int32} : (WM cI am σ).set 3 (am 3, .inl (cI, 240, .inl f)) = WM cI am (sR σ 3 f) := rfl
theorem mr4 {cI : ClassId} {am : Nat → Nat} {σ : SX} : (WM cI am σ)[4]? = some (am 4, .inl (cI, 6, .inl (gR σ 4))) := rfl
theorem mr4_s {cI : ClassId} {am : Nat → Nat} {σ : SX} {f : Nat → Int32} : (WM cI am σ).set 4 (am 4, .inl (cI, 6, .inl f)) = WM cI am (sR σ 4 f) := rfl
theorem mr5 {cI : ClassId} {am : Nat → Nat} {σ : SX} : (WM cI am σ)[5]? = some (am 5, .inl (cI, 4, .inl (gR σ 5))) := rfl
theorem mr5_s {cI : ClassId} {am : Nat → Nat} {σ : SX} {f : Nat → Int32} : (WM cI am σ).set 5 (am 5, .inl (cI, 4, .inl f)) = WM cI am (sR σ 5 f) := rfl
theorem mr6 {cI : ClassId} {am : Nat → Nat} {σ : SX} : (WM cI am σ)[6]? = some (am 6, .inl (cI, 4, .inl (gR σ 6))) := rfl
theorem mr6_s {cI : ClassId} {am : Nat → Nat} {σ : SX} {f : Nat → Int32} : (WM cI am σ).set 6 (am 6, .inl (cI, 4, .inl f)) = WM cI am (sR σ 6 f) := rfl
theorem mr7 {cI : ClassId} {am : Nat → Nat} {σ : SX} : (WM cI am σ)[7]? = some (am 7, .inl (cI, 6, .inl (gR σ 7))) := rfl
theorem mr7_s {cI : ClassId} {am : Nat → Nat} {σ : SX} {f : Nat → Int32} : (WM cI am σ).set 7 (am 7, .inl (cI, 6, .inl f)) = WM cI am (sR σ 7 f) := rfl
theorem mr8 {cI : ClassId} {am : Nat → Nat} {σ : SX} : (WM cI am σ)[8]? = some (am 8, .inl (cI, 6, .inl (gR σ 8))) := rfl
theorem mr8_s {cI : ClassId} {am : Nat → Nat} {σ : SX} {f : Nat → Int32} : (WM cI am σ).set 8 (am 8, .inl (cI, 6, .inl f)) = WM cI am (sR σ 8 f) := rfl
theorem mr9 {cI : ClassId} {am : Nat → Nat} {σ : SX} : (WM cI am σ)[9]? = some (am 9, .inl (cI, 6, .inl (gR σ 9))) := rfl
theorem mr9_s {cI : ClassId} {am : Nat → Nat} {σ : SX} {f : Nat → Int32} : (WM cI am σ).set 9 (am 9, .inl (cI, 6, .inl f)) = WM cI am (sR σ 9 f) := rfl
theorem mr10 {cI : ClassId} {am : Nat → Nat} {σ : SX} : (WM cI am σ)[10]? = some (am 10, .inl (cI, 6, .inl (gR σ 10))) := rfl
theorem mr10_s {cI : ClassId} {am : Nat → Nat} {σ : SX} {f : Nat → Int32} : (WM cI am σ).set 10 (am 10, .inl (cI, 6, .inl f)) = WM cI am (sR σ 10 f) := rfl
theorem mr11 {cI : ClassId} {am : Nat → Nat} {σ : SX} : (WM cI am σ)[11]? = some (am 11, .inl (cI, 8, .inl (gR σ 11))) := rfl
theorem mr11_s {cI : ClassId} {am : Nat → Nat} {σ : SX} {f : Nat → Int32} : (WM cI am σ).set 11 (am 11, .inl (cI, 8, .inl f)) = WM cI am (sR σ 11 f) := rfl
theorem mr12 {cI : ClassId} {am : Nat → Nat} {σ : SX} : (WM cI am σ)[12]? = some (am 12, .inl (cI, 18, .inl (gR σ 12))) := rfl
theorem mr12_s {cI : ClassId} {am : Nat → Nat} {σ : SX} {f : Nat → Int32} : (WM cI am σ).set 12 (am 12, .inl (cI, 18, .inl f)) = WM cI am (sR σ 12 f) := rfl
theorem mr13 {cI : ClassId} {am : Nat → Nat} {σ : SX} : (WM cI am σ)[13]? = some (am 13, .inl (cI, 31, .inl (gR σ 13))) := rfl
theorem mr13_s {cI : ClassId} {am : Nat → Nat} {σ : SX} {f : Nat → Int32} : (WM cI am σ).set 13 (am 13, .inl (cI, 31, .inl f)) = WM cI am (sR σ 13 f) := rfl
theorem mr14 {cI : ClassId} {am : Nat → Nat} {σ : SX} : (WM cI am σ)[14]? = some (am 14, .inl (cI, 8, .inl (gR σ 14))) := rfl
theorem mr14_s {cI : ClassId} {am : Nat → Nat} {σ : SX} {f : Nat → Int32} : (WM cI am σ).set 14 (am 14, .inl (cI, 8, .inl f)) = WM cI am (sR σ 14 f) := rfl
theorem mr15 {cI : ClassId} {am : Nat → Nat} {σ : SX} : (WM cI am σ)[15]? = some (am 15, .inl (cI, 8, .inl (gR σ 15))) := rfl
theorem mr15_s {cI : ClassId} {am : Nat → Nat} {σ : SX} {f : Nat → Int32} : (WM cI am σ).set 15 (am 15, .inl (cI, 8, .inl f)) = WM cI am (sR σ 15 f) := rfl
theorem mr16 {cI : ClassId} {am : Nat → Nat} {σ : SX} : (WM cI am σ)[16]? = some (am 16, .inl (cI, 8, .inl (gR σ 16))) := rfl
theorem mr16_s {cI : ClassId} {am : Nat → Nat} {σ : SX} {f : Nat → Int32} : (WM cI am σ).set 16 (am 16, .inl (cI, 8, .inl f)) = WM cI am (sR σ 16 f) := rfl
end
