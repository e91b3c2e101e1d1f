section
-- ===== PART A: goes FIRST, ahead of the names: the tables' words, and 'selects' of the private methods out of them =====
/-- a private method of a class that the tables say can be made, by its rows of tables_1 -/
def lw_okq (q : MethodName × Nat) : Prop := (q.1.cls ≠ "java/lang/invoke/MethodHandle" ∧ q.1.cls ≠ "java/lang/invoke/VarHandle") ∧ Cond.instantiable q.1.cls q.2 ∈ tables_1 ∧ Cond.privateMethod q.1 ∈ tables_1 ∧ Cond.instanceMethod q.1 ∈ tables_1
theorem lw_p0 : lw_okq (⟨"CockleSquires", "found", "(I)I"⟩, 9) := ⟨⟨by decide +kernel, by decide +kernel⟩, List.mem_of_getElem? (i := 13) (by decide +kernel), List.mem_of_getElem? (i := 191) (by decide +kernel), List.mem_of_getElem? (i := 192) (by decide +kernel)⟩
theorem lw_p1 : lw_okq (⟨"CockleSquires", "unfound", "(I)I"⟩, 9) := ⟨⟨by decide +kernel, by decide +kernel⟩, List.mem_of_getElem? (i := 13) (by decide +kernel), List.mem_of_getElem? (i := 201) (by decide +kernel), List.mem_of_getElem? (i := 202) (by decide +kernel)⟩
theorem lw_p2 : lw_okq (⟨"CockleSquires$Tape", "readLaw", "(LCockleSquires$Flat;)Z"⟩, 4) := ⟨⟨by decide +kernel, by decide +kernel⟩, List.mem_of_getElem? (i := 38) (by decide +kernel), List.mem_of_getElem? (i := 274) (by decide +kernel), List.mem_of_getElem? (i := 275) (by decide +kernel)⟩
theorem lw_p3 : lw_okq (⟨"CockleSquires$Tape", "takes", "(I)Z"⟩, 4) := ⟨⟨by decide +kernel, by decide +kernel⟩, List.mem_of_getElem? (i := 38) (by decide +kernel), List.mem_of_getElem? (i := 278) (by decide +kernel), List.mem_of_getElem? (i := 279) (by decide +kernel)⟩
theorem lw_p4 : lw_okq (⟨"CockleSquires$Tape", "letterAt", "(I)I"⟩, 4) := ⟨⟨by decide +kernel, by decide +kernel⟩, List.mem_of_getElem? (i := 38) (by decide +kernel), List.mem_of_getElem? (i := 282) (by decide +kernel), List.mem_of_getElem? (i := 283) (by decide +kernel)⟩
theorem lw_p5 : lw_okq (⟨"CockleSquires$Tape", "fails", "(I)Z"⟩, 4) := ⟨⟨by decide +kernel, by decide +kernel⟩, List.mem_of_getElem? (i := 38) (by decide +kernel), List.mem_of_getElem? (i := 286) (by decide +kernel), List.mem_of_getElem? (i := 287) (by decide +kernel)⟩
theorem lw_p6 : lw_okq (⟨"CockleSquires$Tape", "number", "(II)I"⟩, 4) := ⟨⟨by decide +kernel, by decide +kernel⟩, List.mem_of_getElem? (i := 38) (by decide +kernel), List.mem_of_getElem? (i := 290) (by decide +kernel), List.mem_of_getElem? (i := 291) (by decide +kernel)⟩
theorem lw_p7 : lw_okq (⟨"CockleSquires$Tape", "figuresAhead", "()I"⟩, 4) := ⟨⟨by decide +kernel, by decide +kernel⟩, List.mem_of_getElem? (i := 38) (by decide +kernel), List.mem_of_getElem? (i := 294) (by decide +kernel), List.mem_of_getElem? (i := 295) (by decide +kernel)⟩
theorem lw_p8 : lw_okq (⟨"CockleSquires$Tape", "readBeds", "(LCockleSquires$Flat;)V"⟩, 4) := ⟨⟨by decide +kernel, by decide +kernel⟩, List.mem_of_getElem? (i := 38) (by decide +kernel), List.mem_of_getElem? (i := 303) (by decide +kernel), List.mem_of_getElem? (i := 304) (by decide +kernel)⟩
theorem lw_p9 : lw_okq (⟨"CockleSquires$Tape", "readBed", "(LCockleSquires$Flat;)Z"⟩, 4) := ⟨⟨by decide +kernel, by decide +kernel⟩, List.mem_of_getElem? (i := 38) (by decide +kernel), List.mem_of_getElem? (i := 307) (by decide +kernel), List.mem_of_getElem? (i := 308) (by decide +kernel)⟩
theorem lw_p10 : lw_okq (⟨"CockleSquires$Flat", "swell", "(I)V"⟩, 10) := ⟨⟨by decide +kernel, by decide +kernel⟩, List.mem_of_getElem? (i := 57) (by decide +kernel), List.mem_of_getElem? (i := 375) (by decide +kernel), List.mem_of_getElem? (i := 376) (by decide +kernel)⟩
theorem lw_p11 : lw_okq (⟨"CockleSquires$Flat", "nearerBy", "(II)I"⟩, 10) := ⟨⟨by decide +kernel, by decide +kernel⟩, List.mem_of_getElem? (i := 57) (by decide +kernel), List.mem_of_getElem? (i := 387) (by decide +kernel), List.mem_of_getElem? (i := 388) (by decide +kernel)⟩
theorem lw_p12 : lw_okq (⟨"CockleSquires$Foretelling", "isResting", "(II)Z"⟩, 4) := ⟨⟨by decide +kernel, by decide +kernel⟩, List.mem_of_getElem? (i := 121) (by decide +kernel), List.mem_of_getElem? (i := 546) (by decide +kernel), List.mem_of_getElem? (i := 547) (by decide +kernel)⟩
theorem lw_p13 : lw_okq (⟨"CockleSquires$Foretelling", "weighBeds", "(LCockleSquires$Flat;I)V"⟩, 4) := ⟨⟨by decide +kernel, by decide +kernel⟩, List.mem_of_getElem? (i := 121) (by decide +kernel), List.mem_of_getElem? (i := 563) (by decide +kernel), List.mem_of_getElem? (i := 564) (by decide +kernel)⟩
theorem lw_p14 : lw_okq (⟨"CockleSquires$Foretelling", "gainOfAll", "(I)I"⟩, 4) := ⟨⟨by decide +kernel, by decide +kernel⟩, List.mem_of_getElem? (i := 121) (by decide +kernel), List.mem_of_getElem? (i := 577) (by decide +kernel), List.mem_of_getElem? (i := 578) (by decide +kernel)⟩
theorem lw_p15 : lw_okq (⟨"CockleSquires$Foretelling", "gainBetween", "(II)I"⟩, 4) := ⟨⟨by decide +kernel, by decide +kernel⟩, List.mem_of_getElem? (i := 121) (by decide +kernel), List.mem_of_getElem? (i := 598) (by decide +kernel), List.mem_of_getElem? (i := 599) (by decide +kernel)⟩
def lw_privs_1 : List (MethodName × Nat) := [(⟨"CockleSquires", "found", "(I)I"⟩, 9), (⟨"CockleSquires", "unfound", "(I)I"⟩, 9), (⟨"CockleSquires$Tape", "readLaw", "(LCockleSquires$Flat;)Z"⟩, 4), (⟨"CockleSquires$Tape", "takes", "(I)Z"⟩, 4), (⟨"CockleSquires$Tape", "letterAt", "(I)I"⟩, 4), (⟨"CockleSquires$Tape", "fails", "(I)Z"⟩, 4), (⟨"CockleSquires$Tape", "number", "(II)I"⟩, 4), (⟨"CockleSquires$Tape", "figuresAhead", "()I"⟩, 4), (⟨"CockleSquires$Tape", "readBeds", "(LCockleSquires$Flat;)V"⟩, 4), (⟨"CockleSquires$Tape", "readBed", "(LCockleSquires$Flat;)Z"⟩, 4), (⟨"CockleSquires$Flat", "swell", "(I)V"⟩, 10), (⟨"CockleSquires$Flat", "nearerBy", "(II)I"⟩, 10), (⟨"CockleSquires$Foretelling", "isResting", "(II)Z"⟩, 4), (⟨"CockleSquires$Foretelling", "weighBeds", "(LCockleSquires$Flat;I)V"⟩, 4), (⟨"CockleSquires$Foretelling", "gainOfAll", "(I)I"⟩, 4), (⟨"CockleSquires$Foretelling", "gainBetween", "(II)I"⟩, 4)]
theorem lw_r1 : ∀ q ∈ lw_privs_1, lw_okq q := List.forall_mem_cons.mpr ⟨lw_p0, List.forall_mem_cons.mpr ⟨lw_p1, List.forall_mem_cons.mpr ⟨lw_p2, List.forall_mem_cons.mpr ⟨lw_p3, List.forall_mem_cons.mpr ⟨lw_p4, List.forall_mem_cons.mpr ⟨lw_p5, List.forall_mem_cons.mpr ⟨lw_p6, List.forall_mem_cons.mpr ⟨lw_p7, List.forall_mem_cons.mpr ⟨lw_p8, List.forall_mem_cons.mpr ⟨lw_p9, List.forall_mem_cons.mpr ⟨lw_p10, List.forall_mem_cons.mpr ⟨lw_p11, List.forall_mem_cons.mpr ⟨lw_p12, List.forall_mem_cons.mpr ⟨lw_p13, List.forall_mem_cons.mpr ⟨lw_p14, List.forall_mem_cons.mpr ⟨lw_p15, fun _ h => absurd h List.not_mem_nil⟩⟩⟩⟩⟩⟩⟩⟩⟩⟩⟩⟩⟩⟩⟩⟩
theorem lw_p16 : lw_okq (⟨"CockleSquires$Foretelling", "growsAsTold", "(II)Z"⟩, 4) := ⟨⟨by decide +kernel, by decide +kernel⟩, List.mem_of_getElem? (i := 121) (by decide +kernel), List.mem_of_getElem? (i := 640) (by decide +kernel), List.mem_of_getElem? (i := 641) (by decide +kernel)⟩
theorem lw_p17 : lw_okq (⟨"CockleSquires$Foretelling", "liesAsTold", "()Z"⟩, 4) := ⟨⟨by decide +kernel, by decide +kernel⟩, List.mem_of_getElem? (i := 121) (by decide +kernel), List.mem_of_getElem? (i := 653) (by decide +kernel), List.mem_of_getElem? (i := 654) (by decide +kernel)⟩
theorem lw_p18 : lw_okq (⟨"CockleSquires$Asking", "leave", "(I)V"⟩, 2) := ⟨⟨by decide +kernel, by decide +kernel⟩, List.mem_of_getElem? (i := 142) (by decide +kernel), List.mem_of_getElem? (i := 741) (by decide +kernel), List.mem_of_getElem? (i := 742) (by decide +kernel)⟩
theorem lw_p19 : lw_okq (⟨"CockleSquiresModel", "find", "(I)I"⟩, 23) := ⟨⟨by decide +kernel, by decide +kernel⟩, List.mem_of_getElem? (i := 772) (by decide +kernel), List.mem_of_getElem? (i := 862) (by decide +kernel), List.mem_of_getElem? (i := 863) (by decide +kernel)⟩
theorem lw_p20 : lw_okq (⟨"CockleSquiresModel", "well", "(I)I"⟩, 23) := ⟨⟨by decide +kernel, by decide +kernel⟩, List.mem_of_getElem? (i := 772) (by decide +kernel), List.mem_of_getElem? (i := 867) (by decide +kernel), List.mem_of_getElem? (i := 868) (by decide +kernel)⟩
theorem lw_p21 : lw_okq (⟨"CockleSquiresModel", "readFlat", "()Z"⟩, 23) := ⟨⟨by decide +kernel, by decide +kernel⟩, List.mem_of_getElem? (i := 772) (by decide +kernel), List.mem_of_getElem? (i := 896) (by decide +kernel), List.mem_of_getElem? (i := 897) (by decide +kernel)⟩
theorem lw_p22 : lw_okq (⟨"CockleSquiresModel", "nextToken", "()V"⟩, 23) := ⟨⟨by decide +kernel, by decide +kernel⟩, List.mem_of_getElem? (i := 772) (by decide +kernel), List.mem_of_getElem? (i := 900) (by decide +kernel), List.mem_of_getElem? (i := 901) (by decide +kernel)⟩
theorem lw_p23 : lw_okq (⟨"CockleSquiresModel", "takes", "(I)Z"⟩, 23) := ⟨⟨by decide +kernel, by decide +kernel⟩, List.mem_of_getElem? (i := 772) (by decide +kernel), List.mem_of_getElem? (i := 908) (by decide +kernel), List.mem_of_getElem? (i := 909) (by decide +kernel)⟩
theorem lw_p24 : lw_okq (⟨"CockleSquiresModel", "faults", "(I)Z"⟩, 23) := ⟨⟨by decide +kernel, by decide +kernel⟩, List.mem_of_getElem? (i := 772) (by decide +kernel), List.mem_of_getElem? (i := 912) (by decide +kernel), List.mem_of_getElem? (i := 913) (by decide +kernel)⟩
theorem lw_p25 : lw_okq (⟨"CockleSquiresModel", "takesNumber", "(IIII)Z"⟩, 23) := ⟨⟨by decide +kernel, by decide +kernel⟩, List.mem_of_getElem? (i := 772) (by decide +kernel), List.mem_of_getElem? (i := 916) (by decide +kernel), List.mem_of_getElem? (i := 917) (by decide +kernel)⟩
theorem lw_p26 : lw_okq (⟨"CockleSquiresModel", "readBed", "()Z"⟩, 23) := ⟨⟨by decide +kernel, by decide +kernel⟩, List.mem_of_getElem? (i := 772) (by decide +kernel), List.mem_of_getElem? (i := 920) (by decide +kernel), List.mem_of_getElem? (i := 921) (by decide +kernel)⟩
theorem lw_p27 : lw_okq (⟨"CockleSquiresModel", "note", "()V"⟩, 23) := ⟨⟨by decide +kernel, by decide +kernel⟩, List.mem_of_getElem? (i := 772) (by decide +kernel), List.mem_of_getElem? (i := 942) (by decide +kernel), List.mem_of_getElem? (i := 943) (by decide +kernel)⟩
theorem lw_p28 : lw_okq (⟨"CockleSquiresModel", "oneTide", "()V"⟩, 23) := ⟨⟨by decide +kernel, by decide +kernel⟩, List.mem_of_getElem? (i := 772) (by decide +kernel), List.mem_of_getElem? (i := 946) (by decide +kernel), List.mem_of_getElem? (i := 947) (by decide +kernel)⟩
theorem lw_p29 : lw_okq (⟨"CockleSquiresModel", "lies", "(I)I"⟩, 23) := ⟨⟨by decide +kernel, by decide +kernel⟩, List.mem_of_getElem? (i := 772) (by decide +kernel), List.mem_of_getElem? (i := 950) (by decide +kernel), List.mem_of_getElem? (i := 951) (by decide +kernel)⟩
theorem lw_p30 : lw_okq (⟨"CockleSquiresModel", "nearer", "(II)I"⟩, 23) := ⟨⟨by decide +kernel, by decide +kernel⟩, List.mem_of_getElem? (i := 772) (by decide +kernel), List.mem_of_getElem? (i := 954) (by decide +kernel), List.mem_of_getElem? (i := 955) (by decide +kernel)⟩
theorem lw_p31 : lw_okq (⟨"CockleSquiresModel", "off", "(II)I"⟩, 23) := ⟨⟨by decide +kernel, by decide +kernel⟩, List.mem_of_getElem? (i := 772) (by decide +kernel), List.mem_of_getElem? (i := 958) (by decide +kernel), List.mem_of_getElem? (i := 959) (by decide +kernel)⟩
def lw_privs_2 : List (MethodName × Nat) := [(⟨"CockleSquires$Foretelling", "growsAsTold", "(II)Z"⟩, 4), (⟨"CockleSquires$Foretelling", "liesAsTold", "()Z"⟩, 4), (⟨"CockleSquires$Asking", "leave", "(I)V"⟩, 2), (⟨"CockleSquiresModel", "find", "(I)I"⟩, 23), (⟨"CockleSquiresModel", "well", "(I)I"⟩, 23), (⟨"CockleSquiresModel", "readFlat", "()Z"⟩, 23), (⟨"CockleSquiresModel", "nextToken", "()V"⟩, 23), (⟨"CockleSquiresModel", "takes", "(I)Z"⟩, 23), (⟨"CockleSquiresModel", "faults", "(I)Z"⟩, 23), (⟨"CockleSquiresModel", "takesNumber", "(IIII)Z"⟩, 23), (⟨"CockleSquiresModel", "readBed", "()Z"⟩, 23), (⟨"CockleSquiresModel", "note", "()V"⟩, 23), (⟨"CockleSquiresModel", "oneTide", "()V"⟩, 23), (⟨"CockleSquiresModel", "lies", "(I)I"⟩, 23), (⟨"CockleSquiresModel", "nearer", "(II)I"⟩, 23), (⟨"CockleSquiresModel", "off", "(II)I"⟩, 23)]
theorem lw_r2 : ∀ q ∈ lw_privs_2, lw_okq q := List.forall_mem_cons.mpr ⟨lw_p16, List.forall_mem_cons.mpr ⟨lw_p17, List.forall_mem_cons.mpr ⟨lw_p18, List.forall_mem_cons.mpr ⟨lw_p19, List.forall_mem_cons.mpr ⟨lw_p20, List.forall_mem_cons.mpr ⟨lw_p21, List.forall_mem_cons.mpr ⟨lw_p22, List.forall_mem_cons.mpr ⟨lw_p23, List.forall_mem_cons.mpr ⟨lw_p24, List.forall_mem_cons.mpr ⟨lw_p25, List.forall_mem_cons.mpr ⟨lw_p26, List.forall_mem_cons.mpr ⟨lw_p27, List.forall_mem_cons.mpr ⟨lw_p28, List.forall_mem_cons.mpr ⟨lw_p29, List.forall_mem_cons.mpr ⟨lw_p30, List.forall_mem_cons.mpr ⟨lw_p31, fun _ h => absurd h List.not_mem_nil⟩⟩⟩⟩⟩⟩⟩⟩⟩⟩⟩⟩⟩⟩⟩⟩
theorem lw_p32 : lw_okq (⟨"CockleSquiresModel", "allSizes", "()I"⟩, 23) := ⟨⟨by decide +kernel, by decide +kernel⟩, List.mem_of_getElem? (i := 772) (by decide +kernel), List.mem_of_getElem? (i := 962) (by decide +kernel), List.mem_of_getElem? (i := 963) (by decide +kernel)⟩
theorem lw_p33 : lw_okq (⟨"CockleSquiresModel", "isBed", "(I)Z"⟩, 23) := ⟨⟨by decide +kernel, by decide +kernel⟩, List.mem_of_getElem? (i := 772) (by decide +kernel), List.mem_of_getElem? (i := 970) (by decide +kernel), List.mem_of_getElem? (i := 971) (by decide +kernel)⟩
theorem lw_p34 : lw_okq (⟨"CockleSquiresModel", "hasVeto", "(I)Z"⟩, 23) := ⟨⟨by decide +kernel, by decide +kernel⟩, List.mem_of_getElem? (i := 772) (by decide +kernel), List.mem_of_getElem? (i := 975) (by decide +kernel), List.mem_of_getElem? (i := 976) (by decide +kernel)⟩
theorem lw_p35 : lw_okq (⟨"CockleSquiresModel", "rakeBy", "(II)V"⟩, 23) := ⟨⟨by decide +kernel, by decide +kernel⟩, List.mem_of_getElem? (i := 772) (by decide +kernel), List.mem_of_getElem? (i := 982) (by decide +kernel), List.mem_of_getElem? (i := 983) (by decide +kernel)⟩
theorem lw_p36 : lw_okq (⟨"CockleSquiresModel", "toldOf", "(II)I"⟩, 23) := ⟨⟨by decide +kernel, by decide +kernel⟩, List.mem_of_getElem? (i := 772) (by decide +kernel), List.mem_of_getElem? (i := 1008) (by decide +kernel), List.mem_of_getElem? (i := 1009) (by decide +kernel)⟩
theorem lw_p37 : lw_okq (⟨"CockleSquiresModel", "putAside", "()V"⟩, 23) := ⟨⟨by decide +kernel, by decide +kernel⟩, List.mem_of_getElem? (i := 772) (by decide +kernel), List.mem_of_getElem? (i := 1022) (by decide +kernel), List.mem_of_getElem? (i := 1023) (by decide +kernel)⟩
theorem lw_p38 : lw_okq (⟨"CockleSquiresModel", "goOn", "(I)V"⟩, 23) := ⟨⟨by decide +kernel, by decide +kernel⟩, List.mem_of_getElem? (i := 772) (by decide +kernel), List.mem_of_getElem? (i := 1026) (by decide +kernel), List.mem_of_getElem? (i := 1027) (by decide +kernel)⟩
theorem lw_p39 : lw_okq (⟨"CockleSquiresModel", "takeBack", "()V"⟩, 23) := ⟨⟨by decide +kernel, by decide +kernel⟩, List.mem_of_getElem? (i := 772) (by decide +kernel), List.mem_of_getElem? (i := 1030) (by decide +kernel), List.mem_of_getElem? (i := 1031) (by decide +kernel)⟩
theorem lw_p40 : lw_okq (⟨"CockleSquiresModel", "tallyOf", "(I)I"⟩, 23) := ⟨⟨by decide +kernel, by decide +kernel⟩, List.mem_of_getElem? (i := 772) (by decide +kernel), List.mem_of_getElem? (i := 1038) (by decide +kernel), List.mem_of_getElem? (i := 1039) (by decide +kernel)⟩
theorem lw_p41 : lw_okq (⟨"CockleSquiresModel", "bringFor", "(II)I"⟩, 23) := ⟨⟨by decide +kernel, by decide +kernel⟩, List.mem_of_getElem? (i := 772) (by decide +kernel), List.mem_of_getElem? (i := 1042) (by decide +kernel), List.mem_of_getElem? (i := 1043) (by decide +kernel)⟩
theorem lw_p42 : lw_okq (⟨"CockleSquiresModel", "bestCell", "(I)I"⟩, 23) := ⟨⟨by decide +kernel, by decide +kernel⟩, List.mem_of_getElem? (i := 772) (by decide +kernel), List.mem_of_getElem? (i := 1058) (by decide +kernel), List.mem_of_getElem? (i := 1059) (by decide +kernel)⟩
theorem lw_p43 : lw_okq (⟨"CockleSquiresModel", "leadOf", "(I)I"⟩, 23) := ⟨⟨by decide +kernel, by decide +kernel⟩, List.mem_of_getElem? (i := 772) (by decide +kernel), List.mem_of_getElem? (i := 1062) (by decide +kernel), List.mem_of_getElem? (i := 1063) (by decide +kernel)⟩
theorem lw_p44 : lw_okq (⟨"CockleSquiresModel", "leadFrom", "(II)I"⟩, 23) := ⟨⟨by decide +kernel, by decide +kernel⟩, List.mem_of_getElem? (i := 772) (by decide +kernel), List.mem_of_getElem? (i := 1066) (by decide +kernel), List.mem_of_getElem? (i := 1067) (by decide +kernel)⟩
theorem lw_p45 : lw_okq (⟨"CockleSquiresModel", "ledBy", "(III)I"⟩, 23) := ⟨⟨by decide +kernel, by decide +kernel⟩, List.mem_of_getElem? (i := 772) (by decide +kernel), List.mem_of_getElem? (i := 1085) (by decide +kernel), List.mem_of_getElem? (i := 1086) (by decide +kernel)⟩
theorem lw_p46 : lw_okq (⟨"CockleSquiresModel", "lacks", "(III)I"⟩, 23) := ⟨⟨by decide +kernel, by decide +kernel⟩, List.mem_of_getElem? (i := 772) (by decide +kernel), List.mem_of_getElem? (i := 1101) (by decide +kernel), List.mem_of_getElem? (i := 1102) (by decide +kernel)⟩
theorem lw_p47 : lw_okq (⟨"CockleSquiresModel", "isSo", "(III)Z"⟩, 23) := ⟨⟨by decide +kernel, by decide +kernel⟩, List.mem_of_getElem? (i := 772) (by decide +kernel), List.mem_of_getElem? (i := 1105) (by decide +kernel), List.mem_of_getElem? (i := 1106) (by decide +kernel)⟩
def lw_privs_3 : List (MethodName × Nat) := [(⟨"CockleSquiresModel", "allSizes", "()I"⟩, 23), (⟨"CockleSquiresModel", "isBed", "(I)Z"⟩, 23), (⟨"CockleSquiresModel", "hasVeto", "(I)Z"⟩, 23), (⟨"CockleSquiresModel", "rakeBy", "(II)V"⟩, 23), (⟨"CockleSquiresModel", "toldOf", "(II)I"⟩, 23), (⟨"CockleSquiresModel", "putAside", "()V"⟩, 23), (⟨"CockleSquiresModel", "goOn", "(I)V"⟩, 23), (⟨"CockleSquiresModel", "takeBack", "()V"⟩, 23), (⟨"CockleSquiresModel", "tallyOf", "(I)I"⟩, 23), (⟨"CockleSquiresModel", "bringFor", "(II)I"⟩, 23), (⟨"CockleSquiresModel", "bestCell", "(I)I"⟩, 23), (⟨"CockleSquiresModel", "leadOf", "(I)I"⟩, 23), (⟨"CockleSquiresModel", "leadFrom", "(II)I"⟩, 23), (⟨"CockleSquiresModel", "ledBy", "(III)I"⟩, 23), (⟨"CockleSquiresModel", "lacks", "(III)I"⟩, 23), (⟨"CockleSquiresModel", "isSo", "(III)Z"⟩, 23)]
theorem lw_r3 : ∀ q ∈ lw_privs_3, lw_okq q := List.forall_mem_cons.mpr ⟨lw_p32, List.forall_mem_cons.mpr ⟨lw_p33, List.forall_mem_cons.mpr ⟨lw_p34, List.forall_mem_cons.mpr ⟨lw_p35, List.forall_mem_cons.mpr ⟨lw_p36, List.forall_mem_cons.mpr ⟨lw_p37, List.forall_mem_cons.mpr ⟨lw_p38, List.forall_mem_cons.mpr ⟨lw_p39, List.forall_mem_cons.mpr ⟨lw_p40, List.forall_mem_cons.mpr ⟨lw_p41, List.forall_mem_cons.mpr ⟨lw_p42, List.forall_mem_cons.mpr ⟨lw_p43, List.forall_mem_cons.mpr ⟨lw_p44, List.forall_mem_cons.mpr ⟨lw_p45, List.forall_mem_cons.mpr ⟨lw_p46, List.forall_mem_cons.mpr ⟨lw_p47, fun _ h => absurd h List.not_mem_nil⟩⟩⟩⟩⟩⟩⟩⟩⟩⟩⟩⟩⟩⟩⟩⟩
theorem lw_p48 : lw_okq (⟨"CockleSquiresModel", "sizeOf", "(I)I"⟩, 23) := ⟨⟨by decide +kernel, by decide +kernel⟩, List.mem_of_getElem? (i := 772) (by decide +kernel), List.mem_of_getElem? (i := 1150) (by decide +kernel), List.mem_of_getElem? (i := 1151) (by decide +kernel)⟩
theorem lw_p49 : lw_okq (⟨"CockleSquiresModel", "begin", "(I)V"⟩, 23) := ⟨⟨by decide +kernel, by decide +kernel⟩, List.mem_of_getElem? (i := 772) (by decide +kernel), List.mem_of_getElem? (i := 1154) (by decide +kernel), List.mem_of_getElem? (i := 1155) (by decide +kernel)⟩
theorem lw_p50 : lw_okq (⟨"CockleSquiresModel", "commonSize", "(I)I"⟩, 23) := ⟨⟨by decide +kernel, by decide +kernel⟩, List.mem_of_getElem? (i := 772) (by decide +kernel), List.mem_of_getElem? (i := 1158) (by decide +kernel), List.mem_of_getElem? (i := 1159) (by decide +kernel)⟩
theorem lw_p51 : lw_okq (⟨"CockleSquiresModel", "lent", "(II)I"⟩, 23) := ⟨⟨by decide +kernel, by decide +kernel⟩, List.mem_of_getElem? (i := 772) (by decide +kernel), List.mem_of_getElem? (i := 1162) (by decide +kernel), List.mem_of_getElem? (i := 1163) (by decide +kernel)⟩
theorem lw_p52 : lw_okq (⟨"CockleSquiresModel", "markOf", "(I)I"⟩, 23) := ⟨⟨by decide +kernel, by decide +kernel⟩, List.mem_of_getElem? (i := 772) (by decide +kernel), List.mem_of_getElem? (i := 1166) (by decide +kernel), List.mem_of_getElem? (i := 1167) (by decide +kernel)⟩
theorem lw_p53 : lw_okq (⟨"CockleSquiresModel", "commonMark", "(I)I"⟩, 23) := ⟨⟨by decide +kernel, by decide +kernel⟩, List.mem_of_getElem? (i := 772) (by decide +kernel), List.mem_of_getElem? (i := 1170) (by decide +kernel), List.mem_of_getElem? (i := 1171) (by decide +kernel)⟩
theorem lw_p54 : lw_okq (⟨"CockleSquiresModel", "sizeOfWarm", "(I)I"⟩, 23) := ⟨⟨by decide +kernel, by decide +kernel⟩, List.mem_of_getElem? (i := 772) (by decide +kernel), List.mem_of_getElem? (i := 1174) (by decide +kernel), List.mem_of_getElem? (i := 1175) (by decide +kernel)⟩
theorem lw_p55 : lw_okq (⟨"CockleSquiresModel", "warmSize", "(I)I"⟩, 23) := ⟨⟨by decide +kernel, by decide +kernel⟩, List.mem_of_getElem? (i := 772) (by decide +kernel), List.mem_of_getElem? (i := 1178) (by decide +kernel), List.mem_of_getElem? (i := 1179) (by decide +kernel)⟩
def lw_privs_4 : List (MethodName × Nat) := [(⟨"CockleSquiresModel", "sizeOf", "(I)I"⟩, 23), (⟨"CockleSquiresModel", "begin", "(I)V"⟩, 23), (⟨"CockleSquiresModel", "commonSize", "(I)I"⟩, 23), (⟨"CockleSquiresModel", "lent", "(II)I"⟩, 23), (⟨"CockleSquiresModel", "markOf", "(I)I"⟩, 23), (⟨"CockleSquiresModel", "commonMark", "(I)I"⟩, 23), (⟨"CockleSquiresModel", "sizeOfWarm", "(I)I"⟩, 23), (⟨"CockleSquiresModel", "warmSize", "(I)I"⟩, 23)]
theorem lw_r4 : ∀ q ∈ lw_privs_4, lw_okq q := List.forall_mem_cons.mpr ⟨lw_p48, List.forall_mem_cons.mpr ⟨lw_p49, List.forall_mem_cons.mpr ⟨lw_p50, List.forall_mem_cons.mpr ⟨lw_p51, List.forall_mem_cons.mpr ⟨lw_p52, List.forall_mem_cons.mpr ⟨lw_p53, List.forall_mem_cons.mpr ⟨lw_p54, List.forall_mem_cons.mpr ⟨lw_p55, fun _ h => absurd h List.not_mem_nil⟩⟩⟩⟩⟩⟩⟩⟩
def lw_privs : List (MethodName × Nat) := lw_privs_1 ++ (lw_privs_2 ++ (lw_privs_3 ++ (lw_privs_4)))
def lw_tbl : List Cond := k2_sels lw_privs ++ tables_1
theorem lw_privs_ok : ∀ q ∈ lw_privs, lw_okq q := by
  show ∀ q ∈ lw_privs_1 ++ (lw_privs_2 ++ (lw_privs_3 ++ (lw_privs_4))), lw_okq q
  exact List.forall_mem_append.mpr ⟨lw_r1, List.forall_mem_append.mpr ⟨lw_r2, List.forall_mem_append.mpr ⟨lw_r3, lw_r4⟩⟩⟩
end
section
/-! ===== BEGIN words of one list among another's, by their places ===== -/
theorem goodIn_r {big : List Cond} (ws : List Cond) (ps : List Nat) (hp : ws = ps.filterMap (fun i => big[i]?)) (h : ws.all goodWord = true) : GoodIn big ws := by
  intro w hw
  have h1 := List.all_eq_true.mp h w hw
  rw [hp] at hw
  obtain ⟨i, -, hi⟩ := List.mem_filterMap.mp hw
  have hm : w ∈ big := by first | exact List.mem_of_getElem? hi | exact List.getElem?_mem hi
  exact ⟨hm, good_of_word h1⟩
theorem goodIn_app {big a b : List Cond} (ha : GoodIn big a) (hb : GoodIn big b) : GoodIn big (a ++ b) := fun w h => (List.mem_append.mp h).elim (ha w) (hb w)
theorem goodIn_ca {big a b : List Cond} {c : Cond} (ha : GoodIn big (c :: a)) (hb : GoodIn big b) : GoodIn big (c :: (a ++ b)) := fun w h => (List.mem_cons.mp h).elim (fun e => ha w (List.mem_cons.mpr (Or.inl e))) (fun h => (List.mem_append.mp h).elim (fun h => ha w (List.mem_cons.mpr (Or.inr h))) (hb w))
theorem goodIn_sub {big ws : List Cond} (hm : ∀ w ∈ ws, w ∈ big) (h : ws.all goodWord = true) : GoodIn big ws := fun w hw => ⟨hm w hw, good_of_word (List.all_eq_true.mp h w hw)⟩
/-! ===== END ===== -/

/-! ===== BEGIN printed: names, fields, word lists, decode rows ===== -/
def RX0 : String := "CockleSquires$Acts"
def TX0 : u_T := fun k => match k with
  | 0 => ("CockleSquires$Acts", "ring", "[LCockleSquires$Flat;", true)
  | 1 => ("CockleSquires$Acts", "next", "I", false)
  | _ => ("CockleSquires$Acts", "kept", "I", false)
def tyX0 : Nat → FieldType := fun k => match k with
  | 0 => .array (.object "CockleSquires$Flat")
  | 1 => .int
  | _ => .int
abbrev wsX00 : List Cond := u_ws RX0 TX0 3
theorem nmX0 : ∀ a, a < 3 → ∀ b, b < 3 → a ≠ b → (TX0 a).2.1 ≠ (TX0 b).2.1 := by decide +kernel
theorem tyX0_ok : ∀ k, k < 3 → parseFieldDescriptor (TX0 k).2.2.1 = some (tyX0 k) := by decide +kernel
abbrev cX0_init : ByteArray := prog_2_method_1_code
def yX0_init : MethodName := ⟨RX0, "<init>", "()V"⟩
abbrev cX0_kept : ByteArray := prog_2_method_2_code
def yX0_kept : MethodName := ⟨RX0, "kept", "()I"⟩
abbrev cX0_forget : ByteArray := prog_2_method_3_code
def yX0_forget : MethodName := ⟨RX0, "forget", "()V"⟩
abbrev cX0_keep : ByteArray := prog_2_method_4_code
def yX0_keep : MethodName := ⟨RX0, "keep", "(LCockleSquires$Flat;)V"⟩
abbrev cX0_takeBack : ByteArray := prog_2_method_5_code
def yX0_takeBack : MethodName := ⟨RX0, "takeBack", "(LCockleSquires$Flat;)Z"⟩
def RX1 : String := "CockleSquires$Asking"
def TX1 : u_T := fun k => match k with
  | 0 => ("CockleSquires$Asking", "trace", "[I", true)
  | _ => ("CockleSquires$Asking", "left", "I", false)
def tyX1 : Nat → FieldType := fun k => match k with
  | 0 => .array .int
  | _ => .int
abbrev wsX10 : List Cond := u_ws RX1 TX1 2
theorem nmX1 : ∀ a, a < 2 → ∀ b, b < 2 → a ≠ b → (TX1 a).2.1 ≠ (TX1 b).2.1 := by decide +kernel
theorem tyX1_ok : ∀ k, k < 2 → parseFieldDescriptor (TX1 k).2.2.1 = some (tyX1 k) := by decide +kernel
abbrev cX1_init : ByteArray := prog_3_method_1_code
def yX1_init : MethodName := ⟨RX1, "<init>", "()V"⟩
abbrev cX1_isSuch : ByteArray := prog_3_method_2_code
def yX1_isSuch : MethodName := ⟨RX1, "isSuch", "(II)Z"⟩
abbrev cX1_answer : ByteArray := prog_3_method_3_code
def yX1_answer : MethodName := ⟨RX1, "answer", "(LCockleSquires$Flat;II)I"⟩
abbrev cX1_traced : ByteArray := prog_3_method_4_code
def yX1_traced : MethodName := ⟨RX1, "traced", "(I)I"⟩
abbrev cX1_leave : ByteArray := prog_3_method_5_code
def yX1_leave : MethodName := ⟨RX1, "leave", "(I)V"⟩
abbrev cX1_sizeBody : ByteArray := prog_3_method_6_code
def yX1_sizeBody : MethodName := ⟨RX1, "sizeBody", "(I)I"⟩
abbrev cX1_markBody : ByteArray := prog_3_method_7_code
def yX1_markBody : MethodName := ⟨RX1, "markBody", "(I)I"⟩
abbrev cX1_give : ByteArray := prog_3_method_8_code
def yX1_give : MethodName := ⟨RX1, "give", "(LCockleSquires$Asking;LCockleSquires$Flat;III)I"⟩
def RX2 : String := "CockleSquires$Flat"
def TX2 : u_T := fun k => match k with
  | 0 => ("CockleSquires$Flat", "beds", "I", false)
  | 1 => ("CockleSquires$Flat", "tide", "I", false)
  | 2 => ("CockleSquires$Flat", "lot", "I", false)
  | 3 => ("CockleSquires$Flat", "vetoes", "I", false)
  | 4 => ("CockleSquires$Flat", "cellA", "I", false)
  | 5 => ("CockleSquires$Flat", "cellB", "I", false)
  | 6 => ("CockleSquires$Flat", "counted", "[I", true)
  | 7 => ("CockleSquires$Flat", "kinds", "[I", true)
  | 8 => ("CockleSquires$Flat", "stocks", "[I", true)
  | _ => ("CockleSquires$Flat", "warms", "[I", true)
def tyX2 : Nat → FieldType := fun k => match k with
  | 0 => .int
  | 1 => .int
  | 2 => .int
  | 3 => .int
  | 4 => .int
  | 5 => .int
  | 6 => .array .int
  | 7 => .array .int
  | 8 => .array .int
  | _ => .array .int
abbrev wsX20 : List Cond := u_ws RX2 TX2 10
theorem nmX2 : ∀ a, a < 10 → ∀ b, b < 10 → a ≠ b → (TX2 a).2.1 ≠ (TX2 b).2.1 := by decide +kernel
theorem tyX2_ok : ∀ k, k < 10 → parseFieldDescriptor (TX2 k).2.2.1 = some (tyX2 k) := by decide +kernel
abbrev cX2_init : ByteArray := prog_4_method_1_code
def yX2_init : MethodName := ⟨RX2, "<init>", "()V"⟩
abbrev cX2_begin : ByteArray := prog_4_method_2_code
def yX2_begin : MethodName := ⟨RX2, "begin", "(III)V"⟩
abbrev cX2_add : ByteArray := prog_4_method_3_code
def yX2_add : MethodName := ⟨RX2, "add", "(III)V"⟩
abbrev cX2_become : ByteArray := prog_4_method_4_code
def yX2_become : MethodName := ⟨RX2, "become", "(LCockleSquires$Flat;)V"⟩
abbrev cX2_isNone : ByteArray := prog_4_method_5_code
def yX2_isNone : MethodName := ⟨RX2, "isNone", "()Z"⟩
abbrev cX2_has : ByteArray := prog_4_method_6_code
def yX2_has : MethodName := ⟨RX2, "has", "(I)Z"⟩
abbrev cX2_hasVeto : ByteArray := prog_4_method_7_code
def yX2_hasVeto : MethodName := ⟨RX2, "hasVeto", "(I)Z"⟩
abbrev cX2_kindOf : ByteArray := prog_4_method_8_code
def yX2_kindOf : MethodName := ⟨RX2, "kindOf", "(I)I"⟩
abbrev cX2_stockOf : ByteArray := prog_4_method_9_code
def yX2_stockOf : MethodName := ⟨RX2, "stockOf", "(I)I"⟩
abbrev cX2_warmOf : ByteArray := prog_4_method_10_code
def yX2_warmOf : MethodName := ⟨RX2, "warmOf", "(I)I"⟩
abbrev cX2_tellOf : ByteArray := prog_4_method_11_code
def yX2_tellOf : MethodName := ⟨RX2, "tellOf", "(II)I"⟩
abbrev cX2_countedFor : ByteArray := prog_4_method_12_code
def yX2_countedFor : MethodName := ⟨RX2, "countedFor", "(I)I"⟩
abbrev cX2_allCounted : ByteArray := prog_4_method_13_code
def yX2_allCounted : MethodName := ⟨RX2, "allCounted", "()I"⟩
abbrev cX2_allStock : ByteArray := prog_4_method_14_code
def yX2_allStock : MethodName := ⟨RX2, "allStock", "()I"⟩
abbrev cX2_kindTo : ByteArray := prog_4_method_15_code
def yX2_kindTo : MethodName := ⟨RX2, "kindTo", "(II)V"⟩
abbrev cX2_warmTo : ByteArray := prog_4_method_16_code
def yX2_warmTo : MethodName := ⟨RX2, "warmTo", "(II)V"⟩
abbrev cX2_lotTo : ByteArray := prog_4_method_17_code
def yX2_lotTo : MethodName := ⟨RX2, "lotTo", "(I)V"⟩
abbrev cX2_turnVeto : ByteArray := prog_4_method_18_code
def yX2_turnVeto : MethodName := ⟨RX2, "turnVeto", "(I)V"⟩
abbrev cX2_standIn : ByteArray := prog_4_method_19_code
def yX2_standIn : MethodName := ⟨RX2, "standIn", "(II)V"⟩
abbrev cX2_lying : ByteArray := prog_4_method_20_code
def yX2_lying : MethodName := ⟨RX2, "lying", "(I)I"⟩
abbrev cX2_nearerBy : ByteArray := prog_4_method_21_code
def yX2_nearerBy : MethodName := ⟨RX2, "nearerBy", "(II)I"⟩
abbrev cX2_otherOne : ByteArray := prog_4_method_22_code
def yX2_otherOne : MethodName := ⟨RX2, "otherOne", "(I)I"⟩
abbrev cX2_byWarmth : ByteArray := prog_4_method_23_code
def yX2_byWarmth : MethodName := ⟨RX2, "byWarmth", "(I)I"⟩
abbrev cX2_flow : ByteArray := prog_4_method_24_code
def yX2_flow : MethodName := ⟨RX2, "flow", "()V"⟩
abbrev cX2_swell : ByteArray := prog_4_method_25_code
def yX2_swell : MethodName := ⟨RX2, "swell", "(I)V"⟩
abbrev cX2_rakeUp : ByteArray := prog_4_method_26_code
def yX2_rakeUp : MethodName := ⟨RX2, "rakeUp", "(II)I"⟩
abbrev cX2_sieved : ByteArray := prog_4_method_27_code
def yX2_sieved : MethodName := ⟨RX2, "sieved", "(I)I"⟩
abbrev cX2_tallyFor : ByteArray := prog_4_method_28_code
def yX2_tallyFor : MethodName := ⟨RX2, "tallyFor", "(I)I"⟩
abbrev cX2_gainBy : ByteArray := prog_4_method_29_code
def yX2_gainBy : MethodName := ⟨RX2, "gainBy", "(II)I"⟩
abbrev cX2_countedLead : ByteArray := prog_4_method_30_code
def yX2_countedLead : MethodName := ⟨RX2, "countedLead", "(I)I"⟩
abbrev cX2_leadOf : ByteArray := prog_4_method_31_code
def yX2_leadOf : MethodName := ⟨RX2, "leadOf", "(I)I"⟩
abbrev cX2_deciding : ByteArray := prog_4_method_32_code
def yX2_deciding : MethodName := ⟨RX2, "deciding", "()I"⟩
abbrev cX2_leader : ByteArray := prog_4_method_33_code
def yX2_leader : MethodName := ⟨RX2, "leader", "(I)I"⟩
def RX3 : String := "CockleSquires$Foretelling"
def TX3 : u_T := fun k => match k with
  | 0 => ("CockleSquires$Foretelling", "then", "LCockleSquires$Flat;", true)
  | 1 => ("CockleSquires$Foretelling", "told", "[I", true)
  | 2 => ("CockleSquires$Foretelling", "gains", "[I", true)
  | _ => ("CockleSquires$Foretelling", "leads", "[I", true)
def tyX3 : Nat → FieldType := fun k => match k with
  | 0 => .object "CockleSquires$Flat"
  | 1 => .array .int
  | 2 => .array .int
  | _ => .array .int
abbrev wsX30 : List Cond := u_ws RX3 TX3 4
theorem nmX3 : ∀ a, a < 4 → ∀ b, b < 4 → a ≠ b → (TX3 a).2.1 ≠ (TX3 b).2.1 := by decide +kernel
theorem tyX3_ok : ∀ k, k < 4 → parseFieldDescriptor (TX3 k).2.2.1 = some (tyX3 k) := by decide +kernel
abbrev cX3_init : ByteArray := prog_5_method_1_code
def yX3_init : MethodName := ⟨RX3, "<init>", "()V"⟩
abbrev cX3_scratch : ByteArray := prog_5_method_2_code
def yX3_scratch : MethodName := ⟨RX3, "scratch", "()LCockleSquires$Flat;"⟩
abbrev cX3_hear : ByteArray := prog_5_method_3_code
def yX3_hear : MethodName := ⟨RX3, "hear", "(LCockleSquires$Rows;III)V"⟩
abbrev cX3_after : ByteArray := prog_5_method_4_code
def yX3_after : MethodName := ⟨RX3, "after", "(LCockleSquires$Flat;I)LCockleSquires$Flat;"⟩
abbrev cX3_firstLying : ByteArray := prog_5_method_5_code
def yX3_firstLying : MethodName := ⟨RX3, "firstLying", "(LCockleSquires$Flat;II)I"⟩
abbrev cX3_leadFrom : ByteArray := prog_5_method_6_code
def yX3_leadFrom : MethodName := ⟨RX3, "leadFrom", "(LCockleSquires$Flat;II)I"⟩
abbrev cX3_bestCell : ByteArray := prog_5_method_7_code
def yX3_bestCell : MethodName := ⟨RX3, "bestCell", "(LCockleSquires$Flat;I)I"⟩
abbrev cX3_weighPairs : ByteArray := prog_5_method_8_code
def yX3_weighPairs : MethodName := ⟨RX3, "weighPairs", "(LCockleSquires$Flat;)V"⟩
abbrev cX3_restingPairs : ByteArray := prog_5_method_9_code
def yX3_restingPairs : MethodName := ⟨RX3, "restingPairs", "()I"⟩
abbrev cX3_firstResting : ByteArray := prog_5_method_10_code
def yX3_firstResting : MethodName := ⟨RX3, "firstResting", "()I"⟩
abbrev cX3_isResting : ByteArray := prog_5_method_11_code
def yX3_isResting : MethodName := ⟨RX3, "isResting", "(II)Z"⟩
abbrev cX3_weighBeds : ByteArray := prog_5_method_12_code
def yX3_weighBeds : MethodName := ⟨RX3, "weighBeds", "(LCockleSquires$Flat;I)V"⟩
abbrev cX3_gainOfAll : ByteArray := prog_5_method_13_code
def yX3_gainOfAll : MethodName := ⟨RX3, "gainOfAll", "(I)I"⟩
abbrev cX3_gainBetween : ByteArray := prog_5_method_14_code
def yX3_gainBetween : MethodName := ⟨RX3, "gainBetween", "(II)I"⟩
abbrev cX3_fewestRaked : ByteArray := prog_5_method_15_code
def yX3_fewestRaked : MethodName := ⟨RX3, "fewestRaked", "(LCockleSquires$Flat;I)I"⟩
abbrev cX3_bestCut : ByteArray := prog_5_method_16_code
def yX3_bestCut : MethodName := ⟨RX3, "bestCut", "(LCockleSquires$Flat;II)I"⟩
abbrev cX3_wardsOf : ByteArray := prog_5_method_17_code
def yX3_wardsOf : MethodName := ⟨RX3, "wardsOf", "(II)I"⟩
abbrev cX3_wardsLed : ByteArray := prog_5_method_18_code
def yX3_wardsLed : MethodName := ⟨RX3, "wardsLed", "(II)I"⟩
abbrev cX3_grownBy : ByteArray := prog_5_method_19_code
def yX3_grownBy : MethodName := ⟨RX3, "grownBy", "(LCockleSquires$Flat;III)I"⟩
abbrev cX3_growsAsTold : ByteArray := prog_5_method_20_code
def yX3_growsAsTold : MethodName := ⟨RX3, "growsAsTold", "(II)Z"⟩
abbrev cX3_lainBy : ByteArray := prog_5_method_21_code
def yX3_lainBy : MethodName := ⟨RX3, "lainBy", "(LCockleSquires$Flat;I)I"⟩
abbrev cX3_liesAsTold : ByteArray := prog_5_method_22_code
def yX3_liesAsTold : MethodName := ⟨RX3, "liesAsTold", "()Z"⟩
abbrev cX3_allCases : ByteArray := prog_5_method_23_code
def yX3_allCases : MethodName := ⟨RX3, "allCases", "(LCockleSquires$Flat;)J"⟩
abbrev cX3_casesLed : ByteArray := prog_5_method_24_code
def yX3_casesLed : MethodName := ⟨RX3, "casesLed", "(LCockleSquires$Flat;II)J"⟩
abbrev cX3_casesOf : ByteArray := prog_5_method_25_code
def yX3_casesOf : MethodName := ⟨RX3, "casesOf", "(LCockleSquires$Flat;II)J"⟩
abbrev cX3_afterYears : ByteArray := prog_5_method_26_code
def yX3_afterYears : MethodName := ⟨RX3, "afterYears", "(LCockleSquires$Flat;II)LCockleSquires$Flat;"⟩
def RX4 : String := "CockleSquires$Rows"
def TX4 : u_T := fun k => match k with
  | 0 => ("CockleSquires$Rows", "items", "[I", true)
  | 1 => ("CockleSquires$Rows", "lanes", "[I", true)
  | _ => ("CockleSquires$Rows", "sizes", "[I", true)
def tyX4 : Nat → FieldType := fun k => match k with
  | 0 => .array .int
  | 1 => .array .int
  | _ => .array .int
abbrev wsX40 : List Cond := u_ws RX4 TX4 3
theorem nmX4 : ∀ a, a < 3 → ∀ b, b < 3 → a ≠ b → (TX4 a).2.1 ≠ (TX4 b).2.1 := by decide +kernel
theorem tyX4_ok : ∀ k, k < 3 → parseFieldDescriptor (TX4 k).2.2.1 = some (tyX4 k) := by decide +kernel
abbrev cX4_init : ByteArray := prog_6_method_1_code
def yX4_init : MethodName := ⟨RX4, "<init>", "()V"⟩
abbrev cX4_isMissing : ByteArray := prog_6_method_2_code
def yX4_isMissing : MethodName := ⟨RX4, "isMissing", "(I)Z"⟩
abbrev cX4_holds : ByteArray := prog_6_method_3_code
def yX4_holds : MethodName := ⟨RX4, "holds", "(III)Z"⟩
abbrev cX4_laneOf : ByteArray := prog_6_method_4_code
def yX4_laneOf : MethodName := ⟨RX4, "laneOf", "(I)I"⟩
abbrev cX4_itemOf : ByteArray := prog_6_method_5_code
def yX4_itemOf : MethodName := ⟨RX4, "itemOf", "(II)I"⟩
abbrev cX4_make : ByteArray := prog_6_method_6_code
def yX4_make : MethodName := ⟨RX4, "make", "(III)V"⟩
abbrev cX4_put : ByteArray := prog_6_method_7_code
def yX4_put : MethodName := ⟨RX4, "put", "(III)I"⟩
abbrev cX4_carry : ByteArray := prog_6_method_8_code
def yX4_carry : MethodName := ⟨RX4, "carry", "(IIIII)V"⟩
abbrev cX4_lose : ByteArray := prog_6_method_9_code
def yX4_lose : MethodName := ⟨RX4, "lose", "(I)I"⟩
abbrev cX4_present : ByteArray := prog_6_method_10_code
def yX4_present : MethodName := ⟨RX4, "present", "()I"⟩
abbrev cX4_inLane : ByteArray := prog_6_method_11_code
def yX4_inLane : MethodName := ⟨RX4, "inLane", "(II)I"⟩
def RX5 : String := "CockleSquires$Tape"
def TX5 : u_T := fun k => match k with
  | 0 => ("CockleSquires$Tape", "letters", "[I", true)
  | 1 => ("CockleSquires$Tape", "length", "I", false)
  | 2 => ("CockleSquires$Tape", "at", "I", false)
  | _ => ("CockleSquires$Tape", "wrong", "I", false)
def tyX5 : Nat → FieldType := fun k => match k with
  | 0 => .array .int
  | 1 => .int
  | 2 => .int
  | _ => .int
abbrev wsX50 : List Cond := u_ws RX5 TX5 4
theorem nmX5 : ∀ a, a < 4 → ∀ b, b < 4 → a ≠ b → (TX5 a).2.1 ≠ (TX5 b).2.1 := by decide +kernel
theorem tyX5_ok : ∀ k, k < 4 → parseFieldDescriptor (TX5 k).2.2.1 = some (tyX5 k) := by decide +kernel
abbrev cX5_init : ByteArray := prog_7_method_1_code
def yX5_init : MethodName := ⟨RX5, "<init>", "()V"⟩
abbrev cX5_length : ByteArray := prog_7_method_2_code
def yX5_length : MethodName := ⟨RX5, "length", "()I"⟩
abbrev cX5_append : ByteArray := prog_7_method_3_code
def yX5_append : MethodName := ⟨RX5, "append", "(I)I"⟩
abbrev cX5_clear : ByteArray := prog_7_method_4_code
def yX5_clear : MethodName := ⟨RX5, "clear", "()V"⟩
abbrev cX5_readTo : ByteArray := prog_7_method_5_code
def yX5_readTo : MethodName := ⟨RX5, "readTo", "()I"⟩
abbrev cX5_readInto : ByteArray := prog_7_method_6_code
def yX5_readInto : MethodName := ⟨RX5, "readInto", "(LCockleSquires$Flat;)I"⟩
abbrev cX5_readLaw : ByteArray := prog_7_method_7_code
def yX5_readLaw : MethodName := ⟨RX5, "readLaw", "(LCockleSquires$Flat;)Z"⟩
abbrev cX5_readBeds : ByteArray := prog_7_method_8_code
def yX5_readBeds : MethodName := ⟨RX5, "readBeds", "(LCockleSquires$Flat;)V"⟩
abbrev cX5_readBed : ByteArray := prog_7_method_9_code
def yX5_readBed : MethodName := ⟨RX5, "readBed", "(LCockleSquires$Flat;)Z"⟩
abbrev cX5_takes : ByteArray := prog_7_method_10_code
def yX5_takes : MethodName := ⟨RX5, "takes", "(I)Z"⟩
abbrev cX5_number : ByteArray := prog_7_method_11_code
def yX5_number : MethodName := ⟨RX5, "number", "(II)I"⟩
abbrev cX5_figuresAhead : ByteArray := prog_7_method_12_code
def yX5_figuresAhead : MethodName := ⟨RX5, "figuresAhead", "()I"⟩
abbrev cX5_letterAt : ByteArray := prog_7_method_13_code
def yX5_letterAt : MethodName := ⟨RX5, "letterAt", "(I)I"⟩
abbrev cX5_fails : ByteArray := prog_7_method_14_code
def yX5_fails : MethodName := ⟨RX5, "fails", "(I)Z"⟩
abbrev cX5_kindNamed : ByteArray := prog_7_method_15_code
def yX5_kindNamed : MethodName := ⟨RX5, "kindNamed", "(I)I"⟩
def RX6 : String := "CockleSquires"
def TX6 : u_T := fun k => match k with
  | 0 => ("CockleSquires", "rows", "LCockleSquires$Rows;", true)
  | 1 => ("CockleSquires", "tape", "LCockleSquires$Tape;", true)
  | 2 => ("CockleSquires", "now", "LCockleSquires$Flat;", true)
  | 3 => ("CockleSquires", "acts", "LCockleSquires$Acts;", true)
  | 4 => ("CockleSquires", "images", "[LCockleSquires$Flat;", true)
  | 5 => ("CockleSquires", "foretelling", "LCockleSquires$Foretelling;", true)
  | 6 => ("CockleSquires", "asking", "LCockleSquires$Asking;", true)
  | 7 => ("CockleSquires", "latestFault", "I", false)
  | _ => ("CockleSquires", "latestFinding", "I", false)
def tyX6 : Nat → FieldType := fun k => match k with
  | 0 => .object "CockleSquires$Rows"
  | 1 => .object "CockleSquires$Tape"
  | 2 => .object "CockleSquires$Flat"
  | 3 => .object "CockleSquires$Acts"
  | 4 => .array (.object "CockleSquires$Flat")
  | 5 => .object "CockleSquires$Foretelling"
  | 6 => .object "CockleSquires$Asking"
  | 7 => .int
  | _ => .int
abbrev wsX60 : List Cond := u_ws RX6 TX6 9
theorem nmX6 : ∀ a, a < 9 → ∀ b, b < 9 → a ≠ b → (TX6 a).2.1 ≠ (TX6 b).2.1 := by decide +kernel
theorem tyX6_ok : ∀ k, k < 9 → parseFieldDescriptor (TX6 k).2.2.1 = some (tyX6 k) := by decide +kernel
abbrev cX6_init : ByteArray := prog_1_method_1_code
def yX6_init : MethodName := ⟨RX6, "<init>", "()V"⟩
abbrev cX6_row : ByteArray := prog_1_method_2_code
def yX6_row : MethodName := ⟨RX6, "row", "(III)I"⟩
abbrev cX6_set : ByteArray := prog_1_method_3_code
def yX6_set : MethodName := ⟨RX6, "set", "(III)I"⟩
abbrev cX6_copy : ByteArray := prog_1_method_4_code
def yX6_copy : MethodName := ⟨RX6, "copy", "(IIIII)I"⟩
abbrev cX6_drop : ByteArray := prog_1_method_5_code
def yX6_drop : MethodName := ⟨RX6, "drop", "(I)I"⟩
abbrev cX6_feed : ByteArray := prog_1_method_6_code
def yX6_feed : MethodName := ⟨RX6, "feed", "(I)I"⟩
abbrev cX6_flat : ByteArray := prog_1_method_7_code
def yX6_flat : MethodName := ⟨RX6, "flat", "()I"⟩
abbrev cX6_fault : ByteArray := prog_1_method_8_code
def yX6_fault : MethodName := ⟨RX6, "fault", "()I"⟩
abbrev cX6_undo : ByteArray := prog_1_method_9_code
def yX6_undo : MethodName := ⟨RX6, "undo", "()I"⟩
abbrev cX6_tides : ByteArray := prog_1_method_10_code
def yX6_tides : MethodName := ⟨RX6, "tides", "(I)I"⟩
abbrev cX6_rake : ByteArray := prog_1_method_11_code
def yX6_rake : MethodName := ⟨RX6, "rake", "(II)I"⟩
abbrev cX6_rain : ByteArray := prog_1_method_12_code
def yX6_rain : MethodName := ⟨RX6, "rain", "(II)I"⟩
abbrev cX6_veto : ByteArray := prog_1_method_13_code
def yX6_veto : MethodName := ⟨RX6, "veto", "(II)I"⟩
abbrev cX6_stand : ByteArray := prog_1_method_14_code
def yX6_stand : MethodName := ⟨RX6, "stand", "(II)I"⟩
abbrev cX6_bed : ByteArray := prog_1_method_15_code
def yX6_bed : MethodName := ⟨RX6, "bed", "(II)I"⟩
abbrev cX6_board : ByteArray := prog_1_method_16_code
def yX6_board : MethodName := ⟨RX6, "board", "(I)I"⟩
abbrev cX6_ahead : ByteArray := prog_1_method_17_code
def yX6_ahead : MethodName := ⟨RX6, "ahead", "(III)I"⟩
abbrev cX6_tally : ByteArray := prog_1_method_18_code
def yX6_tally : MethodName := ⟨RX6, "tally", "(II)I"⟩
abbrev cX6_when : ByteArray := prog_1_method_19_code
def yX6_when : MethodName := ⟨RX6, "when", "(II)I"⟩
abbrev cX6_place : ByteArray := prog_1_method_20_code
def yX6_place : MethodName := ⟨RX6, "place", "(II)I"⟩
abbrev cX6_rests : ByteArray := prog_1_method_21_code
def yX6_rests : MethodName := ⟨RX6, "rests", "(I)I"⟩
abbrev cX6_rakes : ByteArray := prog_1_method_22_code
def yX6_rakes : MethodName := ⟨RX6, "rakes", "(II)I"⟩
abbrev cX6_wards : ByteArray := prog_1_method_23_code
def yX6_wards : MethodName := ⟨RX6, "wards", "(III)I"⟩
abbrev cX6_decide : ByteArray := prog_1_method_24_code
def yX6_decide : MethodName := ⟨RX6, "decide", "()I"⟩
abbrev cX6_grown : ByteArray := prog_1_method_25_code
def yX6_grown : MethodName := ⟨RX6, "grown", "(IIIII)I"⟩
abbrev cX6_lain : ByteArray := prog_1_method_26_code
def yX6_lain : MethodName := ⟨RX6, "lain", "(III)I"⟩
abbrev cX6_flood : ByteArray := prog_1_method_27_code
def yX6_flood : MethodName := ⟨RX6, "flood", "(III)J"⟩
abbrev cX6_drawn : ByteArray := prog_1_method_28_code
def yX6_drawn : MethodName := ⟨RX6, "drawn", "(III)I"⟩
abbrev cX6_image : ByteArray := prog_1_method_29_code
def yX6_image : MethodName := ⟨RX6, "image", "(I)I"⟩
abbrev cX6_restore : ByteArray := prog_1_method_30_code
def yX6_restore : MethodName := ⟨RX6, "restore", "(I)I"⟩
abbrev cX6_kind : ByteArray := prog_1_method_31_code
def yX6_kind : MethodName := ⟨RX6, "kind", "(I)I"⟩
abbrev cX6_as : ByteArray := prog_1_method_32_code
def yX6_as : MethodName := ⟨RX6, "as", "(II)I"⟩
abbrev cX6_ask : ByteArray := prog_1_method_33_code
def yX6_ask : MethodName := ⟨RX6, "ask", "(II)I"⟩
abbrev cX6_trace : ByteArray := prog_1_method_34_code
def yX6_trace : MethodName := ⟨RX6, "trace", "(I)I"⟩
abbrev cX6_count : ByteArray := prog_1_method_35_code
def yX6_count : MethodName := ⟨RX6, "count", "(I)I"⟩
abbrev cX6_status : ByteArray := prog_1_method_36_code
def yX6_status : MethodName := ⟨RX6, "status", "()I"⟩
abbrev cX6_found : ByteArray := prog_1_method_37_code
def yX6_found : MethodName := ⟨RX6, "found", "(I)I"⟩
abbrev cX6_unfound : ByteArray := prog_1_method_38_code
def yX6_unfound : MethodName := ⟨RX6, "unfound", "(I)I"⟩
abbrev cX6_within : ByteArray := prog_1_method_39_code
def yX6_within : MethodName := ⟨RX6, "within", "(III)Z"⟩
abbrev cX6_isOne : ByteArray := prog_1_method_40_code
def yX6_isOne : MethodName := ⟨RX6, "isOne", "(I)Z"⟩
abbrev cX6_commonDivisor : ByteArray := prog_1_method_41_code
def yX6_commonDivisor : MethodName := ⟨RX6, "commonDivisor", "(JJ)J"⟩
def RX7 : String := "CockleSquiresModel"
def TX7 : u_T := fun k => match k with
  | 0 => ("CockleSquiresModel", "lanes", "[I", true)
  | 1 => ("CockleSquiresModel", "sizes", "[I", true)
  | 2 => ("CockleSquiresModel", "items", "[I", true)
  | 3 => ("CockleSquiresModel", "status", "I", false)
  | 4 => ("CockleSquiresModel", "isThere", "Z", false)
  | 5 => ("CockleSquiresModel", "st", "[I", true)
  | 6 => ("CockleSquiresModel", "moved", "[I", true)
  | 7 => ("CockleSquiresModel", "tape", "[I", true)
  | 8 => ("CockleSquiresModel", "bytes", "I", false)
  | 9 => ("CockleSquiresModel", "latest", "I", false)
  | 10 => ("CockleSquiresModel", "place", "I", false)
  | 11 => ("CockleSquiresModel", "token", "I", false)
  | 12 => ("CockleSquiresModel", "value", "I", false)
  | 13 => ("CockleSquiresModel", "begins", "I", false)
  | 14 => ("CockleSquiresModel", "wrong", "I", false)
  | 15 => ("CockleSquiresModel", "read", "[I", true)
  | 16 => ("CockleSquiresModel", "acts", "[I", true)
  | 17 => ("CockleSquiresModel", "actMany", "I", false)
  | 18 => ("CockleSquiresModel", "aside", "[I", true)
  | 19 => ("CockleSquiresModel", "isKept", "[Z", true)
  | 20 => ("CockleSquiresModel", "kept", "[I", true)
  | 21 => ("CockleSquiresModel", "trace", "[I", true)
  | _ => ("CockleSquiresModel", "traced", "I", false)
def tyX7 : Nat → FieldType := fun k => match k with
  | 0 => .array .int
  | 1 => .array .int
  | 2 => .array .int
  | 3 => .int
  | 4 => .boolean
  | 5 => .array .int
  | 6 => .array .int
  | 7 => .array .int
  | 8 => .int
  | 9 => .int
  | 10 => .int
  | 11 => .int
  | 12 => .int
  | 13 => .int
  | 14 => .int
  | 15 => .array .int
  | 16 => .array .int
  | 17 => .int
  | 18 => .array .int
  | 19 => .array .boolean
  | 20 => .array .int
  | 21 => .array .int
  | _ => .int
abbrev wsX70 : List Cond := u_ws RX7 TX7 23
theorem nmX7 : ∀ a, a < 23 → ∀ b, b < 23 → a ≠ b → (TX7 a).2.1 ≠ (TX7 b).2.1 := by decide +kernel
theorem tyX7_ok : ∀ k, k < 23 → parseFieldDescriptor (TX7 k).2.2.1 = some (tyX7 k) := by decide +kernel
abbrev cX7_init : ByteArray := prog_9_method_1_code
def yX7_init : MethodName := ⟨RX7, "<init>", "()V"⟩
abbrev cX7_in : ByteArray := prog_9_method_2_code
def yX7_in : MethodName := ⟨RX7, "in", "(JJJ)Z"⟩
abbrev cX7_has : ByteArray := prog_9_method_3_code
def yX7_has : MethodName := ⟨RX7, "has", "(II)Z"⟩
abbrev cX7_ones : ByteArray := prog_9_method_4_code
def yX7_ones : MethodName := ⟨RX7, "ones", "(I)I"⟩
abbrev cX7_find : ByteArray := prog_9_method_5_code
def yX7_find : MethodName := ⟨RX7, "find", "(I)I"⟩
abbrev cX7_well : ByteArray := prog_9_method_6_code
def yX7_well : MethodName := ⟨RX7, "well", "(I)I"⟩
abbrev cX7_isRow : ByteArray := prog_9_method_7_code
def yX7_isRow : MethodName := ⟨RX7, "isRow", "(I)Z"⟩
abbrev cX7_row : ByteArray := prog_9_method_8_code
def yX7_row : MethodName := ⟨RX7, "row", "(III)I"⟩
abbrev cX7_asLane : ByteArray := prog_9_method_9_code
def yX7_asLane : MethodName := ⟨RX7, "asLane", "(II)I"⟩
abbrev cX7_set : ByteArray := prog_9_method_10_code
def yX7_set : MethodName := ⟨RX7, "set", "(III)I"⟩
abbrev cX7_copy : ByteArray := prog_9_method_11_code
def yX7_copy : MethodName := ⟨RX7, "copy", "(IIIII)I"⟩
abbrev cX7_drop : ByteArray := prog_9_method_12_code
def yX7_drop : MethodName := ⟨RX7, "drop", "(I)I"⟩
abbrev cX7_feed : ByteArray := prog_9_method_13_code
def yX7_feed : MethodName := ⟨RX7, "feed", "(I)I"⟩
abbrev cX7_nextToken : ByteArray := prog_9_method_14_code
def yX7_nextToken : MethodName := ⟨RX7, "nextToken", "()V"⟩
abbrev cX7_faults : ByteArray := prog_9_method_15_code
def yX7_faults : MethodName := ⟨RX7, "faults", "(I)Z"⟩
abbrev cX7_takes : ByteArray := prog_9_method_16_code
def yX7_takes : MethodName := ⟨RX7, "takes", "(I)Z"⟩
abbrev cX7_takesNumber : ByteArray := prog_9_method_17_code
def yX7_takesNumber : MethodName := ⟨RX7, "takesNumber", "(IIII)Z"⟩
abbrev cX7_kindBy : ByteArray := prog_9_method_18_code
def yX7_kindBy : MethodName := ⟨RX7, "kindBy", "(I)I"⟩
abbrev cX7_readBed : ByteArray := prog_9_method_19_code
def yX7_readBed : MethodName := ⟨RX7, "readBed", "()Z"⟩
abbrev cX7_readFlat : ByteArray := prog_9_method_20_code
def yX7_readFlat : MethodName := ⟨RX7, "readFlat", "()Z"⟩
abbrev cX7_flat : ByteArray := prog_9_method_21_code
def yX7_flat : MethodName := ⟨RX7, "flat", "()I"⟩
abbrev cX7_fault : ByteArray := prog_9_method_22_code
def yX7_fault : MethodName := ⟨RX7, "fault", "()I"⟩
abbrev cX7_isBed : ByteArray := prog_9_method_23_code
def yX7_isBed : MethodName := ⟨RX7, "isBed", "(I)Z"⟩
abbrev cX7_isWho : ByteArray := prog_9_method_24_code
def yX7_isWho : MethodName := ⟨RX7, "isWho", "(I)Z"⟩
abbrev cX7_off : ByteArray := prog_9_method_25_code
def yX7_off : MethodName := ⟨RX7, "off", "(II)I"⟩
abbrev cX7_nearer : ByteArray := prog_9_method_26_code
def yX7_nearer : MethodName := ⟨RX7, "nearer", "(II)I"⟩
abbrev cX7_lies : ByteArray := prog_9_method_27_code
def yX7_lies : MethodName := ⟨RX7, "lies", "(I)I"⟩
abbrev cX7_hasVeto : ByteArray := prog_9_method_28_code
def yX7_hasVeto : MethodName := ⟨RX7, "hasVeto", "(I)Z"⟩
abbrev cX7_rakeBy : ByteArray := prog_9_method_29_code
def yX7_rakeBy : MethodName := ⟨RX7, "rakeBy", "(II)V"⟩
abbrev cX7_oneTide : ByteArray := prog_9_method_30_code
def yX7_oneTide : MethodName := ⟨RX7, "oneTide", "()V"⟩
abbrev cX7_allSizes : ByteArray := prog_9_method_31_code
def yX7_allSizes : MethodName := ⟨RX7, "allSizes", "()I"⟩
abbrev cX7_note : ByteArray := prog_9_method_32_code
def yX7_note : MethodName := ⟨RX7, "note", "()V"⟩
abbrev cX7_undo : ByteArray := prog_9_method_33_code
def yX7_undo : MethodName := ⟨RX7, "undo", "()I"⟩
abbrev cX7_tides : ByteArray := prog_9_method_34_code
def yX7_tides : MethodName := ⟨RX7, "tides", "(I)I"⟩
abbrev cX7_rake : ByteArray := prog_9_method_35_code
def yX7_rake : MethodName := ⟨RX7, "rake", "(II)I"⟩
abbrev cX7_rain : ByteArray := prog_9_method_36_code
def yX7_rain : MethodName := ⟨RX7, "rain", "(II)I"⟩
abbrev cX7_veto : ByteArray := prog_9_method_37_code
def yX7_veto : MethodName := ⟨RX7, "veto", "(II)I"⟩
abbrev cX7_stand : ByteArray := prog_9_method_38_code
def yX7_stand : MethodName := ⟨RX7, "stand", "(II)I"⟩
abbrev cX7_toldOf : ByteArray := prog_9_method_39_code
def yX7_toldOf : MethodName := ⟨RX7, "toldOf", "(II)I"⟩
abbrev cX7_bed : ByteArray := prog_9_method_40_code
def yX7_bed : MethodName := ⟨RX7, "bed", "(II)I"⟩
abbrev cX7_board : ByteArray := prog_9_method_41_code
def yX7_board : MethodName := ⟨RX7, "board", "(I)I"⟩
abbrev cX7_putAside : ByteArray := prog_9_method_42_code
def yX7_putAside : MethodName := ⟨RX7, "putAside", "()V"⟩
abbrev cX7_takeBack : ByteArray := prog_9_method_43_code
def yX7_takeBack : MethodName := ⟨RX7, "takeBack", "()V"⟩
abbrev cX7_isWhat : ByteArray := prog_9_method_44_code
def yX7_isWhat : MethodName := ⟨RX7, "isWhat", "(I)Z"⟩
abbrev cX7_goOn : ByteArray := prog_9_method_45_code
def yX7_goOn : MethodName := ⟨RX7, "goOn", "(I)V"⟩
abbrev cX7_ahead : ByteArray := prog_9_method_46_code
def yX7_ahead : MethodName := ⟨RX7, "ahead", "(III)I"⟩
abbrev cX7_bringFor : ByteArray := prog_9_method_47_code
def yX7_bringFor : MethodName := ⟨RX7, "bringFor", "(II)I"⟩
abbrev cX7_tallyOf : ByteArray := prog_9_method_48_code
def yX7_tallyOf : MethodName := ⟨RX7, "tallyOf", "(I)I"⟩
abbrev cX7_leadOf : ByteArray := prog_9_method_49_code
def yX7_leadOf : MethodName := ⟨RX7, "leadOf", "(I)I"⟩
abbrev cX7_tally : ByteArray := prog_9_method_50_code
def yX7_tally : MethodName := ⟨RX7, "tally", "(II)I"⟩
abbrev cX7_when : ByteArray := prog_9_method_51_code
def yX7_when : MethodName := ⟨RX7, "when", "(II)I"⟩
abbrev cX7_bestCell : ByteArray := prog_9_method_52_code
def yX7_bestCell : MethodName := ⟨RX7, "bestCell", "(I)I"⟩
abbrev cX7_leadFrom : ByteArray := prog_9_method_53_code
def yX7_leadFrom : MethodName := ⟨RX7, "leadFrom", "(II)I"⟩
abbrev cX7_place : ByteArray := prog_9_method_54_code
def yX7_place : MethodName := ⟨RX7, "place", "(II)I"⟩
abbrev cX7_rests : ByteArray := prog_9_method_55_code
def yX7_rests : MethodName := ⟨RX7, "rests", "(I)I"⟩
abbrev cX7_rakes : ByteArray := prog_9_method_56_code
def yX7_rakes : MethodName := ⟨RX7, "rakes", "(II)I"⟩
abbrev cX7_ledBy : ByteArray := prog_9_method_57_code
def yX7_ledBy : MethodName := ⟨RX7, "ledBy", "(III)I"⟩
abbrev cX7_wards : ByteArray := prog_9_method_58_code
def yX7_wards : MethodName := ⟨RX7, "wards", "(III)I"⟩
abbrev cX7_sign : ByteArray := prog_9_method_59_code
def yX7_sign : MethodName := ⟨RX7, "sign", "(I)I"⟩
abbrev cX7_decide : ByteArray := prog_9_method_60_code
def yX7_decide : MethodName := ⟨RX7, "decide", "()I"⟩
abbrev cX7_lacks : ByteArray := prog_9_method_61_code
def yX7_lacks : MethodName := ⟨RX7, "lacks", "(III)I"⟩
abbrev cX7_isSo : ByteArray := prog_9_method_62_code
def yX7_isSo : MethodName := ⟨RX7, "isSo", "(III)Z"⟩
abbrev cX7_grown : ByteArray := prog_9_method_63_code
def yX7_grown : MethodName := ⟨RX7, "grown", "(IIIII)I"⟩
abbrev cX7_lain : ByteArray := prog_9_method_64_code
def yX7_lain : MethodName := ⟨RX7, "lain", "(III)I"⟩
abbrev cX7_flood : ByteArray := prog_9_method_65_code
def yX7_flood : MethodName := ⟨RX7, "flood", "(III)J"⟩
abbrev cX7_drawn : ByteArray := prog_9_method_66_code
def yX7_drawn : MethodName := ⟨RX7, "drawn", "(III)I"⟩
abbrev cX7_image : ByteArray := prog_9_method_67_code
def yX7_image : MethodName := ⟨RX7, "image", "(I)I"⟩
abbrev cX7_restore : ByteArray := prog_9_method_68_code
def yX7_restore : MethodName := ⟨RX7, "restore", "(I)I"⟩
abbrev cX7_kind : ByteArray := prog_9_method_69_code
def yX7_kind : MethodName := ⟨RX7, "kind", "(I)I"⟩
abbrev cX7_isKind : ByteArray := prog_9_method_70_code
def yX7_isKind : MethodName := ⟨RX7, "isKind", "(II)Z"⟩
abbrev cX7_as : ByteArray := prog_9_method_71_code
def yX7_as : MethodName := ⟨RX7, "as", "(II)I"⟩
abbrev cX7_begin : ByteArray := prog_9_method_72_code
def yX7_begin : MethodName := ⟨RX7, "begin", "(I)V"⟩
abbrev cX7_lent : ByteArray := prog_9_method_73_code
def yX7_lent : MethodName := ⟨RX7, "lent", "(II)I"⟩
abbrev cX7_commonMark : ByteArray := prog_9_method_74_code
def yX7_commonMark : MethodName := ⟨RX7, "commonMark", "(I)I"⟩
abbrev cX7_warmSize : ByteArray := prog_9_method_75_code
def yX7_warmSize : MethodName := ⟨RX7, "warmSize", "(I)I"⟩
abbrev cX7_sizeOfWarm : ByteArray := prog_9_method_76_code
def yX7_sizeOfWarm : MethodName := ⟨RX7, "sizeOfWarm", "(I)I"⟩
abbrev cX7_markOf : ByteArray := prog_9_method_77_code
def yX7_markOf : MethodName := ⟨RX7, "markOf", "(I)I"⟩
abbrev cX7_commonSize : ByteArray := prog_9_method_78_code
def yX7_commonSize : MethodName := ⟨RX7, "commonSize", "(I)I"⟩
abbrev cX7_sizeOf : ByteArray := prog_9_method_79_code
def yX7_sizeOf : MethodName := ⟨RX7, "sizeOf", "(I)I"⟩
abbrev cX7_ask : ByteArray := prog_9_method_80_code
def yX7_ask : MethodName := ⟨RX7, "ask", "(II)I"⟩
abbrev cX7_trace : ByteArray := prog_9_method_81_code
def yX7_trace : MethodName := ⟨RX7, "trace", "(I)I"⟩
abbrev cX7_count : ByteArray := prog_9_method_82_code
def yX7_count : MethodName := ⟨RX7, "count", "(I)I"⟩
abbrev cX7_status : ByteArray := prog_9_method_83_code
def yX7_status : MethodName := ⟨RX7, "status", "()I"⟩
def RJ6 : String := "java/lang/Integer"
def TJ6 : u_T := fun k => match k with
  | _ => ("", "", "", false)
def tyJ6 : Nat → FieldType := fun k => match k with
  | _ => .int
abbrev wsJ60 : List Cond := u_ws RJ6 TJ6 0
theorem nmJ6 : ∀ a, a < 0 → ∀ b, b < 0 → a ≠ b → (TJ6 a).2.1 ≠ (TJ6 b).2.1 := by decide +kernel
theorem tyJ6_ok : ∀ k, k < 0 → parseFieldDescriptor (TJ6 k).2.2.1 = some (tyJ6 k) := by decide +kernel
abbrev cJ6_bitCount_0f7a4 : ByteArray := prog_10_method_49_code
def yJ6_bitCount_0f7a4 : MethodName := ⟨RJ6, "bitCount", "(I)I"⟩
def RJ9 : String := "java/lang/Math"
def TJ9 : u_T := fun k => match k with
  | _ => ("", "", "", false)
def tyJ9 : Nat → FieldType := fun k => match k with
  | _ => .int
abbrev wsJ90 : List Cond := u_ws RJ9 TJ9 0
theorem nmJ9 : ∀ a, a < 0 → ∀ b, b < 0 → a ≠ b → (TJ9 a).2.1 ≠ (TJ9 b).2.1 := by decide +kernel
theorem tyJ9_ok : ∀ k, k < 0 → parseFieldDescriptor (TJ9 k).2.2.1 = some (tyJ9 k) := by decide +kernel
abbrev cJ9_abs_0f7a4 : ByteArray := prog_11_method_59_code
def yJ9_abs_0f7a4 : MethodName := ⟨RJ9, "abs", "(I)I"⟩
abbrev cJ9_max_7cf53 : ByteArray := prog_11_method_65_code
def yJ9_max_7cf53 : MethodName := ⟨RJ9, "max", "(II)I"⟩
abbrev cJ9_min_7cf53 : ByteArray := prog_11_method_69_code
def yJ9_min_7cf53 : MethodName := ⟨RJ9, "min", "(II)I"⟩
def RJ10 : String := "java/lang/System"
def TJ10 : u_T := fun k => match k with
  | _ => ("", "", "", false)
def tyJ10 : Nat → FieldType := fun k => match k with
  | _ => .int
abbrev wsJ100 : List Cond := u_ws RJ10 TJ10 0
theorem nmJ10 : ∀ a, a < 0 → ∀ b, b < 0 → a ≠ b → (TJ10 a).2.1 ≠ (TJ10 b).2.1 := by decide +kernel
theorem tyJ10_ok : ∀ k, k < 0 → parseFieldDescriptor (TJ10 k).2.2.1 = some (tyJ10 k) := by decide +kernel
def RL : String := "CockleSquiresLaw"
abbrev cL_law : ByteArray := code
def yL_law : MethodName := ⟨RL, "law", "([I)Z"⟩
def wsL_law_r1 : List Cond := [Cond.classLink RL 7 RX6, Cond.instantiable RX6 9, Cond.initialized RX6, Cond.classLink RL 10 RX7, Cond.instantiable RX7 23, Cond.initialized RX7, Cond.methodLink RL 9 yX6_init, Cond.instanceMethod yX6_init, Cond.code yX6_init cX6_init 1 none, Cond.methodLink RX6 1 objectInit, Cond.instanceMethod objectInit, Cond.code objectInit ⟨#[0xb1]⟩ 1 none, Cond.classLink RX6 7 RX4, Cond.instantiable RX4 3, Cond.initialized RX4, Cond.fieldLink RX6 10 "CockleSquires" "rows" "LCockleSquires$Rows;", Cond.classLink RX6 16 RX5, Cond.instantiable RX5 4, Cond.initialized RX5, Cond.fieldLink RX6 19 "CockleSquires" "tape" "LCockleSquires$Tape;", Cond.classLink RX6 23 RX2, Cond.instantiable RX2 10, Cond.initialized RX2, Cond.fieldLink RX6 26 "CockleSquires" "now" "LCockleSquires$Flat;"]
def wsL_law_r2 : List Cond := [Cond.classLink RX6 30 RX0, Cond.instantiable RX0 3, Cond.initialized RX0, Cond.fieldLink RX6 33 "CockleSquires" "acts" "LCockleSquires$Acts;", Cond.fieldLink RX6 37 "CockleSquires" "images" "[LCockleSquires$Flat;", Cond.classLink RX6 41 RX3, Cond.instantiable RX3 4, Cond.initialized RX3, Cond.fieldLink RX6 44 "CockleSquires" "foretelling" "LCockleSquires$Foretelling;", Cond.classLink RX6 48 RX1, Cond.instantiable RX1 2, Cond.initialized RX1, Cond.fieldLink RX6 51 "CockleSquires" "asking" "LCockleSquires$Asking;", Cond.fieldLink RX6 55 "CockleSquires" "latestFault" "I", Cond.fieldLink RX6 59 "CockleSquires" "latestFinding" "I", Cond.methodLink RX6 9 yX4_init, Cond.instanceMethod yX4_init, Cond.code yX4_init cX4_init 2 none, Cond.methodLink RX4 3 objectInit, Cond.arrayClass .int, Cond.fieldLink RX4 9 "CockleSquires$Rows" "items" "[I", Cond.fieldLink RX4 15 "CockleSquires$Rows" "lanes" "[I", Cond.fieldLink RX4 18 "CockleSquires$Rows" "sizes" "[I", Cond.instanceMethod yX5_init]
def wsL_law_r3 : List Cond := [Cond.code yX5_init cX5_init 1 none, Cond.methodLink RX5 3 objectInit, Cond.fieldLink RX5 9 "CockleSquires$Tape" "letters" "[I", Cond.fieldLink RX5 15 "CockleSquires$Tape" "length" "I", Cond.fieldLink RX5 19 "CockleSquires$Tape" "at" "I", Cond.fieldLink RX5 22 "CockleSquires$Tape" "wrong" "I", Cond.instanceMethod yX2_init, Cond.code yX2_init cX2_init 1 none, Cond.methodLink RX2 3 objectInit, Cond.fieldLink RX2 9 "CockleSquires$Flat" "beds" "I", Cond.fieldLink RX2 15 "CockleSquires$Flat" "tide" "I", Cond.fieldLink RX2 18 "CockleSquires$Flat" "lot" "I", Cond.fieldLink RX2 21 "CockleSquires$Flat" "vetoes" "I", Cond.fieldLink RX2 24 "CockleSquires$Flat" "cellA" "I", Cond.fieldLink RX2 27 "CockleSquires$Flat" "cellB" "I", Cond.fieldLink RX2 30 "CockleSquires$Flat" "counted" "[I", Cond.fieldLink RX2 34 "CockleSquires$Flat" "kinds" "[I", Cond.fieldLink RX2 37 "CockleSquires$Flat" "stocks" "[I", Cond.fieldLink RX2 40 "CockleSquires$Flat" "warms" "[I", Cond.instanceMethod yX0_init, Cond.code yX0_init cX0_init 1 none, Cond.methodLink RX0 3 objectInit, Cond.classLink RX0 9 RX2, Cond.fieldLink RX0 11 "CockleSquires$Acts" "ring" "[LCockleSquires$Flat;"]
def wsL_law_r4 : List Cond := [Cond.fieldLink RX0 17 "CockleSquires$Acts" "next" "I", Cond.fieldLink RX0 21 "CockleSquires$Acts" "kept" "I", Cond.instanceMethod yX3_init, Cond.code yX3_init cX3_init 1 none, Cond.methodLink RX3 3 objectInit, Cond.classLink RX3 9 RX2, Cond.fieldLink RX3 12 "CockleSquires$Foretelling" "then" "LCockleSquires$Flat;", Cond.fieldLink RX3 18 "CockleSquires$Foretelling" "told" "[I", Cond.fieldLink RX3 22 "CockleSquires$Foretelling" "gains" "[I", Cond.fieldLink RX3 25 "CockleSquires$Foretelling" "leads" "[I", Cond.instanceMethod yX1_init, Cond.code yX1_init cX1_init 1 none, Cond.methodLink RX1 3 objectInit, Cond.fieldLink RX1 9 "CockleSquires$Asking" "trace" "[I", Cond.fieldLink RX1 15 "CockleSquires$Asking" "left" "I", Cond.methodLink RL 12 yX7_init, Cond.instanceMethod yX7_init, Cond.code yX7_init cX7_init 2 none, Cond.methodLink RX7 1 objectInit, Cond.fieldLink RX7 7 "CockleSquiresModel" "lanes" "[I", Cond.fieldLink RX7 13 "CockleSquiresModel" "sizes" "[I", Cond.fieldLink RX7 16 "CockleSquiresModel" "items" "[I", Cond.fieldLink RX7 19 "CockleSquiresModel" "st" "[I", Cond.fieldLink RX7 22 "CockleSquiresModel" "moved" "[I"]
def wsL_law_r5 : List Cond := [Cond.fieldLink RX7 25 "CockleSquiresModel" "tape" "[I", Cond.fieldLink RX7 28 "CockleSquiresModel" "read" "[I", Cond.fieldLink RX7 31 "CockleSquiresModel" "acts" "[I", Cond.fieldLink RX7 34 "CockleSquiresModel" "aside" "[I", Cond.arrayClass .boolean, Cond.fieldLink RX7 37 "CockleSquiresModel" "isKept" "[Z", Cond.fieldLink RX7 41 "CockleSquiresModel" "kept" "[I", Cond.fieldLink RX7 44 "CockleSquiresModel" "trace" "[I", Cond.methodLink RL 13 yX6_row, Cond.instanceMethod yX6_row, Cond.selects RX6 yX6_row yX6_row, Cond.code yX6_row cX6_row 4 (some .int), Cond.constant RX6 66 (-1000001), Cond.methodLink RX6 62 yX6_within, Cond.static yX6_within, Cond.code yX6_within cX6_within 3 (some .boolean), Cond.methodLink RX6 67 yX6_found, Cond.instanceMethod yX6_found, Cond.selects RX6 yX6_found yX6_found, Cond.code yX6_found cX6_found 2 (some .int), Cond.constant RX6 300 (-1000010), Cond.methodLink RX6 71 yX4_make, Cond.instanceMethod yX4_make, Cond.selects RX4 yX4_make yX4_make]
def wsL_law_r6 : List Cond := [Cond.code yX4_make cX4_make 5 none, Cond.methodLink RX6 75 yX6_unfound, Cond.instanceMethod yX6_unfound, Cond.selects RX6 yX6_unfound yX6_unfound, Cond.code yX6_unfound cX6_unfound 2 (some .int), Cond.methodLink RL 17 yX7_row, Cond.instanceMethod yX7_row, Cond.selects RX7 yX7_row yX7_row, Cond.code yX7_row cX7_row 5 (some .int), Cond.constantLong RX7 62 (2), Cond.constant RX7 64 (-1000001), Cond.methodLink RX7 58 yX7_isRow, Cond.static yX7_isRow, Cond.code yX7_isRow cX7_isRow 1 (some .boolean), Cond.constantLong RX7 52 (7), Cond.methodLink RX7 54 yX7_in, Cond.static yX7_in, Cond.code yX7_in cX7_in 6 (some .boolean), Cond.methodLink RX7 65 yX7_find, Cond.instanceMethod yX7_find, Cond.selects RX7 yX7_find yX7_find, Cond.code yX7_find cX7_find 2 (some .int), Cond.fieldLink RX7 47 "CockleSquiresModel" "status" "I", Cond.constant RX7 51 (-1000010)]
def wsL_law_r7 : List Cond := [Cond.methodLink RX7 69 yX7_well, Cond.instanceMethod yX7_well, Cond.selects RX7 yX7_well yX7_well, Cond.code yX7_well cX7_well 2 (some .int), Cond.methodLink RL 18 yX6_set, Cond.instanceMethod yX6_set, Cond.selects RX6 yX6_set yX6_set, Cond.code yX6_set cX6_set 4 (some .int), Cond.methodLink RX6 78 yX4_isMissing, Cond.instanceMethod yX4_isMissing, Cond.selects RX4 yX4_isMissing yX4_isMissing, Cond.code yX4_isMissing cX4_isMissing 2 (some .boolean), Cond.methodLink RX6 82 yX4_holds, Cond.instanceMethod yX4_holds, Cond.selects RX4 yX4_holds yX4_holds, Cond.code yX4_holds cX4_holds 4 (some .boolean), Cond.methodLink RX4 25 yX4_isMissing, Cond.methodLink RX6 85 yX4_put, Cond.instanceMethod yX4_put, Cond.selects RX4 yX4_put yX4_put, Cond.code yX4_put cX4_put 5 (some .int), Cond.methodLink RX4 29 yX4_holds, Cond.methodLink RX4 32 yX4_inLane, Cond.static yX4_inLane]
def wsL_law_r8 : List Cond := [Cond.code yX4_inLane cX4_inLane 2 (some .int), Cond.methodLink RL 21 yX7_set, Cond.instanceMethod yX7_set, Cond.selects RX7 yX7_set yX7_set, Cond.code yX7_set cX7_set 4 (some .int), Cond.methodLink RX7 72 yX7_asLane, Cond.static yX7_asLane, Cond.code yX7_asLane cX7_asLane 2 (some .int), Cond.methodLink RL 22 yX6_copy, Cond.instanceMethod yX6_copy, Cond.selects RX6 yX6_copy yX6_copy, Cond.code yX6_copy cX6_copy 6 (some .int), Cond.methodLink RX6 89 yX4_laneOf, Cond.instanceMethod yX4_laneOf, Cond.selects RX4 yX4_laneOf yX4_laneOf, Cond.code yX4_laneOf cX4_laneOf 2 (some .int), Cond.methodLink RX6 92 yX4_carry, Cond.instanceMethod yX4_carry, Cond.selects RX4 yX4_carry yX4_carry, Cond.code yX4_carry cX4_carry 6 none, Cond.methodLink RX4 36 arraycopyName, Cond.native arraycopyName, Cond.static arraycopyName, Cond.initialized "java/lang/System"]
def wsL_law_r9 : List Cond := [Cond.methodLink RL 26 yX7_copy, Cond.instanceMethod yX7_copy, Cond.selects RX7 yX7_copy yX7_copy, Cond.code yX7_copy cX7_copy 7 (some .int), Cond.methodLink RL 27 yX6_drop, Cond.instanceMethod yX6_drop, Cond.selects RX6 yX6_drop yX6_drop, Cond.code yX6_drop cX6_drop 2 (some .int), Cond.methodLink RX6 96 yX4_lose, Cond.instanceMethod yX4_lose, Cond.selects RX4 yX4_lose yX4_lose, Cond.code yX4_lose cX4_lose 3 (some .int), Cond.methodLink RL 31 yX7_drop, Cond.instanceMethod yX7_drop, Cond.selects RX7 yX7_drop yX7_drop, Cond.code yX7_drop cX7_drop 3 (some .int), Cond.methodLink RL 32 yX6_feed, Cond.instanceMethod yX6_feed, Cond.selects RX6 yX6_feed yX6_feed, Cond.code yX6_feed cX6_feed 2 (some .int), Cond.constant RX6 103 (-1000003), Cond.methodLink RX6 99 yX5_length, Cond.instanceMethod yX5_length, Cond.selects RX5 yX5_length yX5_length]
def wsL_law_r10 : List Cond := [Cond.code yX5_length cX5_length 1 (some .int), Cond.methodLink RX6 104 yX5_append, Cond.instanceMethod yX5_append, Cond.selects RX5 yX5_append yX5_append, Cond.code yX5_append cX5_append 2 (some .int), Cond.methodLink RL 35 yX7_feed, Cond.instanceMethod yX7_feed, Cond.selects RX7 yX7_feed yX7_feed, Cond.code yX7_feed cX7_feed 2 (some .int), Cond.constantLong RX7 76 (255), Cond.fieldLink RX7 78 "CockleSquiresModel" "bytes" "I", Cond.constant RX7 81 (-1000003), Cond.methodLink RL 36 yX6_flat, Cond.instanceMethod yX6_flat, Cond.selects RX6 yX6_flat yX6_flat, Cond.code yX6_flat cX6_flat 3 (some .int), Cond.constant RX6 118 (-1000100), Cond.methodLink RX6 107 yX3_scratch, Cond.instanceMethod yX3_scratch, Cond.selects RX3 yX3_scratch yX3_scratch, Cond.code yX3_scratch cX3_scratch 1 (some (.object "CockleSquires$Flat")), Cond.methodLink RX6 111 yX5_readInto, Cond.instanceMethod yX5_readInto, Cond.selects RX5 yX5_readInto yX5_readInto]
def wsL_law_r11 : List Cond := [Cond.code yX5_readInto cX5_readInto 2 (some .int), Cond.methodLink RX5 25 yX5_readLaw, Cond.instanceMethod yX5_readLaw, Cond.selects RX5 yX5_readLaw yX5_readLaw, Cond.code yX5_readLaw cX5_readLaw 5 (some .boolean), Cond.methodLink RX5 33 yX5_takes, Cond.instanceMethod yX5_takes, Cond.selects RX5 yX5_takes yX5_takes, Cond.code yX5_takes cX5_takes 2 (some .boolean), Cond.methodLink RX5 50 yX5_letterAt, Cond.instanceMethod yX5_letterAt, Cond.selects RX5 yX5_letterAt yX5_letterAt, Cond.code yX5_letterAt cX5_letterAt 2 (some .int), Cond.methodLink RX5 57 yX5_fails, Cond.instanceMethod yX5_fails, Cond.selects RX5 yX5_fails yX5_fails, Cond.code yX5_fails cX5_fails 2 (some .boolean), Cond.methodLink RX5 37 yX5_number, Cond.instanceMethod yX5_number, Cond.selects RX5 yX5_number yX5_number, Cond.code yX5_number cX5_number 6 (some .int), Cond.methodLink RX5 66 yX5_figuresAhead, Cond.instanceMethod yX5_figuresAhead, Cond.selects RX5 yX5_figuresAhead yX5_figuresAhead]
def wsL_law_r12 : List Cond := [Cond.code yX5_figuresAhead cX5_figuresAhead 2 (some .int), Cond.methodLink RX5 41 yX2_begin, Cond.instanceMethod yX2_begin, Cond.selects RX2 yX2_begin yX2_begin, Cond.code yX2_begin cX2_begin 5 none, Cond.methodLink RX5 29 yX5_readBeds, Cond.instanceMethod yX5_readBeds, Cond.selects RX5 yX5_readBeds yX5_readBeds, Cond.code yX5_readBeds cX5_readBeds 3 none, Cond.methodLink RX5 47 yX5_readBed, Cond.instanceMethod yX5_readBed, Cond.selects RX5 yX5_readBed yX5_readBed, Cond.code yX5_readBed cX5_readBed 5 (some .boolean), Cond.methodLink RX5 54 yX5_kindNamed, Cond.static yX5_kindNamed, Cond.code yX5_kindNamed cX5_kindNamed 1 (some .int), Cond.methodLink RX5 63 yX2_add, Cond.instanceMethod yX2_add, Cond.selects RX2 yX2_add yX2_add, Cond.code yX2_add cX2_add 4 none, Cond.methodLink RX6 115 yX5_clear, Cond.instanceMethod yX5_clear, Cond.selects RX5 yX5_clear yX5_clear, Cond.code yX5_clear cX5_clear 1 none]
def wsL_law_r13 : List Cond := [Cond.methodLink RX6 119 yX5_readTo, Cond.instanceMethod yX5_readTo, Cond.selects RX5 yX5_readTo yX5_readTo, Cond.code yX5_readTo cX5_readTo 1 (some .int), Cond.methodLink RX6 122 yX2_become, Cond.instanceMethod yX2_become, Cond.selects RX2 yX2_become yX2_become, Cond.code yX2_become cX2_become 2 none, Cond.methodLink RX2 43 arraycopyName, Cond.methodLink RX6 126 yX0_forget, Cond.instanceMethod yX0_forget, Cond.selects RX0 yX0_forget yX0_forget, Cond.code yX0_forget cX0_forget 1 none, Cond.methodLink RL 40 yX7_flat, Cond.instanceMethod yX7_flat, Cond.selects RX7 yX7_flat yX7_flat, Cond.code yX7_flat cX7_flat 3 (some .int), Cond.fieldLink RX7 102 "CockleSquiresModel" "wrong" "I", Cond.fieldLink RX7 128 "CockleSquiresModel" "latest" "I", Cond.constant RX7 131 (-1000100), Cond.fieldLink RX7 85 "CockleSquiresModel" "begins" "I", Cond.fieldLink RX7 132 "CockleSquiresModel" "isThere" "Z", Cond.fieldLink RX7 136 "CockleSquiresModel" "actMany" "I", Cond.methodLink RX7 125 yX7_readFlat]
def wsL_law_r14 : List Cond := [Cond.instanceMethod yX7_readFlat, Cond.selects RX7 yX7_readFlat yX7_readFlat, Cond.code yX7_readFlat cX7_readFlat 2 (some .boolean), Cond.fieldLink RX7 82 "CockleSquiresModel" "place" "I", Cond.fieldLink RX7 88 "CockleSquiresModel" "token" "I", Cond.methodLink RX7 108 yX7_nextToken, Cond.instanceMethod yX7_nextToken, Cond.selects RX7 yX7_nextToken yX7_nextToken, Cond.code yX7_nextToken cX7_nextToken 1 none, Cond.fieldLink RX7 91 "CockleSquiresModel" "value" "I", Cond.constantLong RX7 94 (48), Cond.constantLong RX7 96 (57), Cond.constantLong RX7 98 (97), Cond.constantLong RX7 100 (122), Cond.methodLink RX7 111 yX7_takes, Cond.instanceMethod yX7_takes, Cond.selects RX7 yX7_takes yX7_takes, Cond.code yX7_takes cX7_takes 2 (some .boolean), Cond.methodLink RX7 105 yX7_faults, Cond.instanceMethod yX7_faults, Cond.selects RX7 yX7_faults yX7_faults, Cond.code yX7_faults cX7_faults 2 (some .boolean), Cond.methodLink RX7 117 yX7_takesNumber, Cond.instanceMethod yX7_takesNumber]
def wsL_law_r15 : List Cond := [Cond.selects RX7 yX7_takesNumber yX7_takesNumber, Cond.code yX7_takesNumber cX7_takesNumber 5 (some .boolean), Cond.methodLink RX7 121 yX7_readBed, Cond.instanceMethod yX7_readBed, Cond.selects RX7 yX7_readBed yX7_readBed, Cond.code yX7_readBed cX7_readBed 3 (some .boolean), Cond.methodLink RX7 114 yX7_kindBy, Cond.static yX7_kindBy, Cond.code yX7_kindBy cX7_kindBy 1 (some .int), Cond.methodLink RL 41 yX6_fault, Cond.instanceMethod yX6_fault, Cond.selects RX6 yX6_fault yX6_fault, Cond.code yX6_fault cX6_fault 1 (some .int), Cond.methodLink RL 44 yX7_fault, Cond.instanceMethod yX7_fault, Cond.selects RX7 yX7_fault yX7_fault, Cond.code yX7_fault cX7_fault 1 (some .int), Cond.methodLink RL 45 yX6_undo, Cond.instanceMethod yX6_undo, Cond.selects RX6 yX6_undo yX6_undo, Cond.code yX6_undo cX6_undo 1 (some .int), Cond.constant RX6 136 (-1000002), Cond.methodLink RX6 132 yX0_takeBack, Cond.instanceMethod yX0_takeBack]
def wsL_law_r16 : List Cond := [Cond.selects RX0 yX0_takeBack yX0_takeBack, Cond.code yX0_takeBack cX0_takeBack 4 (some .boolean), Cond.methodLink RX0 29 yX2_become, Cond.methodLink RX6 137 yX0_kept, Cond.instanceMethod yX0_kept, Cond.selects RX0 yX0_kept yX0_kept, Cond.code yX0_kept cX0_kept 1 (some .int), Cond.methodLink RL 48 yX7_undo, Cond.instanceMethod yX7_undo, Cond.selects RX7 yX7_undo yX7_undo, Cond.code yX7_undo cX7_undo 2 (some .int), Cond.constant RX7 152 (-1000002), Cond.methodLink RL 49 yX6_tides, Cond.instanceMethod yX6_tides, Cond.selects RX6 yX6_tides yX6_tides, Cond.code yX6_tides cX6_tides 3 (some .int), Cond.methodLink RX6 140 yX2_isNone, Cond.instanceMethod yX2_isNone, Cond.selects RX2 yX2_isNone yX2_isNone, Cond.code yX2_isNone cX2_isNone 1 (some .boolean), Cond.methodLink RX6 147 yX0_keep, Cond.instanceMethod yX0_keep, Cond.selects RX0 yX0_keep yX0_keep, Cond.code yX0_keep cX0_keep 3 none]
def wsL_law_r17 : List Cond := [Cond.methodLink RX0 33 Lib.Math.min.name, Cond.static Lib.Math.min.name, Cond.initialized "java/lang/Math", Cond.code Lib.Math.min.name Lib.Math.min.code 2 (some .int), Cond.methodLink RX6 150 yX2_flow, Cond.instanceMethod yX2_flow, Cond.selects RX2 yX2_flow yX2_flow, Cond.code yX2_flow cX2_flow 2 none, Cond.methodLink RX2 82 yX2_swell, Cond.instanceMethod yX2_swell, Cond.selects RX2 yX2_swell yX2_swell, Cond.code yX2_swell cX2_swell 3 none, Cond.methodLink RX2 86 Lib.Math.min.name, Cond.methodLink RX2 89 Lib.Math.max.name, Cond.static Lib.Math.max.name, Cond.code Lib.Math.max.name Lib.Math.max.code 2 (some .int), Cond.methodLink RX2 49 yX2_has, Cond.instanceMethod yX2_has, Cond.selects RX2 yX2_has yX2_has, Cond.code yX2_has cX2_has 2 (some .boolean), Cond.methodLink RX2 60 yX2_lying, Cond.instanceMethod yX2_lying, Cond.selects RX2 yX2_lying yX2_lying, Cond.code yX2_lying cX2_lying 2 (some .int)]
def wsL_law_r18 : List Cond := [Cond.methodLink RX2 67 yX2_nearerBy, Cond.instanceMethod yX2_nearerBy, Cond.selects RX2 yX2_nearerBy yX2_nearerBy, Cond.code yX2_nearerBy cX2_nearerBy 4 (some .int), Cond.methodLink RX2 77 Lib.Math.abs.name, Cond.static Lib.Math.abs.name, Cond.code Lib.Math.abs.name Lib.Math.abs.code 1 (some .int), Cond.methodLink RX2 71 yX2_otherOne, Cond.static yX2_otherOne, Cond.code yX2_otherOne cX2_otherOne 1 (some .int), Cond.methodLink RX2 74 yX2_byWarmth, Cond.static yX2_byWarmth, Cond.code yX2_byWarmth cX2_byWarmth 1 (some .int), Cond.methodLink RX6 153 yX2_allStock, Cond.instanceMethod yX2_allStock, Cond.selects RX2 yX2_allStock yX2_allStock, Cond.code yX2_allStock cX2_allStock 3 (some .int), Cond.methodLink RX2 53 yX2_stockOf, Cond.instanceMethod yX2_stockOf, Cond.selects RX2 yX2_stockOf yX2_stockOf, Cond.code yX2_stockOf cX2_stockOf 2 (some .int), Cond.methodLink RL 52 yX7_tides, Cond.instanceMethod yX7_tides, Cond.selects RX7 yX7_tides yX7_tides]
def wsL_law_r19 : List Cond := [Cond.code yX7_tides cX7_tides 3 (some .int), Cond.constantLong RX7 153 (24), Cond.methodLink RX7 155 yX7_note, Cond.instanceMethod yX7_note, Cond.selects RX7 yX7_note yX7_note, Cond.code yX7_note cX7_note 2 none, Cond.methodLink RX7 158 yX7_oneTide, Cond.instanceMethod yX7_oneTide, Cond.selects RX7 yX7_oneTide yX7_oneTide, Cond.code yX7_oneTide cX7_oneTide 4 none, Cond.methodLink RX7 149 yX7_lies, Cond.instanceMethod yX7_lies, Cond.selects RX7 yX7_lies yX7_lies, Cond.code yX7_lies cX7_lies 4 (some .int), Cond.methodLink RX7 142 yX7_nearer, Cond.instanceMethod yX7_nearer, Cond.selects RX7 yX7_nearer yX7_nearer, Cond.code yX7_nearer cX7_nearer 4 (some .int), Cond.methodLink RX7 139 yX7_off, Cond.instanceMethod yX7_off, Cond.selects RX7 yX7_off yX7_off, Cond.code yX7_off cX7_off 4 (some .int), Cond.methodLink RX7 161 yX7_allSizes, Cond.instanceMethod yX7_allSizes]
def wsL_law_r20 : List Cond := [Cond.selects RX7 yX7_allSizes yX7_allSizes, Cond.code yX7_allSizes cX7_allSizes 3 (some .int), Cond.methodLink RL 53 yX6_rake, Cond.instanceMethod yX6_rake, Cond.selects RX6 yX6_rake yX6_rake, Cond.code yX6_rake cX6_rake 3 (some .int), Cond.methodLink RX6 156 yX2_has, Cond.methodLink RX6 159 yX2_hasVeto, Cond.instanceMethod yX2_hasVeto, Cond.selects RX2 yX2_hasVeto yX2_hasVeto, Cond.code yX2_hasVeto cX2_hasVeto 2 (some .boolean), Cond.methodLink RX6 162 yX2_stockOf, Cond.methodLink RX6 165 yX2_rakeUp, Cond.instanceMethod yX2_rakeUp, Cond.selects RX2 yX2_rakeUp yX2_rakeUp, Cond.code yX2_rakeUp cX2_rakeUp 5 (some .int), Cond.methodLink RX2 92 yX2_sieved, Cond.static yX2_sieved, Cond.code yX2_sieved cX2_sieved 1 (some .int), Cond.methodLink RL 57 yX7_rake, Cond.instanceMethod yX7_rake, Cond.selects RX7 yX7_rake yX7_rake, Cond.code yX7_rake cX7_rake 3 (some .int), Cond.constantLong RX7 168 (99)]
def wsL_law_r21 : List Cond := [Cond.methodLink RX7 165 yX7_isBed, Cond.instanceMethod yX7_isBed, Cond.selects RX7 yX7_isBed yX7_isBed, Cond.code yX7_isBed cX7_isBed 2 (some .boolean), Cond.methodLink RX7 170 yX7_hasVeto, Cond.instanceMethod yX7_hasVeto, Cond.selects RX7 yX7_hasVeto yX7_hasVeto, Cond.code yX7_hasVeto cX7_hasVeto 2 (some .boolean), Cond.methodLink RX7 145 yX7_has, Cond.static yX7_has, Cond.code yX7_has cX7_has 2 (some .boolean), Cond.methodLink RX7 173 yX7_rakeBy, Cond.instanceMethod yX7_rakeBy, Cond.selects RX7 yX7_rakeBy yX7_rakeBy, Cond.code yX7_rakeBy cX7_rakeBy 4 none, Cond.methodLink RL 58 yX6_rain, Cond.instanceMethod yX6_rain, Cond.selects RX6 yX6_rain yX6_rain, Cond.code yX6_rain cX6_rain 4 (some .int), Cond.methodLink RX6 169 yX2_warmOf, Cond.instanceMethod yX2_warmOf, Cond.selects RX2 yX2_warmOf yX2_warmOf, Cond.code yX2_warmOf cX2_warmOf 2 (some .int), Cond.methodLink RX6 172 yX2_warmTo]
def wsL_law_r22 : List Cond := [Cond.instanceMethod yX2_warmTo, Cond.selects RX2 yX2_warmTo yX2_warmTo, Cond.code yX2_warmTo cX2_warmTo 3 none, Cond.methodLink RL 61 yX7_rain, Cond.instanceMethod yX7_rain, Cond.selects RX7 yX7_rain yX7_rain, Cond.code yX7_rain cX7_rain 4 (some .int), Cond.constantLong RX7 177 (9), Cond.methodLink RL 62 yX6_veto, Cond.instanceMethod yX6_veto, Cond.selects RX6 yX6_veto yX6_veto, Cond.code yX6_veto cX6_veto 3 (some .int), Cond.methodLink RX6 176 yX2_turnVeto, Cond.instanceMethod yX2_turnVeto, Cond.selects RX2 yX2_turnVeto yX2_turnVeto, Cond.code yX2_turnVeto cX2_turnVeto 2 none, Cond.methodLink RL 65 yX7_veto, Cond.instanceMethod yX7_veto, Cond.selects RX7 yX7_veto yX7_veto, Cond.code yX7_veto cX7_veto 3 (some .int), Cond.methodLink RL 66 yX6_stand, Cond.instanceMethod yX6_stand, Cond.selects RX6 yX6_stand yX6_stand, Cond.code yX6_stand cX6_stand 4 (some .int)]
def wsL_law_r23 : List Cond := [Cond.methodLink RX6 183 yX6_isOne, Cond.static yX6_isOne, Cond.code yX6_isOne cX6_isOne 1 (some .boolean), Cond.methodLink RX6 192 yX2_standIn, Cond.instanceMethod yX2_standIn, Cond.selects RX2 yX2_standIn yX2_standIn, Cond.code yX2_standIn cX2_standIn 3 none, Cond.methodLink RL 69 yX7_stand, Cond.instanceMethod yX7_stand, Cond.selects RX7 yX7_stand yX7_stand, Cond.code yX7_stand cX7_stand 4 (some .int), Cond.constantLong RX7 182 (8), Cond.methodLink RX7 179 yX7_isWho, Cond.static yX7_isWho, Cond.code yX7_isWho cX7_isWho 1 (some .boolean), Cond.methodLink RL 70 yX6_bed, Cond.instanceMethod yX6_bed, Cond.selects RX6 yX6_bed yX6_bed, Cond.code yX6_bed cX6_bed 3 (some .int), Cond.methodLink RX6 195 yX2_tellOf, Cond.instanceMethod yX2_tellOf, Cond.selects RX2 yX2_tellOf yX2_tellOf, Cond.code yX2_tellOf cX2_tellOf 3 (some .int), Cond.methodLink RX2 57 yX2_warmOf]
def wsL_law_r24 : List Cond := [Cond.methodLink RL 73 yX7_bed, Cond.instanceMethod yX7_bed, Cond.selects RX7 yX7_bed yX7_bed, Cond.code yX7_bed cX7_bed 3 (some .int), Cond.constantLong RX7 184 (3), Cond.methodLink RX7 186 yX7_toldOf, Cond.instanceMethod yX7_toldOf, Cond.selects RX7 yX7_toldOf yX7_toldOf, Cond.code yX7_toldOf cX7_toldOf 3 (some .int), Cond.methodLink RL 74 yX6_board, Cond.instanceMethod yX6_board, Cond.selects RX6 yX6_board yX6_board, Cond.code yX6_board cX6_board 2 (some .int), Cond.methodLink RX6 198 yX2_countedFor, Cond.instanceMethod yX2_countedFor, Cond.selects RX2 yX2_countedFor yX2_countedFor, Cond.code yX2_countedFor cX2_countedFor 2 (some .int), Cond.methodLink RL 77 yX7_board, Cond.instanceMethod yX7_board, Cond.selects RX7 yX7_board yX7_board, Cond.code yX7_board cX7_board 2 (some .int), Cond.constantLong RX7 189 (5), Cond.methodLink RL 78 yX6_ahead, Cond.instanceMethod yX6_ahead]
def wsL_law_r25 : List Cond := [Cond.selects RX6 yX6_ahead yX6_ahead, Cond.code yX6_ahead cX6_ahead 4 (some .int), Cond.methodLink RX6 204 yX3_after, Cond.instanceMethod yX3_after, Cond.selects RX3 yX3_after yX3_after, Cond.code yX3_after cX3_after 4 (some (.object "CockleSquires$Flat")), Cond.methodLink RX3 34 yX2_become, Cond.methodLink RX3 38 yX2_flow, Cond.methodLink RL 81 yX7_ahead, Cond.instanceMethod yX7_ahead, Cond.selects RX7 yX7_ahead yX7_ahead, Cond.code yX7_ahead cX7_ahead 5 (some .int), Cond.constantLong RX7 191 (60), Cond.methodLink RX7 193 yX7_putAside, Cond.instanceMethod yX7_putAside, Cond.selects RX7 yX7_putAside yX7_putAside, Cond.code yX7_putAside cX7_putAside 2 none, Cond.methodLink RX7 196 yX7_goOn, Cond.instanceMethod yX7_goOn, Cond.selects RX7 yX7_goOn yX7_goOn, Cond.code yX7_goOn cX7_goOn 3 none, Cond.methodLink RX7 200 yX7_takeBack, Cond.instanceMethod yX7_takeBack, Cond.selects RX7 yX7_takeBack yX7_takeBack]
def wsL_law_r26 : List Cond := [Cond.code yX7_takeBack cX7_takeBack 2 none, Cond.methodLink RL 82 yX6_tally, Cond.instanceMethod yX6_tally, Cond.selects RX6 yX6_tally yX6_tally, Cond.code yX6_tally cX6_tally 3 (some .int), Cond.methodLink RX6 208 yX2_tallyFor, Cond.instanceMethod yX2_tallyFor, Cond.selects RX2 yX2_tallyFor yX2_tallyFor, Cond.code yX2_tallyFor cX2_tallyFor 4 (some .int), Cond.methodLink RX2 95 yX2_countedFor, Cond.methodLink RX2 98 yX2_hasVeto, Cond.methodLink RL 85 yX7_tally, Cond.instanceMethod yX7_tally, Cond.selects RX7 yX7_tally yX7_tally, Cond.code yX7_tally cX7_tally 4 (some .int), Cond.methodLink RX7 206 yX7_tallyOf, Cond.instanceMethod yX7_tallyOf, Cond.selects RX7 yX7_tallyOf yX7_tallyOf, Cond.code yX7_tallyOf cX7_tallyOf 2 (some .int), Cond.methodLink RX7 203 yX7_bringFor, Cond.instanceMethod yX7_bringFor, Cond.selects RX7 yX7_bringFor yX7_bringFor, Cond.code yX7_bringFor cX7_bringFor 5 (some .int), Cond.methodLink RL 86 yX6_when]
def wsL_law_r27 : List Cond := [Cond.instanceMethod yX6_when, Cond.selects RX6 yX6_when yX6_when, Cond.code yX6_when cX6_when 3 (some .int), Cond.methodLink RX6 211 yX3_firstLying, Cond.instanceMethod yX3_firstLying, Cond.selects RX3 yX3_firstLying yX3_firstLying, Cond.code yX3_firstLying cX3_firstLying 5 (some .int), Cond.constant RX3 45 (-1000000), Cond.methodLink RX3 41 yX2_lying, Cond.methodLink RL 89 yX7_when, Cond.instanceMethod yX7_when, Cond.selects RX7 yX7_when yX7_when, Cond.code yX7_when cX7_when 5 (some .int), Cond.constant RX7 209 (-1000000), Cond.methodLink RL 90 yX6_place, Cond.instanceMethod yX6_place, Cond.selects RX6 yX6_place yX6_place, Cond.code yX6_place cX6_place 4 (some .int), Cond.methodLink RX6 215 yX3_bestCell, Cond.instanceMethod yX3_bestCell, Cond.selects RX3 yX3_bestCell yX3_bestCell, Cond.code yX3_bestCell cX3_bestCell 7 (some .int), Cond.methodLink RX3 53 yX3_leadFrom, Cond.instanceMethod yX3_leadFrom]
def wsL_law_r28 : List Cond := [Cond.selects RX3 yX3_leadFrom yX3_leadFrom, Cond.code yX3_leadFrom cX3_leadFrom 4 (some .int), Cond.methodLink RX3 46 yX2_standIn, Cond.methodLink RX3 50 yX2_leadOf, Cond.instanceMethod yX2_leadOf, Cond.selects RX2 yX2_leadOf yX2_leadOf, Cond.code yX2_leadOf cX2_leadOf 4 (some .int), Cond.methodLink RX2 101 yX2_countedLead, Cond.instanceMethod yX2_countedLead, Cond.selects RX2 yX2_countedLead yX2_countedLead, Cond.code yX2_countedLead cX2_countedLead 3 (some .int), Cond.methodLink RX2 104 yX2_gainBy, Cond.instanceMethod yX2_gainBy, Cond.selects RX2 yX2_gainBy yX2_gainBy, Cond.code yX2_gainBy cX2_gainBy 5 (some .int), Cond.methodLink RX6 219 yX3_leadFrom, Cond.methodLink RL 93 yX7_place, Cond.instanceMethod yX7_place, Cond.selects RX7 yX7_place yX7_place, Cond.code yX7_place cX7_place 4 (some .int), Cond.methodLink RX7 213 yX7_isWhat, Cond.static yX7_isWhat, Cond.code yX7_isWhat cX7_isWhat 1 (some .boolean), Cond.methodLink RX7 216 yX7_bestCell]
def wsL_law_r29 : List Cond := [Cond.instanceMethod yX7_bestCell, Cond.selects RX7 yX7_bestCell yX7_bestCell, Cond.code yX7_bestCell cX7_bestCell 7 (some .int), Cond.methodLink RX7 210 yX7_leadOf, Cond.instanceMethod yX7_leadOf, Cond.selects RX7 yX7_leadOf yX7_leadOf, Cond.code yX7_leadOf cX7_leadOf 2 (some .int), Cond.methodLink RX7 219 yX7_leadFrom, Cond.instanceMethod yX7_leadFrom, Cond.selects RX7 yX7_leadFrom yX7_leadFrom, Cond.code yX7_leadFrom cX7_leadFrom 5 (some .int), Cond.methodLink RL 94 yX6_rests, Cond.instanceMethod yX6_rests, Cond.selects RX6 yX6_rests yX6_rests, Cond.code yX6_rests cX6_rests 2 (some .int), Cond.methodLink RX6 222 yX3_weighPairs, Cond.instanceMethod yX3_weighPairs, Cond.selects RX3 yX3_weighPairs yX3_weighPairs, Cond.code yX3_weighPairs cX3_weighPairs 4 none, Cond.methodLink RX6 225 yX3_restingPairs, Cond.instanceMethod yX3_restingPairs, Cond.selects RX3 yX3_restingPairs yX3_restingPairs, Cond.code yX3_restingPairs cX3_restingPairs 4 (some .int), Cond.methodLink RX3 57 yX3_isResting]
def wsL_law_r30 : List Cond := [Cond.instanceMethod yX3_isResting, Cond.selects RX3 yX3_isResting yX3_isResting, Cond.code yX3_isResting cX3_isResting 5 (some .boolean), Cond.methodLink RX6 228 yX3_firstResting, Cond.instanceMethod yX3_firstResting, Cond.selects RX3 yX3_firstResting yX3_firstResting, Cond.code yX3_firstResting cX3_firstResting 3 (some .int), Cond.methodLink RL 97 yX7_rests, Cond.instanceMethod yX7_rests, Cond.selects RX7 yX7_rests yX7_rests, Cond.code yX7_rests cX7_rests 6 (some .int), Cond.methodLink RL 98 yX6_rakes, Cond.instanceMethod yX6_rakes, Cond.selects RX6 yX6_rakes yX6_rakes, Cond.code yX6_rakes cX6_rakes 4 (some .int), Cond.constant RX6 234 (-1000000), Cond.methodLink RX6 231 yX3_fewestRaked, Cond.instanceMethod yX3_fewestRaked, Cond.selects RX3 yX3_fewestRaked yX3_fewestRaked, Cond.code yX3_fewestRaked cX3_fewestRaked 7 (some .int), Cond.methodLink RX3 75 yX3_weighBeds, Cond.instanceMethod yX3_weighBeds, Cond.selects RX3 yX3_weighBeds yX3_weighBeds, Cond.code yX3_weighBeds cX3_weighBeds 4 none]
def wsL_law_r31 : List Cond := [Cond.methodLink RX3 65 yX2_has, Cond.methodLink RX3 69 yX2_hasVeto, Cond.methodLink RX3 72 yX2_gainBy, Cond.methodLink RX3 79 yX2_countedLead, Cond.methodLink RX3 86 yJ6_bitCount_0f7a4, Cond.static yJ6_bitCount_0f7a4, Cond.initialized RJ6, Cond.code yJ6_bitCount_0f7a4 cJ6_bitCount_0f7a4 1 (some .int), Cond.constant RJ6 265 (1431655765), Cond.constant RJ6 266 (858993459), Cond.constant RJ6 267 (252645135), Cond.methodLink RX3 94 yX3_gainOfAll, Cond.instanceMethod yX3_gainOfAll, Cond.selects RX3 yX3_gainOfAll yX3_gainOfAll, Cond.code yX3_gainOfAll cX3_gainOfAll 4 (some .int), Cond.methodLink RX6 235 yJ6_bitCount_0f7a4, Cond.methodLink RL 101 yX7_rakes, Cond.instanceMethod yX7_rakes, Cond.selects RX7 yX7_rakes yX7_rakes, Cond.code yX7_rakes cX7_rakes 7 (some .int), Cond.methodLink RX7 222 yX7_ones, Cond.static yX7_ones, Cond.code yX7_ones cX7_ones 3 (some .int), Cond.methodLink RL 102 yX6_wards]
def wsL_law_r32 : List Cond := [Cond.instanceMethod yX6_wards, Cond.selects RX6 yX6_wards yX6_wards, Cond.code yX6_wards cX6_wards 5 (some .int), Cond.methodLink RX6 240 yX3_bestCut, Cond.instanceMethod yX3_bestCut, Cond.selects RX3 yX3_bestCut yX3_bestCut, Cond.code yX3_bestCut cX3_bestCut 8 (some .int), Cond.methodLink RX3 97 yX3_wardsOf, Cond.static yX3_wardsOf, Cond.code yX3_wardsOf cX3_wardsOf 4 (some .int), Cond.methodLink RX3 100 yX3_wardsLed, Cond.instanceMethod yX3_wardsLed, Cond.selects RX3 yX3_wardsLed yX3_wardsLed, Cond.code yX3_wardsLed cX3_wardsLed 8 (some .int), Cond.methodLink RX3 103 yX3_gainBetween, Cond.instanceMethod yX3_gainBetween, Cond.selects RX3 yX3_gainBetween yX3_gainBetween, Cond.code yX3_gainBetween cX3_gainBetween 5 (some .int), Cond.methodLink RX6 243 yX3_wardsLed, Cond.methodLink RL 105 yX7_wards, Cond.instanceMethod yX7_wards, Cond.selects RX7 yX7_wards yX7_wards, Cond.code yX7_wards cX7_wards 10 (some .int), Cond.methodLink RX7 225 yX7_ledBy]
def wsL_law_r33 : List Cond := [Cond.instanceMethod yX7_ledBy, Cond.selects RX7 yX7_ledBy yX7_ledBy, Cond.code yX7_ledBy cX7_ledBy 5 (some .int), Cond.methodLink RL 106 yX6_decide, Cond.instanceMethod yX6_decide, Cond.selects RX6 yX6_decide yX6_decide, Cond.code yX6_decide cX6_decide 1 (some .int), Cond.methodLink RX6 246 yX2_deciding, Cond.instanceMethod yX2_deciding, Cond.selects RX2 yX2_deciding yX2_deciding, Cond.code yX2_deciding cX2_deciding 6 (some .int), Cond.methodLink RX2 107 yX2_leadOf, Cond.methodLink RX2 110 yX2_leader, Cond.static yX2_leader, Cond.code yX2_leader cX2_leader 1 (some .int), Cond.methodLink RL 109 yX7_decide, Cond.instanceMethod yX7_decide, Cond.selects RX7 yX7_decide yX7_decide, Cond.code yX7_decide cX7_decide 4 (some .int), Cond.methodLink RX7 229 yX7_sign, Cond.static yX7_sign, Cond.code yX7_sign cX7_sign 1 (some .int), Cond.methodLink RL 110 yX6_grown, Cond.instanceMethod yX6_grown]
def wsL_law_r34 : List Cond := [Cond.selects RX6 yX6_grown yX6_grown, Cond.code yX6_grown cX6_grown 6 (some .int), Cond.methodLink RX6 249 yX3_hear, Cond.instanceMethod yX3_hear, Cond.selects RX3 yX3_hear yX3_hear, Cond.code yX3_hear cX3_hear 6 none, Cond.methodLink RX3 28 yX4_itemOf, Cond.instanceMethod yX4_itemOf, Cond.selects RX4 yX4_itemOf yX4_itemOf, Cond.code yX4_itemOf cX4_itemOf 3 (some .int), Cond.methodLink RX6 253 yX3_grownBy, Cond.instanceMethod yX3_grownBy, Cond.selects RX3 yX3_grownBy yX3_grownBy, Cond.code yX3_grownBy cX3_grownBy 9 (some .int), Cond.methodLink RX3 106 yX2_kindTo, Cond.instanceMethod yX2_kindTo, Cond.selects RX2 yX2_kindTo yX2_kindTo, Cond.code yX2_kindTo cX2_kindTo 3 none, Cond.methodLink RX3 109 yX2_warmTo, Cond.methodLink RX3 112 yX2_lotTo, Cond.instanceMethod yX2_lotTo, Cond.selects RX2 yX2_lotTo yX2_lotTo, Cond.code yX2_lotTo cX2_lotTo 2 none, Cond.methodLink RX3 116 yX3_growsAsTold]
def wsL_law_r35 : List Cond := [Cond.instanceMethod yX3_growsAsTold, Cond.selects RX3 yX3_growsAsTold yX3_growsAsTold, Cond.code yX3_growsAsTold cX3_growsAsTold 4 (some .boolean), Cond.methodLink RX3 119 yX2_stockOf, Cond.methodLink RL 113 yX7_grown, Cond.instanceMethod yX7_grown, Cond.selects RX7 yX7_grown yX7_grown, Cond.code yX7_grown cX7_grown 10 (some .int), Cond.constantLong RX7 232 (12), Cond.methodLink RX7 234 yX7_lacks, Cond.instanceMethod yX7_lacks, Cond.selects RX7 yX7_lacks yX7_lacks, Cond.code yX7_lacks cX7_lacks 4 (some .int), Cond.methodLink RX7 237 yX7_isSo, Cond.instanceMethod yX7_isSo, Cond.selects RX7 yX7_isSo yX7_isSo, Cond.code yX7_isSo cX7_isSo 6 (some .boolean), Cond.methodLink RL 114 yX6_lain, Cond.instanceMethod yX6_lain, Cond.selects RX6 yX6_lain yX6_lain, Cond.code yX6_lain cX6_lain 4 (some .int), Cond.methodLink RX6 257 yX3_lainBy, Cond.instanceMethod yX3_lainBy, Cond.selects RX3 yX3_lainBy yX3_lainBy]
def wsL_law_r36 : List Cond := [Cond.code yX3_lainBy cX3_lainBy 5 (some .int), Cond.methodLink RX3 122 yX3_liesAsTold, Cond.instanceMethod yX3_liesAsTold, Cond.selects RX3 yX3_liesAsTold yX3_liesAsTold, Cond.code yX3_liesAsTold cX3_liesAsTold 2 (some .boolean), Cond.methodLink RL 117 yX7_lain, Cond.instanceMethod yX7_lain, Cond.selects RX7 yX7_lain yX7_lain, Cond.code yX7_lain cX7_lain 10 (some .int), Cond.methodLink RL 118 yX6_flood, Cond.instanceMethod yX6_flood, Cond.selects RX6 yX6_flood yX6_flood, Cond.code yX6_flood cX6_flood 10 (some .long), Cond.constantLong RX6 260 (-1000002), Cond.constantLong RX6 262 (-1000001), Cond.methodLink RX6 264 yX3_casesLed, Cond.instanceMethod yX3_casesLed, Cond.selects RX3 yX3_casesLed yX3_casesLed, Cond.code yX3_casesLed cX3_casesLed 8 (some .long), Cond.methodLink RX3 128 yX3_casesOf, Cond.static yX3_casesOf, Cond.code yX3_casesOf cX3_casesOf 6 (some .long), Cond.methodLink RX6 268 yX3_allCases, Cond.instanceMethod yX3_allCases]
def wsL_law_r37 : List Cond := [Cond.selects RX3 yX3_allCases yX3_allCases, Cond.code yX3_allCases cX3_allCases 5 (some .long), Cond.constantLong RX3 126 (10), Cond.methodLink RX6 272 yX6_commonDivisor, Cond.static yX6_commonDivisor, Cond.code yX6_commonDivisor cX6_commonDivisor 7 (some .long), Cond.methodLink RL 122 yX7_flood, Cond.instanceMethod yX7_flood, Cond.selects RX7 yX7_flood yX7_flood, Cond.code yX7_flood cX7_flood 15 (some .long), Cond.constantLong RX7 241 (-1000002), Cond.constantLong RX7 243 (10), Cond.constantLong RX7 245 (-1000001), Cond.methodLink RL 123 yX6_drawn, Cond.instanceMethod yX6_drawn, Cond.selects RX6 yX6_drawn yX6_drawn, Cond.code yX6_drawn cX6_drawn 4 (some .int), Cond.constant RX6 276 (999999), Cond.methodLink RX6 277 yX3_afterYears, Cond.instanceMethod yX3_afterYears, Cond.selects RX3 yX3_afterYears yX3_afterYears, Cond.code yX3_afterYears cX3_afterYears 8 (some (.object "CockleSquires$Flat")), Cond.constantLong RX3 132 (16807), Cond.constantLong RX3 134 (2147483647)]
def wsL_law_r38 : List Cond := [Cond.constantLong RX3 136 (2), Cond.constantLong RX3 138 (9), Cond.constantLong RX3 140 (3), Cond.methodLink RX3 142 yX2_rakeUp, Cond.methodLink RL 126 yX7_drawn, Cond.instanceMethod yX7_drawn, Cond.selects RX7 yX7_drawn yX7_drawn, Cond.code yX7_drawn cX7_drawn 8 (some .int), Cond.constantLong RX7 247 (999999), Cond.constantLong RX7 249 (16807), Cond.constantLong RX7 251 (2147483647), Cond.methodLink RL 127 yX6_image, Cond.instanceMethod yX6_image, Cond.selects RX6 yX6_image yX6_image, Cond.code yX6_image cX6_image 3 (some .int), Cond.methodLink RL 130 yX7_image, Cond.instanceMethod yX7_image, Cond.selects RX7 yX7_image yX7_image, Cond.code yX7_image cX7_image 3 (some .int), Cond.methodLink RL 131 yX6_restore, Cond.instanceMethod yX6_restore, Cond.selects RX6 yX6_restore yX6_restore, Cond.code yX6_restore cX6_restore 3 (some .int), Cond.methodLink RL 134 yX7_restore]
def wsL_law_r39 : List Cond := [Cond.instanceMethod yX7_restore, Cond.selects RX7 yX7_restore yX7_restore, Cond.code yX7_restore cX7_restore 3 (some .int), Cond.methodLink RL 135 yX6_kind, Cond.instanceMethod yX6_kind, Cond.selects RX6 yX6_kind yX6_kind, Cond.code yX6_kind cX6_kind 2 (some .int), Cond.methodLink RX6 281 yX2_kindOf, Cond.instanceMethod yX2_kindOf, Cond.selects RX2 yX2_kindOf yX2_kindOf, Cond.code yX2_kindOf cX2_kindOf 2 (some .int), Cond.methodLink RL 138 yX7_kind, Cond.instanceMethod yX7_kind, Cond.selects RX7 yX7_kind yX7_kind, Cond.code yX7_kind cX7_kind 2 (some .int), Cond.methodLink RL 139 yX6_as, Cond.instanceMethod yX6_as, Cond.selects RX6 yX6_as yX6_as, Cond.code yX6_as cX6_as 3 (some .int), Cond.methodLink RX6 284 yX1_isSuch, Cond.static yX1_isSuch, Cond.code yX1_isSuch cX1_isSuch 4 (some .boolean), Cond.fieldLink RX1 19 "CockleSquires$Asking" "PARENTS" "[I", Cond.methodLink RL 142 yX7_as]
def wsL_law_r40 : List Cond := [Cond.instanceMethod yX7_as, Cond.selects RX7 yX7_as yX7_as, Cond.code yX7_as cX7_as 3 (some .int), Cond.methodLink RX7 253 yX7_isKind, Cond.static yX7_isKind, Cond.code yX7_isKind cX7_isKind 2 (some .boolean), Cond.methodLink RL 143 yX6_ask, Cond.instanceMethod yX6_ask, Cond.selects RX6 yX6_ask yX6_ask, Cond.code yX6_ask cX6_ask 3 (some .int), Cond.methodLink RX6 288 yX1_answer, Cond.instanceMethod yX1_answer, Cond.selects RX1 yX1_answer yX1_answer, Cond.code yX1_answer cX1_answer 5 (some .int), Cond.methodLink RX1 26 yX2_kindOf, Cond.methodLink RX1 32 yX1_sizeBody, Cond.static yX1_sizeBody, Cond.code yX1_sizeBody cX1_sizeBody 1 (some .int), Cond.fieldLink RX1 43 "CockleSquires$Asking" "SIZE_BODIES" "[I", Cond.methodLink RX1 35 yX1_markBody, Cond.static yX1_markBody, Cond.code yX1_markBody cX1_markBody 1 (some .int), Cond.fieldLink RX1 46 "CockleSquires$Asking" "MARK_BODIES" "[I", Cond.methodLink RX1 38 yX1_give]
def wsL_law_r41 : List Cond := [Cond.static yX1_give, Cond.code yX1_give cX1_give 7 (some .int), Cond.methodLink RX1 49 yX1_leave, Cond.instanceMethod yX1_leave, Cond.selects RX1 yX1_leave yX1_leave, Cond.code yX1_leave cX1_leave 2 none, Cond.methodLink RX1 53 yX2_stockOf, Cond.methodLink RX1 56 yX2_warmOf, Cond.methodLink RL 146 yX7_ask, Cond.instanceMethod yX7_ask, Cond.selects RX7 yX7_ask yX7_ask, Cond.code yX7_ask cX7_ask 3 (some .int), Cond.fieldLink RX7 256 "CockleSquiresModel" "traced" "I", Cond.methodLink RX7 280 yX7_sizeOf, Cond.instanceMethod yX7_sizeOf, Cond.selects RX7 yX7_sizeOf yX7_sizeOf, Cond.code yX7_sizeOf cX7_sizeOf 3 (some .int), Cond.methodLink RX7 259 yX7_begin, Cond.instanceMethod yX7_begin, Cond.selects RX7 yX7_begin yX7_begin, Cond.code yX7_begin cX7_begin 2 none, Cond.methodLink RX7 277 yX7_commonSize, Cond.instanceMethod yX7_commonSize, Cond.selects RX7 yX7_commonSize yX7_commonSize]
def wsL_law_r42 : List Cond := [Cond.code yX7_commonSize cX7_commonSize 3 (some .int), Cond.methodLink RX7 262 yX7_lent, Cond.instanceMethod yX7_lent, Cond.selects RX7 yX7_lent yX7_lent, Cond.code yX7_lent cX7_lent 3 (some .int), Cond.methodLink RX7 274 yX7_markOf, Cond.instanceMethod yX7_markOf, Cond.selects RX7 yX7_markOf yX7_markOf, Cond.code yX7_markOf cX7_markOf 4 (some .int), Cond.methodLink RX7 268 yX7_commonMark, Cond.instanceMethod yX7_commonMark, Cond.selects RX7 yX7_commonMark yX7_commonMark, Cond.code yX7_commonMark cX7_commonMark 2 (some .int), Cond.methodLink RX7 271 yX7_sizeOfWarm, Cond.instanceMethod yX7_sizeOfWarm, Cond.selects RX7 yX7_sizeOfWarm yX7_sizeOfWarm, Cond.code yX7_sizeOfWarm cX7_sizeOfWarm 2 (some .int), Cond.methodLink RX7 265 yX7_warmSize, Cond.instanceMethod yX7_warmSize, Cond.selects RX7 yX7_warmSize yX7_warmSize, Cond.code yX7_warmSize cX7_warmSize 2 (some .int), Cond.methodLink RL 147 yX6_trace, Cond.instanceMethod yX6_trace, Cond.selects RX6 yX6_trace yX6_trace]
def wsL_law_r43 : List Cond := [Cond.code yX6_trace cX6_trace 2 (some .int), Cond.methodLink RX6 291 yX1_traced, Cond.instanceMethod yX1_traced, Cond.selects RX1 yX1_traced yX1_traced, Cond.code yX1_traced cX1_traced 2 (some .int), Cond.constant RX1 42 (-1000000), Cond.methodLink RL 150 yX7_trace, Cond.instanceMethod yX7_trace, Cond.selects RX7 yX7_trace yX7_trace, Cond.code yX7_trace cX7_trace 2 (some .int), Cond.methodLink RL 151 yX6_count, Cond.instanceMethod yX6_count, Cond.selects RX6 yX6_count yX6_count, Cond.code yX6_count cX6_count 2 (some .int), Cond.methodLink RX6 294 yX4_present, Cond.instanceMethod yX4_present, Cond.selects RX4 yX4_present yX4_present, Cond.code yX4_present cX4_present 3 (some .int), Cond.methodLink RX6 297 yX2_allCounted, Cond.instanceMethod yX2_allCounted, Cond.selects RX2 yX2_allCounted yX2_allCounted, Cond.code yX2_allCounted cX2_allCounted 1 (some .int), Cond.methodLink RL 154 yX7_count, Cond.instanceMethod yX7_count]
def wsL_law_r44 : List Cond := [Cond.selects RX7 yX7_count yX7_count, Cond.code yX7_count cX7_count 4 (some .int), Cond.methodLink RL 155 yX6_status, Cond.instanceMethod yX6_status, Cond.selects RX6 yX6_status yX6_status, Cond.code yX6_status cX6_status 1 (some .int), Cond.methodLink RL 158 yX7_status, Cond.instanceMethod yX7_status, Cond.selects RX7 yX7_status yX7_status, Cond.code yX7_status cX7_status 1 (some .int)]
def wsL_law : List Cond := (wsL_law_r1 ++ (wsL_law_r2 ++ (wsL_law_r3 ++ (wsL_law_r4 ++ (wsL_law_r5 ++ (wsL_law_r6 ++ (wsL_law_r7 ++ (wsL_law_r8 ++ (wsL_law_r9 ++ (wsL_law_r10 ++ (wsL_law_r11 ++ (wsL_law_r12 ++ (wsL_law_r13 ++ (wsL_law_r14 ++ (wsL_law_r15 ++ (wsL_law_r16 ++ (wsL_law_r17 ++ (wsL_law_r18 ++ (wsL_law_r19 ++ (wsL_law_r20 ++ (wsL_law_r21 ++ (wsL_law_r22 ++ (wsL_law_r23 ++ (wsL_law_r24 ++ (wsL_law_r25 ++ (wsL_law_r26 ++ (wsL_law_r27 ++ (wsL_law_r28 ++ (wsL_law_r29 ++ (wsL_law_r30 ++ (wsL_law_r31 ++ (wsL_law_r32 ++ (wsL_law_r33 ++ (wsL_law_r34 ++ (wsL_law_r35 ++ (wsL_law_r36 ++ (wsL_law_r37 ++ (wsL_law_r38 ++ (wsL_law_r39 ++ (wsL_law_r40 ++ (wsL_law_r41 ++ (wsL_law_r42 ++ (wsL_law_r43 ++ wsL_law_r44))))))))))))))))))))))))))))))))))))))))))) ++ wsX60 ++ wsX70 ++ wsX40 ++ wsX50 ++ wsX20 ++ wsX00 ++ wsX30 ++ wsX10 ++ ([] : List Cond)
theorem inlX0 : ∀ w ∈ wsX00, w ∈ wsL_law := fun _ h => List.mem_append_left _ (List.mem_append_left _ (List.mem_append_left _ (List.mem_append_right _ h)))
theorem inlX1 : ∀ w ∈ wsX10, w ∈ wsL_law := fun _ h => List.mem_append_left _ (List.mem_append_right _ h)
theorem inlX2 : ∀ w ∈ wsX20, w ∈ wsL_law := fun _ h => List.mem_append_left _ (List.mem_append_left _ (List.mem_append_left _ (List.mem_append_left _ (List.mem_append_right _ h))))
theorem inlX3 : ∀ w ∈ wsX30, w ∈ wsL_law := fun _ h => List.mem_append_left _ (List.mem_append_left _ (List.mem_append_right _ h))
theorem inlX4 : ∀ w ∈ wsX40, w ∈ wsL_law := fun _ h => List.mem_append_left _ (List.mem_append_left _ (List.mem_append_left _ (List.mem_append_left _ (List.mem_append_left _ (List.mem_append_left _ (List.mem_append_right _ h))))))
theorem inlX5 : ∀ w ∈ wsX50, w ∈ wsL_law := fun _ h => List.mem_append_left _ (List.mem_append_left _ (List.mem_append_left _ (List.mem_append_left _ (List.mem_append_left _ (List.mem_append_right _ h)))))
theorem inlX6 : ∀ w ∈ wsX60, w ∈ wsL_law := fun _ h => List.mem_append_left _ (List.mem_append_left _ (List.mem_append_left _ (List.mem_append_left _ (List.mem_append_left _ (List.mem_append_left _ (List.mem_append_left _ (List.mem_append_left _ (List.mem_append_right _ h))))))))
theorem inlX7 : ∀ w ∈ wsX70, w ∈ wsL_law := fun _ h => List.mem_append_left _ (List.mem_append_left _ (List.mem_append_left _ (List.mem_append_left _ (List.mem_append_left _ (List.mem_append_left _ (List.mem_append_left _ (List.mem_append_right _ h)))))))
abbrev vwCl : List vw_C := [(RX0, TX0, 3), (RX1, TX1, 2), (RX2, TX2, 10), (RX3, TX3, 4), (RX4, TX4, 3), (RX5, TX5, 4), (RX6, TX6, 9), (RX7, TX7, 23)]
end
section
theorem wsL_good : wsL_law.all goodWord = true := by decide +kernel
theorem rl_1 : ∀ w, w ∈ wsL_law_r1 → w ∈ wsL_law := fun w h => List.mem_append_left _ (List.mem_append_left _ (List.mem_append_left _ (List.mem_append_left _ (List.mem_append_left _ (List.mem_append_left _ (List.mem_append_left _ (List.mem_append_left _ (List.mem_append_left _ (List.mem_append_left _ h)))))))))
theorem rl_2 : ∀ w, w ∈ wsL_law_r2 → w ∈ wsL_law := fun w h => List.mem_append_left _ (List.mem_append_left _ (List.mem_append_left _ (List.mem_append_left _ (List.mem_append_left _ (List.mem_append_left _ (List.mem_append_left _ (List.mem_append_left _ (List.mem_append_left _ (List.mem_append_right _ (List.mem_append_left _ h))))))))))
theorem rl_3 : ∀ w, w ∈ wsL_law_r3 → w ∈ wsL_law := fun w h => List.mem_append_left _ (List.mem_append_left _ (List.mem_append_left _ (List.mem_append_left _ (List.mem_append_left _ (List.mem_append_left _ (List.mem_append_left _ (List.mem_append_left _ (List.mem_append_left _ (List.mem_append_right _ (List.mem_append_right _ (List.mem_append_left _ h)))))))))))
theorem rl_4 : ∀ w, w ∈ wsL_law_r4 → w ∈ wsL_law := fun w h => List.mem_append_left _ (List.mem_append_left _ (List.mem_append_left _ (List.mem_append_left _ (List.mem_append_left _ (List.mem_append_left _ (List.mem_append_left _ (List.mem_append_left _ (List.mem_append_left _ (List.mem_append_right _ (List.mem_append_right _ (List.mem_append_right _ (List.mem_append_left _ h))))))))))))
theorem rl_5 : ∀ w, w ∈ wsL_law_r5 → w ∈ wsL_law := fun w h => List.mem_append_left _ (List.mem_append_left _ (List.mem_append_left _ (List.mem_append_left _ (List.mem_append_left _ (List.mem_append_left _ (List.mem_append_left _ (List.mem_append_left _ (List.mem_append_left _ (List.mem_append_right _ (List.mem_append_right _ (List.mem_append_right _ (List.mem_append_right _ (List.mem_append_left _ h)))))))))))))
theorem rl_6 : ∀ w, w ∈ wsL_law_r6 → w ∈ wsL_law := fun w h => List.mem_append_left _ (List.mem_append_left _ (List.mem_append_left _ (List.mem_append_left _ (List.mem_append_left _ (List.mem_append_left _ (List.mem_append_left _ (List.mem_append_left _ (List.mem_append_left _ (List.mem_append_right _ (List.mem_append_right _ (List.mem_append_right _ (List.mem_append_right _ (List.mem_append_right _ (List.mem_append_left _ h))))))))))))))
theorem rl_7 : ∀ w, w ∈ wsL_law_r7 → w ∈ wsL_law := fun w h => List.mem_append_left _ (List.mem_append_left _ (List.mem_append_left _ (List.mem_append_left _ (List.mem_append_left _ (List.mem_append_left _ (List.mem_append_left _ (List.mem_append_left _ (List.mem_append_left _ (List.mem_append_right _ (List.mem_append_right _ (List.mem_append_right _ (List.mem_append_right _ (List.mem_append_right _ (List.mem_append_right _ (List.mem_append_left _ h)))))))))))))))
theorem rl_8 : ∀ w, w ∈ wsL_law_r8 → w ∈ wsL_law := fun w h => List.mem_append_left _ (List.mem_append_left _ (List.mem_append_left _ (List.mem_append_left _ (List.mem_append_left _ (List.mem_append_left _ (List.mem_append_left _ (List.mem_append_left _ (List.mem_append_left _ (List.mem_append_right _ (List.mem_append_right _ (List.mem_append_right _ (List.mem_append_right _ (List.mem_append_right _ (List.mem_append_right _ (List.mem_append_right _ (List.mem_append_left _ h))))))))))))))))
theorem rl_9 : ∀ w, w ∈ wsL_law_r9 → w ∈ wsL_law := fun w h => List.mem_append_left _ (List.mem_append_left _ (List.mem_append_left _ (List.mem_append_left _ (List.mem_append_left _ (List.mem_append_left _ (List.mem_append_left _ (List.mem_append_left _ (List.mem_append_left _ (List.mem_append_right _ (List.mem_append_right _ (List.mem_append_right _ (List.mem_append_right _ (List.mem_append_right _ (List.mem_append_right _ (List.mem_append_right _ (List.mem_append_right _ (List.mem_append_left _ h)))))))))))))))))
theorem rl_10 : ∀ w, w ∈ wsL_law_r10 → w ∈ wsL_law := fun w h => List.mem_append_left _ (List.mem_append_left _ (List.mem_append_left _ (List.mem_append_left _ (List.mem_append_left _ (List.mem_append_left _ (List.mem_append_left _ (List.mem_append_left _ (List.mem_append_left _ (List.mem_append_right _ (List.mem_append_right _ (List.mem_append_right _ (List.mem_append_right _ (List.mem_append_right _ (List.mem_append_right _ (List.mem_append_right _ (List.mem_append_right _ (List.mem_append_right _ (List.mem_append_left _ h))))))))))))))))))
theorem rl_11 : ∀ w, w ∈ wsL_law_r11 → w ∈ wsL_law := fun w h => List.mem_append_left _ (List.mem_append_left _ (List.mem_append_left _ (List.mem_append_left _ (List.mem_append_left _ (List.mem_append_left _ (List.mem_append_left _ (List.mem_append_left _ (List.mem_append_left _ (List.mem_append_right _ (List.mem_append_right _ (List.mem_append_right _ (List.mem_append_right _ (List.mem_append_right _ (List.mem_append_right _ (List.mem_append_right _ (List.mem_append_right _ (List.mem_append_right _ (List.mem_append_right _ (List.mem_append_left _ h)))))))))))))))))))
theorem rl_12 : ∀ w, w ∈ wsL_law_r12 → w ∈ wsL_law := fun w h => List.mem_append_left _ (List.mem_append_left _ (List.mem_append_left _ (List.mem_append_left _ (List.mem_append_left _ (List.mem_append_left _ (List.mem_append_left _ (List.mem_append_left _ (List.mem_append_left _ (List.mem_append_right _ (List.mem_append_right _ (List.mem_append_right _ (List.mem_append_right _ (List.mem_append_right _ (List.mem_append_right _ (List.mem_append_right _ (List.mem_append_right _ (List.mem_append_right _ (List.mem_append_right _ (List.mem_append_right _ (List.mem_append_left _ h))))))))))))))))))))
theorem rl_13 : ∀ w, w ∈ wsL_law_r13 → w ∈ wsL_law := fun w h => List.mem_append_left _ (List.mem_append_left _ (List.mem_append_left _ (List.mem_append_left _ (List.mem_append_left _ (List.mem_append_left _ (List.mem_append_left _ (List.mem_append_left _ (List.mem_append_left _ (List.mem_append_right _ (List.mem_append_right _ (List.mem_append_right _ (List.mem_append_right _ (List.mem_append_right _ (List.mem_append_right _ (List.mem_append_right _ (List.mem_append_right _ (List.mem_append_right _ (List.mem_append_right _ (List.mem_append_right _ (List.mem_append_right _ (List.mem_append_left _ h)))))))))))))))))))))
theorem rl_14 : ∀ w, w ∈ wsL_law_r14 → w ∈ wsL_law := fun w h => List.mem_append_left _ (List.mem_append_left _ (List.mem_append_left _ (List.mem_append_left _ (List.mem_append_left _ (List.mem_append_left _ (List.mem_append_left _ (List.mem_append_left _ (List.mem_append_left _ (List.mem_append_right _ (List.mem_append_right _ (List.mem_append_right _ (List.mem_append_right _ (List.mem_append_right _ (List.mem_append_right _ (List.mem_append_right _ (List.mem_append_right _ (List.mem_append_right _ (List.mem_append_right _ (List.mem_append_right _ (List.mem_append_right _ (List.mem_append_right _ (List.mem_append_left _ h))))))))))))))))))))))
theorem rl_15 : ∀ w, w ∈ wsL_law_r15 → w ∈ wsL_law := fun w h => List.mem_append_left _ (List.mem_append_left _ (List.mem_append_left _ (List.mem_append_left _ (List.mem_append_left _ (List.mem_append_left _ (List.mem_append_left _ (List.mem_append_left _ (List.mem_append_left _ (List.mem_append_right _ (List.mem_append_right _ (List.mem_append_right _ (List.mem_append_right _ (List.mem_append_right _ (List.mem_append_right _ (List.mem_append_right _ (List.mem_append_right _ (List.mem_append_right _ (List.mem_append_right _ (List.mem_append_right _ (List.mem_append_right _ (List.mem_append_right _ (List.mem_append_right _ (List.mem_append_left _ h)))))))))))))))))))))))
theorem rl_16 : ∀ w, w ∈ wsL_law_r16 → w ∈ wsL_law := fun w h => List.mem_append_left _ (List.mem_append_left _ (List.mem_append_left _ (List.mem_append_left _ (List.mem_append_left _ (List.mem_append_left _ (List.mem_append_left _ (List.mem_append_left _ (List.mem_append_left _ (List.mem_append_right _ (List.mem_append_right _ (List.mem_append_right _ (List.mem_append_right _ (List.mem_append_right _ (List.mem_append_right _ (List.mem_append_right _ (List.mem_append_right _ (List.mem_append_right _ (List.mem_append_right _ (List.mem_append_right _ (List.mem_append_right _ (List.mem_append_right _ (List.mem_append_right _ (List.mem_append_right _ (List.mem_append_left _ h))))))))))))))))))))))))
theorem rl_17 : ∀ w, w ∈ wsL_law_r17 → w ∈ wsL_law := fun w h => List.mem_append_left _ (List.mem_append_left _ (List.mem_append_left _ (List.mem_append_left _ (List.mem_append_left _ (List.mem_append_left _ (List.mem_append_left _ (List.mem_append_left _ (List.mem_append_left _ (List.mem_append_right _ (List.mem_append_right _ (List.mem_append_right _ (List.mem_append_right _ (List.mem_append_right _ (List.mem_append_right _ (List.mem_append_right _ (List.mem_append_right _ (List.mem_append_right _ (List.mem_append_right _ (List.mem_append_right _ (List.mem_append_right _ (List.mem_append_right _ (List.mem_append_right _ (List.mem_append_right _ (List.mem_append_right _ (List.mem_append_left _ h)))))))))))))))))))))))))
theorem rl_18 : ∀ w, w ∈ wsL_law_r18 → w ∈ wsL_law := fun w h => List.mem_append_left _ (List.mem_append_left _ (List.mem_append_left _ (List.mem_append_left _ (List.mem_append_left _ (List.mem_append_left _ (List.mem_append_left _ (List.mem_append_left _ (List.mem_append_left _ (List.mem_append_right _ (List.mem_append_right _ (List.mem_append_right _ (List.mem_append_right _ (List.mem_append_right _ (List.mem_append_right _ (List.mem_append_right _ (List.mem_append_right _ (List.mem_append_right _ (List.mem_append_right _ (List.mem_append_right _ (List.mem_append_right _ (List.mem_append_right _ (List.mem_append_right _ (List.mem_append_right _ (List.mem_append_right _ (List.mem_append_right _ (List.mem_append_left _ h))))))))))))))))))))))))))
theorem rl_19 : ∀ w, w ∈ wsL_law_r19 → w ∈ wsL_law := fun w h => List.mem_append_left _ (List.mem_append_left _ (List.mem_append_left _ (List.mem_append_left _ (List.mem_append_left _ (List.mem_append_left _ (List.mem_append_left _ (List.mem_append_left _ (List.mem_append_left _ (List.mem_append_right _ (List.mem_append_right _ (List.mem_append_right _ (List.mem_append_right _ (List.mem_append_right _ (List.mem_append_right _ (List.mem_append_right _ (List.mem_append_right _ (List.mem_append_right _ (List.mem_append_right _ (List.mem_append_right _ (List.mem_append_right _ (List.mem_append_right _ (List.mem_append_right _ (List.mem_append_right _ (List.mem_append_right _ (List.mem_append_right _ (List.mem_append_right _ (List.mem_append_left _ h)))))))))))))))))))))))))))
theorem rl_20 : ∀ w, w ∈ wsL_law_r20 → w ∈ wsL_law := fun w h => List.mem_append_left _ (List.mem_append_left _ (List.mem_append_left _ (List.mem_append_left _ (List.mem_append_left _ (List.mem_append_left _ (List.mem_append_left _ (List.mem_append_left _ (List.mem_append_left _ (List.mem_append_right _ (List.mem_append_right _ (List.mem_append_right _ (List.mem_append_right _ (List.mem_append_right _ (List.mem_append_right _ (List.mem_append_right _ (List.mem_append_right _ (List.mem_append_right _ (List.mem_append_right _ (List.mem_append_right _ (List.mem_append_right _ (List.mem_append_right _ (List.mem_append_right _ (List.mem_append_right _ (List.mem_append_right _ (List.mem_append_right _ (List.mem_append_right _ (List.mem_append_right _ (List.mem_append_left _ h))))))))))))))))))))))))))))
theorem rl_21 : ∀ w, w ∈ wsL_law_r21 → w ∈ wsL_law := fun w h => List.mem_append_left _ (List.mem_append_left _ (List.mem_append_left _ (List.mem_append_left _ (List.mem_append_left _ (List.mem_append_left _ (List.mem_append_left _ (List.mem_append_left _ (List.mem_append_left _ (List.mem_append_right _ (List.mem_append_right _ (List.mem_append_right _ (List.mem_append_right _ (List.mem_append_right _ (List.mem_append_right _ (List.mem_append_right _ (List.mem_append_right _ (List.mem_append_right _ (List.mem_append_right _ (List.mem_append_right _ (List.mem_append_right _ (List.mem_append_right _ (List.mem_append_right _ (List.mem_append_right _ (List.mem_append_right _ (List.mem_append_right _ (List.mem_append_right _ (List.mem_append_right _ (List.mem_append_right _ (List.mem_append_left _ h)))))))))))))))))))))))))))))
theorem rl_22 : ∀ w, w ∈ wsL_law_r22 → w ∈ wsL_law := fun w h => List.mem_append_left _ (List.mem_append_left _ (List.mem_append_left _ (List.mem_append_left _ (List.mem_append_left _ (List.mem_append_left _ (List.mem_append_left _ (List.mem_append_left _ (List.mem_append_left _ (List.mem_append_right _ (List.mem_append_right _ (List.mem_append_right _ (List.mem_append_right _ (List.mem_append_right _ (List.mem_append_right _ (List.mem_append_right _ (List.mem_append_right _ (List.mem_append_right _ (List.mem_append_right _ (List.mem_append_right _ (List.mem_append_right _ (List.mem_append_right _ (List.mem_append_right _ (List.mem_append_right _ (List.mem_append_right _ (List.mem_append_right _ (List.mem_append_right _ (List.mem_append_right _ (List.mem_append_right _ (List.mem_append_right _ (List.mem_append_left _ h))))))))))))))))))))))))))))))
theorem rl_23 : ∀ w, w ∈ wsL_law_r23 → w ∈ wsL_law := fun w h => List.mem_append_left _ (List.mem_append_left _ (List.mem_append_left _ (List.mem_append_left _ (List.mem_append_left _ (List.mem_append_left _ (List.mem_append_left _ (List.mem_append_left _ (List.mem_append_left _ (List.mem_append_right _ (List.mem_append_right _ (List.mem_append_right _ (List.mem_append_right _ (List.mem_append_right _ (List.mem_append_right _ (List.mem_append_right _ (List.mem_append_right _ (List.mem_append_right _ (List.mem_append_right _ (List.mem_append_right _ (List.mem_append_right _ (List.mem_append_right _ (List.mem_append_right _ (List.mem_append_right _ (List.mem_append_right _ (List.mem_append_right _ (List.mem_append_right _ (List.mem_append_right _ (List.mem_append_right _ (List.mem_append_right _ (List.mem_append_right _ (List.mem_append_left _ h)))))))))))))))))))))))))))))))
theorem rl_24 : ∀ w, w ∈ wsL_law_r24 → w ∈ wsL_law := fun w h => List.mem_append_left _ (List.mem_append_left _ (List.mem_append_left _ (List.mem_append_left _ (List.mem_append_left _ (List.mem_append_left _ (List.mem_append_left _ (List.mem_append_left _ (List.mem_append_left _ (List.mem_append_right _ (List.mem_append_right _ (List.mem_append_right _ (List.mem_append_right _ (List.mem_append_right _ (List.mem_append_right _ (List.mem_append_right _ (List.mem_append_right _ (List.mem_append_right _ (List.mem_append_right _ (List.mem_append_right _ (List.mem_append_right _ (List.mem_append_right _ (List.mem_append_right _ (List.mem_append_right _ (List.mem_append_right _ (List.mem_append_right _ (List.mem_append_right _ (List.mem_append_right _ (List.mem_append_right _ (List.mem_append_right _ (List.mem_append_right _ (List.mem_append_right _ (List.mem_append_left _ h))))))))))))))))))))))))))))))))
theorem rl_25 : ∀ w, w ∈ wsL_law_r25 → w ∈ wsL_law := fun w h => List.mem_append_left _ (List.mem_append_left _ (List.mem_append_left _ (List.mem_append_left _ (List.mem_append_left _ (List.mem_append_left _ (List.mem_append_left _ (List.mem_append_left _ (List.mem_append_left _ (List.mem_append_right _ (List.mem_append_right _ (List.mem_append_right _ (List.mem_append_right _ (List.mem_append_right _ (List.mem_append_right _ (List.mem_append_right _ (List.mem_append_right _ (List.mem_append_right _ (List.mem_append_right _ (List.mem_append_right _ (List.mem_append_right _ (List.mem_append_right _ (List.mem_append_right _ (List.mem_append_right _ (List.mem_append_right _ (List.mem_append_right _ (List.mem_append_right _ (List.mem_append_right _ (List.mem_append_right _ (List.mem_append_right _ (List.mem_append_right _ (List.mem_append_right _ (List.mem_append_right _ (List.mem_append_left _ h)))))))))))))))))))))))))))))))))
theorem rl_26 : ∀ w, w ∈ wsL_law_r26 → w ∈ wsL_law := fun w h => List.mem_append_left _ (List.mem_append_left _ (List.mem_append_left _ (List.mem_append_left _ (List.mem_append_left _ (List.mem_append_left _ (List.mem_append_left _ (List.mem_append_left _ (List.mem_append_left _ (List.mem_append_right _ (List.mem_append_right _ (List.mem_append_right _ (List.mem_append_right _ (List.mem_append_right _ (List.mem_append_right _ (List.mem_append_right _ (List.mem_append_right _ (List.mem_append_right _ (List.mem_append_right _ (List.mem_append_right _ (List.mem_append_right _ (List.mem_append_right _ (List.mem_append_right _ (List.mem_append_right _ (List.mem_append_right _ (List.mem_append_right _ (List.mem_append_right _ (List.mem_append_right _ (List.mem_append_right _ (List.mem_append_right _ (List.mem_append_right _ (List.mem_append_right _ (List.mem_append_right _ (List.mem_append_right _ (List.mem_append_left _ h))))))))))))))))))))))))))))))))))
theorem rl_27 : ∀ w, w ∈ wsL_law_r27 → w ∈ wsL_law := fun w h => List.mem_append_left _ (List.mem_append_left _ (List.mem_append_left _ (List.mem_append_left _ (List.mem_append_left _ (List.mem_append_left _ (List.mem_append_left _ (List.mem_append_left _ (List.mem_append_left _ (List.mem_append_right _ (List.mem_append_right _ (List.mem_append_right _ (List.mem_append_right _ (List.mem_append_right _ (List.mem_append_right _ (List.mem_append_right _ (List.mem_append_right _ (List.mem_append_right _ (List.mem_append_right _ (List.mem_append_right _ (List.mem_append_right _ (List.mem_append_right _ (List.mem_append_right _ (List.mem_append_right _ (List.mem_append_right _ (List.mem_append_right _ (List.mem_append_right _ (List.mem_append_right _ (List.mem_append_right _ (List.mem_append_right _ (List.mem_append_right _ (List.mem_append_right _ (List.mem_append_right _ (List.mem_append_right _ (List.mem_append_right _ (List.mem_append_left _ h)))))))))))))))))))))))))))))))))))
theorem rl_28 : ∀ w, w ∈ wsL_law_r28 → w ∈ wsL_law := fun w h => List.mem_append_left _ (List.mem_append_left _ (List.mem_append_left _ (List.mem_append_left _ (List.mem_append_left _ (List.mem_append_left _ (List.mem_append_left _ (List.mem_append_left _ (List.mem_append_left _ (List.mem_append_right _ (List.mem_append_right _ (List.mem_append_right _ (List.mem_append_right _ (List.mem_append_right _ (List.mem_append_right _ (List.mem_append_right _ (List.mem_append_right _ (List.mem_append_right _ (List.mem_append_right _ (List.mem_append_right _ (List.mem_append_right _ (List.mem_append_right _ (List.mem_append_right _ (List.mem_append_right _ (List.mem_append_right _ (List.mem_append_right _ (List.mem_append_right _ (List.mem_append_right _ (List.mem_append_right _ (List.mem_append_right _ (List.mem_append_right _ (List.mem_append_right _ (List.mem_append_right _ (List.mem_append_right _ (List.mem_append_right _ (List.mem_append_right _ (List.mem_append_left _ h))))))))))))))))))))))))))))))))))))
theorem rl_29 : ∀ w, w ∈ wsL_law_r29 → w ∈ wsL_law := fun w h => List.mem_append_left _ (List.mem_append_left _ (List.mem_append_left _ (List.mem_append_left _ (List.mem_append_left _ (List.mem_append_left _ (List.mem_append_left _ (List.mem_append_left _ (List.mem_append_left _ (List.mem_append_right _ (List.mem_append_right _ (List.mem_append_right _ (List.mem_append_right _ (List.mem_append_right _ (List.mem_append_right _ (List.mem_append_right _ (List.mem_append_right _ (List.mem_append_right _ (List.mem_append_right _ (List.mem_append_right _ (List.mem_append_right _ (List.mem_append_right _ (List.mem_append_right _ (List.mem_append_right _ (List.mem_append_right _ (List.mem_append_right _ (List.mem_append_right _ (List.mem_append_right _ (List.mem_append_right _ (List.mem_append_right _ (List.mem_append_right _ (List.mem_append_right _ (List.mem_append_right _ (List.mem_append_right _ (List.mem_append_right _ (List.mem_append_right _ (List.mem_append_right _ (List.mem_append_left _ h)))))))))))))))))))))))))))))))))))))
theorem rl_30 : ∀ w, w ∈ wsL_law_r30 → w ∈ wsL_law := fun w h => List.mem_append_left _ (List.mem_append_left _ (List.mem_append_left _ (List.mem_append_left _ (List.mem_append_left _ (List.mem_append_left _ (List.mem_append_left _ (List.mem_append_left _ (List.mem_append_left _ (List.mem_append_right _ (List.mem_append_right _ (List.mem_append_right _ (List.mem_append_right _ (List.mem_append_right _ (List.mem_append_right _ (List.mem_append_right _ (List.mem_append_right _ (List.mem_append_right _ (List.mem_append_right _ (List.mem_append_right _ (List.mem_append_right _ (List.mem_append_right _ (List.mem_append_right _ (List.mem_append_right _ (List.mem_append_right _ (List.mem_append_right _ (List.mem_append_right _ (List.mem_append_right _ (List.mem_append_right _ (List.mem_append_right _ (List.mem_append_right _ (List.mem_append_right _ (List.mem_append_right _ (List.mem_append_right _ (List.mem_append_right _ (List.mem_append_right _ (List.mem_append_right _ (List.mem_append_right _ (List.mem_append_left _ h))))))))))))))))))))))))))))))))))))))
theorem rl_31 : ∀ w, w ∈ wsL_law_r31 → w ∈ wsL_law := fun w h => List.mem_append_left _ (List.mem_append_left _ (List.mem_append_left _ (List.mem_append_left _ (List.mem_append_left _ (List.mem_append_left _ (List.mem_append_left _ (List.mem_append_left _ (List.mem_append_left _ (List.mem_append_right _ (List.mem_append_right _ (List.mem_append_right _ (List.mem_append_right _ (List.mem_append_right _ (List.mem_append_right _ (List.mem_append_right _ (List.mem_append_right _ (List.mem_append_right _ (List.mem_append_right _ (List.mem_append_right _ (List.mem_append_right _ (List.mem_append_right _ (List.mem_append_right _ (List.mem_append_right _ (List.mem_append_right _ (List.mem_append_right _ (List.mem_append_right _ (List.mem_append_right _ (List.mem_append_right _ (List.mem_append_right _ (List.mem_append_right _ (List.mem_append_right _ (List.mem_append_right _ (List.mem_append_right _ (List.mem_append_right _ (List.mem_append_right _ (List.mem_append_right _ (List.mem_append_right _ (List.mem_append_right _ (List.mem_append_left _ h)))))))))))))))))))))))))))))))))))))))
theorem rl_32 : ∀ w, w ∈ wsL_law_r32 → w ∈ wsL_law := fun w h => List.mem_append_left _ (List.mem_append_left _ (List.mem_append_left _ (List.mem_append_left _ (List.mem_append_left _ (List.mem_append_left _ (List.mem_append_left _ (List.mem_append_left _ (List.mem_append_left _ (List.mem_append_right _ (List.mem_append_right _ (List.mem_append_right _ (List.mem_append_right _ (List.mem_append_right _ (List.mem_append_right _ (List.mem_append_right _ (List.mem_append_right _ (List.mem_append_right _ (List.mem_append_right _ (List.mem_append_right _ (List.mem_append_right _ (List.mem_append_right _ (List.mem_append_right _ (List.mem_append_right _ (List.mem_append_right _ (List.mem_append_right _ (List.mem_append_right _ (List.mem_append_right _ (List.mem_append_right _ (List.mem_append_right _ (List.mem_append_right _ (List.mem_append_right _ (List.mem_append_right _ (List.mem_append_right _ (List.mem_append_right _ (List.mem_append_right _ (List.mem_append_right _ (List.mem_append_right _ (List.mem_append_right _ (List.mem_append_right _ (List.mem_append_left _ h))))))))))))))))))))))))))))))))))))))))
theorem rl_33 : ∀ w, w ∈ wsL_law_r33 → w ∈ wsL_law := fun w h => List.mem_append_left _ (List.mem_append_left _ (List.mem_append_left _ (List.mem_append_left _ (List.mem_append_left _ (List.mem_append_left _ (List.mem_append_left _ (List.mem_append_left _ (List.mem_append_left _ (List.mem_append_right _ (List.mem_append_right _ (List.mem_append_right _ (List.mem_append_right _ (List.mem_append_right _ (List.mem_append_right _ (List.mem_append_right _ (List.mem_append_right _ (List.mem_append_right _ (List.mem_append_right _ (List.mem_append_right _ (List.mem_append_right _ (List.mem_append_right _ (List.mem_append_right _ (List.mem_append_right _ (List.mem_append_right _ (List.mem_append_right _ (List.mem_append_right _ (List.mem_append_right _ (List.mem_append_right _ (List.mem_append_right _ (List.mem_append_right _ (List.mem_append_right _ (List.mem_append_right _ (List.mem_append_right _ (List.mem_append_right _ (List.mem_append_right _ (List.mem_append_right _ (List.mem_append_right _ (List.mem_append_right _ (List.mem_append_right _ (List.mem_append_right _ (List.mem_append_left _ h)))))))))))))))))))))))))))))))))))))))))
theorem rl_34 : ∀ w, w ∈ wsL_law_r34 → w ∈ wsL_law := fun w h => List.mem_append_left _ (List.mem_append_left _ (List.mem_append_left _ (List.mem_append_left _ (List.mem_append_left _ (List.mem_append_left _ (List.mem_append_left _ (List.mem_append_left _ (List.mem_append_left _ (List.mem_append_right _ (List.mem_append_right _ (List.mem_append_right _ (List.mem_append_right _ (List.mem_append_right _ (List.mem_append_right _ (List.mem_append_right _ (List.mem_append_right _ (List.mem_append_right _ (List.mem_append_right _ (List.mem_append_right _ (List.mem_append_right _ (List.mem_append_right _ (List.mem_append_right _ (List.mem_append_right _ (List.mem_append_right _ (List.mem_append_right _ (List.mem_append_right _ (List.mem_append_right _ (List.mem_append_right _ (List.mem_append_right _ (List.mem_append_right _ (List.mem_append_right _ (List.mem_append_right _ (List.mem_append_right _ (List.mem_append_right _ (List.mem_append_right _ (List.mem_append_right _ (List.mem_append_right _ (List.mem_append_right _ (List.mem_append_right _ (List.mem_append_right _ (List.mem_append_right _ (List.mem_append_left _ h))))))))))))))))))))))))))))))))))))))))))
theorem rl_35 : ∀ w, w ∈ wsL_law_r35 → w ∈ wsL_law := fun w h => List.mem_append_left _ (List.mem_append_left _ (List.mem_append_left _ (List.mem_append_left _ (List.mem_append_left _ (List.mem_append_left _ (List.mem_append_left _ (List.mem_append_left _ (List.mem_append_left _ (List.mem_append_right _ (List.mem_append_right _ (List.mem_append_right _ (List.mem_append_right _ (List.mem_append_right _ (List.mem_append_right _ (List.mem_append_right _ (List.mem_append_right _ (List.mem_append_right _ (List.mem_append_right _ (List.mem_append_right _ (List.mem_append_right _ (List.mem_append_right _ (List.mem_append_right _ (List.mem_append_right _ (List.mem_append_right _ (List.mem_append_right _ (List.mem_append_right _ (List.mem_append_right _ (List.mem_append_right _ (List.mem_append_right _ (List.mem_append_right _ (List.mem_append_right _ (List.mem_append_right _ (List.mem_append_right _ (List.mem_append_right _ (List.mem_append_right _ (List.mem_append_right _ (List.mem_append_right _ (List.mem_append_right _ (List.mem_append_right _ (List.mem_append_right _ (List.mem_append_right _ (List.mem_append_right _ (List.mem_append_left _ h)))))))))))))))))))))))))))))))))))))))))))
theorem rl_36 : ∀ w, w ∈ wsL_law_r36 → w ∈ wsL_law := fun w h => List.mem_append_left _ (List.mem_append_left _ (List.mem_append_left _ (List.mem_append_left _ (List.mem_append_left _ (List.mem_append_left _ (List.mem_append_left _ (List.mem_append_left _ (List.mem_append_left _ (List.mem_append_right _ (List.mem_append_right _ (List.mem_append_right _ (List.mem_append_right _ (List.mem_append_right _ (List.mem_append_right _ (List.mem_append_right _ (List.mem_append_right _ (List.mem_append_right _ (List.mem_append_right _ (List.mem_append_right _ (List.mem_append_right _ (List.mem_append_right _ (List.mem_append_right _ (List.mem_append_right _ (List.mem_append_right _ (List.mem_append_right _ (List.mem_append_right _ (List.mem_append_right _ (List.mem_append_right _ (List.mem_append_right _ (List.mem_append_right _ (List.mem_append_right _ (List.mem_append_right _ (List.mem_append_right _ (List.mem_append_right _ (List.mem_append_right _ (List.mem_append_right _ (List.mem_append_right _ (List.mem_append_right _ (List.mem_append_right _ (List.mem_append_right _ (List.mem_append_right _ (List.mem_append_right _ (List.mem_append_right _ (List.mem_append_left _ h))))))))))))))))))))))))))))))))))))))))))))
theorem rl_37 : ∀ w, w ∈ wsL_law_r37 → w ∈ wsL_law := fun w h => List.mem_append_left _ (List.mem_append_left _ (List.mem_append_left _ (List.mem_append_left _ (List.mem_append_left _ (List.mem_append_left _ (List.mem_append_left _ (List.mem_append_left _ (List.mem_append_left _ (List.mem_append_right _ (List.mem_append_right _ (List.mem_append_right _ (List.mem_append_right _ (List.mem_append_right _ (List.mem_append_right _ (List.mem_append_right _ (List.mem_append_right _ (List.mem_append_right _ (List.mem_append_right _ (List.mem_append_right _ (List.mem_append_right _ (List.mem_append_right _ (List.mem_append_right _ (List.mem_append_right _ (List.mem_append_right _ (List.mem_append_right _ (List.mem_append_right _ (List.mem_append_right _ (List.mem_append_right _ (List.mem_append_right _ (List.mem_append_right _ (List.mem_append_right _ (List.mem_append_right _ (List.mem_append_right _ (List.mem_append_right _ (List.mem_append_right _ (List.mem_append_right _ (List.mem_append_right _ (List.mem_append_right _ (List.mem_append_right _ (List.mem_append_right _ (List.mem_append_right _ (List.mem_append_right _ (List.mem_append_right _ (List.mem_append_right _ (List.mem_append_left _ h)))))))))))))))))))))))))))))))))))))))))))))
theorem rl_38 : ∀ w, w ∈ wsL_law_r38 → w ∈ wsL_law := fun w h => List.mem_append_left _ (List.mem_append_left _ (List.mem_append_left _ (List.mem_append_left _ (List.mem_append_left _ (List.mem_append_left _ (List.mem_append_left _ (List.mem_append_left _ (List.mem_append_left _ (List.mem_append_right _ (List.mem_append_right _ (List.mem_append_right _ (List.mem_append_right _ (List.mem_append_right _ (List.mem_append_right _ (List.mem_append_right _ (List.mem_append_right _ (List.mem_append_right _ (List.mem_append_right _ (List.mem_append_right _ (List.mem_append_right _ (List.mem_append_right _ (List.mem_append_right _ (List.mem_append_right _ (List.mem_append_right _ (List.mem_append_right _ (List.mem_append_right _ (List.mem_append_right _ (List.mem_append_right _ (List.mem_append_right _ (List.mem_append_right _ (List.mem_append_right _ (List.mem_append_right _ (List.mem_append_right _ (List.mem_append_right _ (List.mem_append_right _ (List.mem_append_right _ (List.mem_append_right _ (List.mem_append_right _ (List.mem_append_right _ (List.mem_append_right _ (List.mem_append_right _ (List.mem_append_right _ (List.mem_append_right _ (List.mem_append_right _ (List.mem_append_right _ (List.mem_append_left _ h))))))))))))))))))))))))))))))))))))))))))))))
theorem rl_39 : ∀ w, w ∈ wsL_law_r39 → w ∈ wsL_law := fun w h => List.mem_append_left _ (List.mem_append_left _ (List.mem_append_left _ (List.mem_append_left _ (List.mem_append_left _ (List.mem_append_left _ (List.mem_append_left _ (List.mem_append_left _ (List.mem_append_left _ (List.mem_append_right _ (List.mem_append_right _ (List.mem_append_right _ (List.mem_append_right _ (List.mem_append_right _ (List.mem_append_right _ (List.mem_append_right _ (List.mem_append_right _ (List.mem_append_right _ (List.mem_append_right _ (List.mem_append_right _ (List.mem_append_right _ (List.mem_append_right _ (List.mem_append_right _ (List.mem_append_right _ (List.mem_append_right _ (List.mem_append_right _ (List.mem_append_right _ (List.mem_append_right _ (List.mem_append_right _ (List.mem_append_right _ (List.mem_append_right _ (List.mem_append_right _ (List.mem_append_right _ (List.mem_append_right _ (List.mem_append_right _ (List.mem_append_right _ (List.mem_append_right _ (List.mem_append_right _ (List.mem_append_right _ (List.mem_append_right _ (List.mem_append_right _ (List.mem_append_right _ (List.mem_append_right _ (List.mem_append_right _ (List.mem_append_right _ (List.mem_append_right _ (List.mem_append_right _ (List.mem_append_left _ h)))))))))))))))))))))))))))))))))))))))))))))))
theorem rl_40 : ∀ w, w ∈ wsL_law_r40 → w ∈ wsL_law := fun w h => List.mem_append_left _ (List.mem_append_left _ (List.mem_append_left _ (List.mem_append_left _ (List.mem_append_left _ (List.mem_append_left _ (List.mem_append_left _ (List.mem_append_left _ (List.mem_append_left _ (List.mem_append_right _ (List.mem_append_right _ (List.mem_append_right _ (List.mem_append_right _ (List.mem_append_right _ (List.mem_append_right _ (List.mem_append_right _ (List.mem_append_right _ (List.mem_append_right _ (List.mem_append_right _ (List.mem_append_right _ (List.mem_append_right _ (List.mem_append_right _ (List.mem_append_right _ (List.mem_append_right _ (List.mem_append_right _ (List.mem_append_right _ (List.mem_append_right _ (List.mem_append_right _ (List.mem_append_right _ (List.mem_append_right _ (List.mem_append_right _ (List.mem_append_right _ (List.mem_append_right _ (List.mem_append_right _ (List.mem_append_right _ (List.mem_append_right _ (List.mem_append_right _ (List.mem_append_right _ (List.mem_append_right _ (List.mem_append_right _ (List.mem_append_right _ (List.mem_append_right _ (List.mem_append_right _ (List.mem_append_right _ (List.mem_append_right _ (List.mem_append_right _ (List.mem_append_right _ (List.mem_append_right _ (List.mem_append_left _ h))))))))))))))))))))))))))))))))))))))))))))))))
theorem rl_41 : ∀ w, w ∈ wsL_law_r41 → w ∈ wsL_law := fun w h => List.mem_append_left _ (List.mem_append_left _ (List.mem_append_left _ (List.mem_append_left _ (List.mem_append_left _ (List.mem_append_left _ (List.mem_append_left _ (List.mem_append_left _ (List.mem_append_left _ (List.mem_append_right _ (List.mem_append_right _ (List.mem_append_right _ (List.mem_append_right _ (List.mem_append_right _ (List.mem_append_right _ (List.mem_append_right _ (List.mem_append_right _ (List.mem_append_right _ (List.mem_append_right _ (List.mem_append_right _ (List.mem_append_right _ (List.mem_append_right _ (List.mem_append_right _ (List.mem_append_right _ (List.mem_append_right _ (List.mem_append_right _ (List.mem_append_right _ (List.mem_append_right _ (List.mem_append_right _ (List.mem_append_right _ (List.mem_append_right _ (List.mem_append_right _ (List.mem_append_right _ (List.mem_append_right _ (List.mem_append_right _ (List.mem_append_right _ (List.mem_append_right _ (List.mem_append_right _ (List.mem_append_right _ (List.mem_append_right _ (List.mem_append_right _ (List.mem_append_right _ (List.mem_append_right _ (List.mem_append_right _ (List.mem_append_right _ (List.mem_append_right _ (List.mem_append_right _ (List.mem_append_right _ (List.mem_append_right _ (List.mem_append_left _ h)))))))))))))))))))))))))))))))))))))))))))))))))
theorem rl_42 : ∀ w, w ∈ wsL_law_r42 → w ∈ wsL_law := fun w h => List.mem_append_left _ (List.mem_append_left _ (List.mem_append_left _ (List.mem_append_left _ (List.mem_append_left _ (List.mem_append_left _ (List.mem_append_left _ (List.mem_append_left _ (List.mem_append_left _ (List.mem_append_right _ (List.mem_append_right _ (List.mem_append_right _ (List.mem_append_right _ (List.mem_append_right _ (List.mem_append_right _ (List.mem_append_right _ (List.mem_append_right _ (List.mem_append_right _ (List.mem_append_right _ (List.mem_append_right _ (List.mem_append_right _ (List.mem_append_right _ (List.mem_append_right _ (List.mem_append_right _ (List.mem_append_right _ (List.mem_append_right _ (List.mem_append_right _ (List.mem_append_right _ (List.mem_append_right _ (List.mem_append_right _ (List.mem_append_right _ (List.mem_append_right _ (List.mem_append_right _ (List.mem_append_right _ (List.mem_append_right _ (List.mem_append_right _ (List.mem_append_right _ (List.mem_append_right _ (List.mem_append_right _ (List.mem_append_right _ (List.mem_append_right _ (List.mem_append_right _ (List.mem_append_right _ (List.mem_append_right _ (List.mem_append_right _ (List.mem_append_right _ (List.mem_append_right _ (List.mem_append_right _ (List.mem_append_right _ (List.mem_append_right _ (List.mem_append_left _ h))))))))))))))))))))))))))))))))))))))))))))))))))
theorem rl_43 : ∀ w, w ∈ wsL_law_r43 → w ∈ wsL_law := fun w h => List.mem_append_left _ (List.mem_append_left _ (List.mem_append_left _ (List.mem_append_left _ (List.mem_append_left _ (List.mem_append_left _ (List.mem_append_left _ (List.mem_append_left _ (List.mem_append_left _ (List.mem_append_right _ (List.mem_append_right _ (List.mem_append_right _ (List.mem_append_right _ (List.mem_append_right _ (List.mem_append_right _ (List.mem_append_right _ (List.mem_append_right _ (List.mem_append_right _ (List.mem_append_right _ (List.mem_append_right _ (List.mem_append_right _ (List.mem_append_right _ (List.mem_append_right _ (List.mem_append_right _ (List.mem_append_right _ (List.mem_append_right _ (List.mem_append_right _ (List.mem_append_right _ (List.mem_append_right _ (List.mem_append_right _ (List.mem_append_right _ (List.mem_append_right _ (List.mem_append_right _ (List.mem_append_right _ (List.mem_append_right _ (List.mem_append_right _ (List.mem_append_right _ (List.mem_append_right _ (List.mem_append_right _ (List.mem_append_right _ (List.mem_append_right _ (List.mem_append_right _ (List.mem_append_right _ (List.mem_append_right _ (List.mem_append_right _ (List.mem_append_right _ (List.mem_append_right _ (List.mem_append_right _ (List.mem_append_right _ (List.mem_append_right _ (List.mem_append_right _ (List.mem_append_left _ h)))))))))))))))))))))))))))))))))))))))))))))))))))
theorem rl_44 : ∀ w, w ∈ wsL_law_r44 → w ∈ wsL_law := fun w h => List.mem_append_left _ (List.mem_append_left _ (List.mem_append_left _ (List.mem_append_left _ (List.mem_append_left _ (List.mem_append_left _ (List.mem_append_left _ (List.mem_append_left _ (List.mem_append_left _ (List.mem_append_right _ (List.mem_append_right _ (List.mem_append_right _ (List.mem_append_right _ (List.mem_append_right _ (List.mem_append_right _ (List.mem_append_right _ (List.mem_append_right _ (List.mem_append_right _ (List.mem_append_right _ (List.mem_append_right _ (List.mem_append_right _ (List.mem_append_right _ (List.mem_append_right _ (List.mem_append_right _ (List.mem_append_right _ (List.mem_append_right _ (List.mem_append_right _ (List.mem_append_right _ (List.mem_append_right _ (List.mem_append_right _ (List.mem_append_right _ (List.mem_append_right _ (List.mem_append_right _ (List.mem_append_right _ (List.mem_append_right _ (List.mem_append_right _ (List.mem_append_right _ (List.mem_append_right _ (List.mem_append_right _ (List.mem_append_right _ (List.mem_append_right _ (List.mem_append_right _ (List.mem_append_right _ (List.mem_append_right _ (List.mem_append_right _ (List.mem_append_right _ (List.mem_append_right _ (List.mem_append_right _ (List.mem_append_right _ (List.mem_append_right _ (List.mem_append_right _ (List.mem_append_right _ (h))))))))))))))))))))))))))))))))))))))))))))))))))))
theorem q_0 : (Cond.classLink RL 7 RX6) ∈ wsL_law := rl_1 _ (List.mem_of_getElem? (i := 0) rfl)
theorem q_1 : (Cond.instantiable RX6 9) ∈ wsL_law := rl_1 _ (List.mem_of_getElem? (i := 1) rfl)
theorem q_2 : (Cond.initialized RX6) ∈ wsL_law := rl_1 _ (List.mem_of_getElem? (i := 2) rfl)
theorem q_3 : (Cond.classLink RL 10 RX7) ∈ wsL_law := rl_1 _ (List.mem_of_getElem? (i := 3) rfl)
theorem q_4 : (Cond.instantiable RX7 23) ∈ wsL_law := rl_1 _ (List.mem_of_getElem? (i := 4) rfl)
theorem q_5 : (Cond.initialized RX7) ∈ wsL_law := rl_1 _ (List.mem_of_getElem? (i := 5) rfl)
theorem q_6 : (Cond.methodLink RL 9 yX6_init) ∈ wsL_law := rl_1 _ (List.mem_of_getElem? (i := 6) rfl)
theorem q_7 : (Cond.instanceMethod yX6_init) ∈ wsL_law := rl_1 _ (List.mem_of_getElem? (i := 7) rfl)
theorem q_8 : (Cond.code yX6_init cX6_init 1 none) ∈ wsL_law := rl_1 _ (List.mem_of_getElem? (i := 8) rfl)
theorem q_9 : (Cond.methodLink RX6 1 objectInit) ∈ wsL_law := rl_1 _ (List.mem_of_getElem? (i := 9) rfl)
theorem q_10 : (Cond.instanceMethod objectInit) ∈ wsL_law := rl_1 _ (List.mem_of_getElem? (i := 10) rfl)
theorem q_11 : (Cond.code objectInit ⟨#[0xb1]⟩ 1 none) ∈ wsL_law := rl_1 _ (List.mem_of_getElem? (i := 11) rfl)
theorem q_12 : (Cond.classLink RX6 7 RX4) ∈ wsL_law := rl_1 _ (List.mem_of_getElem? (i := 12) rfl)
theorem q_13 : (Cond.instantiable RX4 3) ∈ wsL_law := rl_1 _ (List.mem_of_getElem? (i := 13) rfl)
theorem q_14 : (Cond.initialized RX4) ∈ wsL_law := rl_1 _ (List.mem_of_getElem? (i := 14) rfl)
theorem q_15 : (Cond.fieldLink RX6 10 "CockleSquires" "rows" "LCockleSquires$Rows;") ∈ wsL_law := rl_1 _ (List.mem_of_getElem? (i := 15) rfl)
theorem q_16 : (Cond.classLink RX6 16 RX5) ∈ wsL_law := rl_1 _ (List.mem_of_getElem? (i := 16) rfl)
theorem q_17 : (Cond.instantiable RX5 4) ∈ wsL_law := rl_1 _ (List.mem_of_getElem? (i := 17) rfl)
theorem q_18 : (Cond.initialized RX5) ∈ wsL_law := rl_1 _ (List.mem_of_getElem? (i := 18) rfl)
theorem q_19 : (Cond.fieldLink RX6 19 "CockleSquires" "tape" "LCockleSquires$Tape;") ∈ wsL_law := rl_1 _ (List.mem_of_getElem? (i := 19) rfl)
theorem q_20 : (Cond.classLink RX6 23 RX2) ∈ wsL_law := rl_1 _ (List.mem_of_getElem? (i := 20) rfl)
theorem q_21 : (Cond.instantiable RX2 10) ∈ wsL_law := rl_1 _ (List.mem_of_getElem? (i := 21) rfl)
theorem q_22 : (Cond.initialized RX2) ∈ wsL_law := rl_1 _ (List.mem_of_getElem? (i := 22) rfl)
theorem q_23 : (Cond.fieldLink RX6 26 "CockleSquires" "now" "LCockleSquires$Flat;") ∈ wsL_law := rl_1 _ (List.mem_of_getElem? (i := 23) rfl)
theorem q_24 : (Cond.classLink RX6 30 RX0) ∈ wsL_law := rl_2 _ (List.mem_of_getElem? (i := 0) rfl)
theorem q_25 : (Cond.instantiable RX0 3) ∈ wsL_law := rl_2 _ (List.mem_of_getElem? (i := 1) rfl)
theorem q_26 : (Cond.initialized RX0) ∈ wsL_law := rl_2 _ (List.mem_of_getElem? (i := 2) rfl)
theorem q_27 : (Cond.fieldLink RX6 33 "CockleSquires" "acts" "LCockleSquires$Acts;") ∈ wsL_law := rl_2 _ (List.mem_of_getElem? (i := 3) rfl)
theorem q_28 : (Cond.fieldLink RX6 37 "CockleSquires" "images" "[LCockleSquires$Flat;") ∈ wsL_law := rl_2 _ (List.mem_of_getElem? (i := 4) rfl)
theorem q_29 : (Cond.classLink RX6 41 RX3) ∈ wsL_law := rl_2 _ (List.mem_of_getElem? (i := 5) rfl)
theorem q_30 : (Cond.instantiable RX3 4) ∈ wsL_law := rl_2 _ (List.mem_of_getElem? (i := 6) rfl)
theorem q_31 : (Cond.initialized RX3) ∈ wsL_law := rl_2 _ (List.mem_of_getElem? (i := 7) rfl)
theorem q_32 : (Cond.fieldLink RX6 44 "CockleSquires" "foretelling" "LCockleSquires$Foretelling;") ∈ wsL_law := rl_2 _ (List.mem_of_getElem? (i := 8) rfl)
theorem q_33 : (Cond.classLink RX6 48 RX1) ∈ wsL_law := rl_2 _ (List.mem_of_getElem? (i := 9) rfl)
theorem q_34 : (Cond.instantiable RX1 2) ∈ wsL_law := rl_2 _ (List.mem_of_getElem? (i := 10) rfl)
theorem q_35 : (Cond.initialized RX1) ∈ wsL_law := rl_2 _ (List.mem_of_getElem? (i := 11) rfl)
theorem q_36 : (Cond.fieldLink RX6 51 "CockleSquires" "asking" "LCockleSquires$Asking;") ∈ wsL_law := rl_2 _ (List.mem_of_getElem? (i := 12) rfl)
theorem q_37 : (Cond.fieldLink RX6 55 "CockleSquires" "latestFault" "I") ∈ wsL_law := rl_2 _ (List.mem_of_getElem? (i := 13) rfl)
theorem q_38 : (Cond.fieldLink RX6 59 "CockleSquires" "latestFinding" "I") ∈ wsL_law := rl_2 _ (List.mem_of_getElem? (i := 14) rfl)
theorem q_39 : (Cond.methodLink RX6 9 yX4_init) ∈ wsL_law := rl_2 _ (List.mem_of_getElem? (i := 15) rfl)
theorem q_40 : (Cond.instanceMethod yX4_init) ∈ wsL_law := rl_2 _ (List.mem_of_getElem? (i := 16) rfl)
theorem q_41 : (Cond.code yX4_init cX4_init 2 none) ∈ wsL_law := rl_2 _ (List.mem_of_getElem? (i := 17) rfl)
theorem q_42 : (Cond.methodLink RX4 3 objectInit) ∈ wsL_law := rl_2 _ (List.mem_of_getElem? (i := 18) rfl)
theorem q_43 : (Cond.arrayClass .int) ∈ wsL_law := rl_2 _ (List.mem_of_getElem? (i := 19) rfl)
theorem q_44 : (Cond.fieldLink RX4 9 "CockleSquires$Rows" "items" "[I") ∈ wsL_law := rl_2 _ (List.mem_of_getElem? (i := 20) rfl)
theorem q_45 : (Cond.fieldLink RX4 15 "CockleSquires$Rows" "lanes" "[I") ∈ wsL_law := rl_2 _ (List.mem_of_getElem? (i := 21) rfl)
theorem q_46 : (Cond.fieldLink RX4 18 "CockleSquires$Rows" "sizes" "[I") ∈ wsL_law := rl_2 _ (List.mem_of_getElem? (i := 22) rfl)
theorem q_47 : (Cond.instanceMethod yX5_init) ∈ wsL_law := rl_2 _ (List.mem_of_getElem? (i := 23) rfl)
theorem q_48 : (Cond.code yX5_init cX5_init 1 none) ∈ wsL_law := rl_3 _ (List.mem_of_getElem? (i := 0) rfl)
theorem q_49 : (Cond.methodLink RX5 3 objectInit) ∈ wsL_law := rl_3 _ (List.mem_of_getElem? (i := 1) rfl)
theorem q_50 : (Cond.fieldLink RX5 9 "CockleSquires$Tape" "letters" "[I") ∈ wsL_law := rl_3 _ (List.mem_of_getElem? (i := 2) rfl)
theorem q_51 : (Cond.fieldLink RX5 15 "CockleSquires$Tape" "length" "I") ∈ wsL_law := rl_3 _ (List.mem_of_getElem? (i := 3) rfl)
theorem q_52 : (Cond.fieldLink RX5 19 "CockleSquires$Tape" "at" "I") ∈ wsL_law := rl_3 _ (List.mem_of_getElem? (i := 4) rfl)
theorem q_53 : (Cond.fieldLink RX5 22 "CockleSquires$Tape" "wrong" "I") ∈ wsL_law := rl_3 _ (List.mem_of_getElem? (i := 5) rfl)
theorem q_54 : (Cond.instanceMethod yX2_init) ∈ wsL_law := rl_3 _ (List.mem_of_getElem? (i := 6) rfl)
theorem q_55 : (Cond.code yX2_init cX2_init 1 none) ∈ wsL_law := rl_3 _ (List.mem_of_getElem? (i := 7) rfl)
theorem q_56 : (Cond.methodLink RX2 3 objectInit) ∈ wsL_law := rl_3 _ (List.mem_of_getElem? (i := 8) rfl)
theorem q_57 : (Cond.fieldLink RX2 9 "CockleSquires$Flat" "beds" "I") ∈ wsL_law := rl_3 _ (List.mem_of_getElem? (i := 9) rfl)
theorem q_58 : (Cond.fieldLink RX2 15 "CockleSquires$Flat" "tide" "I") ∈ wsL_law := rl_3 _ (List.mem_of_getElem? (i := 10) rfl)
theorem q_59 : (Cond.fieldLink RX2 18 "CockleSquires$Flat" "lot" "I") ∈ wsL_law := rl_3 _ (List.mem_of_getElem? (i := 11) rfl)
theorem q_60 : (Cond.fieldLink RX2 21 "CockleSquires$Flat" "vetoes" "I") ∈ wsL_law := rl_3 _ (List.mem_of_getElem? (i := 12) rfl)
theorem q_61 : (Cond.fieldLink RX2 24 "CockleSquires$Flat" "cellA" "I") ∈ wsL_law := rl_3 _ (List.mem_of_getElem? (i := 13) rfl)
theorem q_62 : (Cond.fieldLink RX2 27 "CockleSquires$Flat" "cellB" "I") ∈ wsL_law := rl_3 _ (List.mem_of_getElem? (i := 14) rfl)
theorem q_63 : (Cond.fieldLink RX2 30 "CockleSquires$Flat" "counted" "[I") ∈ wsL_law := rl_3 _ (List.mem_of_getElem? (i := 15) rfl)
theorem q_64 : (Cond.fieldLink RX2 34 "CockleSquires$Flat" "kinds" "[I") ∈ wsL_law := rl_3 _ (List.mem_of_getElem? (i := 16) rfl)
theorem q_65 : (Cond.fieldLink RX2 37 "CockleSquires$Flat" "stocks" "[I") ∈ wsL_law := rl_3 _ (List.mem_of_getElem? (i := 17) rfl)
theorem q_66 : (Cond.fieldLink RX2 40 "CockleSquires$Flat" "warms" "[I") ∈ wsL_law := rl_3 _ (List.mem_of_getElem? (i := 18) rfl)
theorem q_67 : (Cond.instanceMethod yX0_init) ∈ wsL_law := rl_3 _ (List.mem_of_getElem? (i := 19) rfl)
theorem q_68 : (Cond.code yX0_init cX0_init 1 none) ∈ wsL_law := rl_3 _ (List.mem_of_getElem? (i := 20) rfl)
theorem q_69 : (Cond.methodLink RX0 3 objectInit) ∈ wsL_law := rl_3 _ (List.mem_of_getElem? (i := 21) rfl)
theorem q_70 : (Cond.classLink RX0 9 RX2) ∈ wsL_law := rl_3 _ (List.mem_of_getElem? (i := 22) rfl)
theorem q_71 : (Cond.fieldLink RX0 11 "CockleSquires$Acts" "ring" "[LCockleSquires$Flat;") ∈ wsL_law := rl_3 _ (List.mem_of_getElem? (i := 23) rfl)
theorem q_72 : (Cond.fieldLink RX0 17 "CockleSquires$Acts" "next" "I") ∈ wsL_law := rl_4 _ (List.mem_of_getElem? (i := 0) rfl)
theorem q_73 : (Cond.fieldLink RX0 21 "CockleSquires$Acts" "kept" "I") ∈ wsL_law := rl_4 _ (List.mem_of_getElem? (i := 1) rfl)
theorem q_74 : (Cond.instanceMethod yX3_init) ∈ wsL_law := rl_4 _ (List.mem_of_getElem? (i := 2) rfl)
theorem q_75 : (Cond.code yX3_init cX3_init 1 none) ∈ wsL_law := rl_4 _ (List.mem_of_getElem? (i := 3) rfl)
theorem q_76 : (Cond.methodLink RX3 3 objectInit) ∈ wsL_law := rl_4 _ (List.mem_of_getElem? (i := 4) rfl)
theorem q_77 : (Cond.classLink RX3 9 RX2) ∈ wsL_law := rl_4 _ (List.mem_of_getElem? (i := 5) rfl)
theorem q_78 : (Cond.fieldLink RX3 12 "CockleSquires$Foretelling" "then" "LCockleSquires$Flat;") ∈ wsL_law := rl_4 _ (List.mem_of_getElem? (i := 6) rfl)
theorem q_79 : (Cond.fieldLink RX3 18 "CockleSquires$Foretelling" "told" "[I") ∈ wsL_law := rl_4 _ (List.mem_of_getElem? (i := 7) rfl)
theorem q_80 : (Cond.fieldLink RX3 22 "CockleSquires$Foretelling" "gains" "[I") ∈ wsL_law := rl_4 _ (List.mem_of_getElem? (i := 8) rfl)
theorem q_81 : (Cond.fieldLink RX3 25 "CockleSquires$Foretelling" "leads" "[I") ∈ wsL_law := rl_4 _ (List.mem_of_getElem? (i := 9) rfl)
theorem q_82 : (Cond.instanceMethod yX1_init) ∈ wsL_law := rl_4 _ (List.mem_of_getElem? (i := 10) rfl)
theorem q_83 : (Cond.code yX1_init cX1_init 1 none) ∈ wsL_law := rl_4 _ (List.mem_of_getElem? (i := 11) rfl)
theorem q_84 : (Cond.methodLink RX1 3 objectInit) ∈ wsL_law := rl_4 _ (List.mem_of_getElem? (i := 12) rfl)
theorem q_85 : (Cond.fieldLink RX1 9 "CockleSquires$Asking" "trace" "[I") ∈ wsL_law := rl_4 _ (List.mem_of_getElem? (i := 13) rfl)
theorem q_86 : (Cond.fieldLink RX1 15 "CockleSquires$Asking" "left" "I") ∈ wsL_law := rl_4 _ (List.mem_of_getElem? (i := 14) rfl)
theorem q_87 : (Cond.methodLink RL 12 yX7_init) ∈ wsL_law := rl_4 _ (List.mem_of_getElem? (i := 15) rfl)
theorem q_88 : (Cond.instanceMethod yX7_init) ∈ wsL_law := rl_4 _ (List.mem_of_getElem? (i := 16) rfl)
theorem q_89 : (Cond.code yX7_init cX7_init 2 none) ∈ wsL_law := rl_4 _ (List.mem_of_getElem? (i := 17) rfl)
theorem q_90 : (Cond.methodLink RX7 1 objectInit) ∈ wsL_law := rl_4 _ (List.mem_of_getElem? (i := 18) rfl)
theorem q_91 : (Cond.fieldLink RX7 7 "CockleSquiresModel" "lanes" "[I") ∈ wsL_law := rl_4 _ (List.mem_of_getElem? (i := 19) rfl)
theorem q_92 : (Cond.fieldLink RX7 13 "CockleSquiresModel" "sizes" "[I") ∈ wsL_law := rl_4 _ (List.mem_of_getElem? (i := 20) rfl)
theorem q_93 : (Cond.fieldLink RX7 16 "CockleSquiresModel" "items" "[I") ∈ wsL_law := rl_4 _ (List.mem_of_getElem? (i := 21) rfl)
theorem q_94 : (Cond.fieldLink RX7 19 "CockleSquiresModel" "st" "[I") ∈ wsL_law := rl_4 _ (List.mem_of_getElem? (i := 22) rfl)
theorem q_95 : (Cond.fieldLink RX7 22 "CockleSquiresModel" "moved" "[I") ∈ wsL_law := rl_4 _ (List.mem_of_getElem? (i := 23) rfl)
theorem q_96 : (Cond.fieldLink RX7 25 "CockleSquiresModel" "tape" "[I") ∈ wsL_law := rl_5 _ (List.mem_of_getElem? (i := 0) rfl)
theorem q_97 : (Cond.fieldLink RX7 28 "CockleSquiresModel" "read" "[I") ∈ wsL_law := rl_5 _ (List.mem_of_getElem? (i := 1) rfl)
theorem q_98 : (Cond.fieldLink RX7 31 "CockleSquiresModel" "acts" "[I") ∈ wsL_law := rl_5 _ (List.mem_of_getElem? (i := 2) rfl)
theorem q_99 : (Cond.fieldLink RX7 34 "CockleSquiresModel" "aside" "[I") ∈ wsL_law := rl_5 _ (List.mem_of_getElem? (i := 3) rfl)
theorem q_100 : (Cond.arrayClass .boolean) ∈ wsL_law := rl_5 _ (List.mem_of_getElem? (i := 4) rfl)
theorem q_101 : (Cond.fieldLink RX7 37 "CockleSquiresModel" "isKept" "[Z") ∈ wsL_law := rl_5 _ (List.mem_of_getElem? (i := 5) rfl)
theorem q_102 : (Cond.fieldLink RX7 41 "CockleSquiresModel" "kept" "[I") ∈ wsL_law := rl_5 _ (List.mem_of_getElem? (i := 6) rfl)
theorem q_103 : (Cond.fieldLink RX7 44 "CockleSquiresModel" "trace" "[I") ∈ wsL_law := rl_5 _ (List.mem_of_getElem? (i := 7) rfl)
theorem q_104 : (Cond.methodLink RL 13 yX6_row) ∈ wsL_law := rl_5 _ (List.mem_of_getElem? (i := 8) rfl)
theorem q_105 : (Cond.instanceMethod yX6_row) ∈ wsL_law := rl_5 _ (List.mem_of_getElem? (i := 9) rfl)
theorem q_106 : (Cond.selects RX6 yX6_row yX6_row) ∈ wsL_law := rl_5 _ (List.mem_of_getElem? (i := 10) rfl)
theorem q_107 : (Cond.code yX6_row cX6_row 4 (some .int)) ∈ wsL_law := rl_5 _ (List.mem_of_getElem? (i := 11) rfl)
theorem q_108 : (Cond.constant RX6 66 (-1000001)) ∈ wsL_law := rl_5 _ (List.mem_of_getElem? (i := 12) rfl)
theorem q_109 : (Cond.methodLink RX6 62 yX6_within) ∈ wsL_law := rl_5 _ (List.mem_of_getElem? (i := 13) rfl)
theorem q_110 : (Cond.static yX6_within) ∈ wsL_law := rl_5 _ (List.mem_of_getElem? (i := 14) rfl)
theorem q_111 : (Cond.code yX6_within cX6_within 3 (some .boolean)) ∈ wsL_law := rl_5 _ (List.mem_of_getElem? (i := 15) rfl)
theorem q_112 : (Cond.methodLink RX6 67 yX6_found) ∈ wsL_law := rl_5 _ (List.mem_of_getElem? (i := 16) rfl)
theorem q_113 : (Cond.instanceMethod yX6_found) ∈ wsL_law := rl_5 _ (List.mem_of_getElem? (i := 17) rfl)
theorem q_114 : (Cond.selects RX6 yX6_found yX6_found) ∈ wsL_law := rl_5 _ (List.mem_of_getElem? (i := 18) rfl)
theorem q_115 : (Cond.code yX6_found cX6_found 2 (some .int)) ∈ wsL_law := rl_5 _ (List.mem_of_getElem? (i := 19) rfl)
theorem q_116 : (Cond.constant RX6 300 (-1000010)) ∈ wsL_law := rl_5 _ (List.mem_of_getElem? (i := 20) rfl)
theorem q_117 : (Cond.methodLink RX6 71 yX4_make) ∈ wsL_law := rl_5 _ (List.mem_of_getElem? (i := 21) rfl)
theorem q_118 : (Cond.instanceMethod yX4_make) ∈ wsL_law := rl_5 _ (List.mem_of_getElem? (i := 22) rfl)
theorem q_119 : (Cond.selects RX4 yX4_make yX4_make) ∈ wsL_law := rl_5 _ (List.mem_of_getElem? (i := 23) rfl)
theorem q_120 : (Cond.code yX4_make cX4_make 5 none) ∈ wsL_law := rl_6 _ (List.mem_of_getElem? (i := 0) rfl)
theorem q_121 : (Cond.methodLink RX6 75 yX6_unfound) ∈ wsL_law := rl_6 _ (List.mem_of_getElem? (i := 1) rfl)
theorem q_122 : (Cond.instanceMethod yX6_unfound) ∈ wsL_law := rl_6 _ (List.mem_of_getElem? (i := 2) rfl)
theorem q_123 : (Cond.selects RX6 yX6_unfound yX6_unfound) ∈ wsL_law := rl_6 _ (List.mem_of_getElem? (i := 3) rfl)
theorem q_124 : (Cond.code yX6_unfound cX6_unfound 2 (some .int)) ∈ wsL_law := rl_6 _ (List.mem_of_getElem? (i := 4) rfl)
theorem q_125 : (Cond.methodLink RL 17 yX7_row) ∈ wsL_law := rl_6 _ (List.mem_of_getElem? (i := 5) rfl)
theorem q_126 : (Cond.instanceMethod yX7_row) ∈ wsL_law := rl_6 _ (List.mem_of_getElem? (i := 6) rfl)
theorem q_127 : (Cond.selects RX7 yX7_row yX7_row) ∈ wsL_law := rl_6 _ (List.mem_of_getElem? (i := 7) rfl)
theorem q_128 : (Cond.code yX7_row cX7_row 5 (some .int)) ∈ wsL_law := rl_6 _ (List.mem_of_getElem? (i := 8) rfl)
theorem q_129 : (Cond.constantLong RX7 62 (2)) ∈ wsL_law := rl_6 _ (List.mem_of_getElem? (i := 9) rfl)
theorem q_130 : (Cond.constant RX7 64 (-1000001)) ∈ wsL_law := rl_6 _ (List.mem_of_getElem? (i := 10) rfl)
theorem q_131 : (Cond.methodLink RX7 58 yX7_isRow) ∈ wsL_law := rl_6 _ (List.mem_of_getElem? (i := 11) rfl)
theorem q_132 : (Cond.static yX7_isRow) ∈ wsL_law := rl_6 _ (List.mem_of_getElem? (i := 12) rfl)
theorem q_133 : (Cond.code yX7_isRow cX7_isRow 1 (some .boolean)) ∈ wsL_law := rl_6 _ (List.mem_of_getElem? (i := 13) rfl)
theorem q_134 : (Cond.constantLong RX7 52 (7)) ∈ wsL_law := rl_6 _ (List.mem_of_getElem? (i := 14) rfl)
theorem q_135 : (Cond.methodLink RX7 54 yX7_in) ∈ wsL_law := rl_6 _ (List.mem_of_getElem? (i := 15) rfl)
theorem q_136 : (Cond.static yX7_in) ∈ wsL_law := rl_6 _ (List.mem_of_getElem? (i := 16) rfl)
theorem q_137 : (Cond.code yX7_in cX7_in 6 (some .boolean)) ∈ wsL_law := rl_6 _ (List.mem_of_getElem? (i := 17) rfl)
theorem q_138 : (Cond.methodLink RX7 65 yX7_find) ∈ wsL_law := rl_6 _ (List.mem_of_getElem? (i := 18) rfl)
theorem q_139 : (Cond.instanceMethod yX7_find) ∈ wsL_law := rl_6 _ (List.mem_of_getElem? (i := 19) rfl)
theorem q_140 : (Cond.selects RX7 yX7_find yX7_find) ∈ wsL_law := rl_6 _ (List.mem_of_getElem? (i := 20) rfl)
theorem q_141 : (Cond.code yX7_find cX7_find 2 (some .int)) ∈ wsL_law := rl_6 _ (List.mem_of_getElem? (i := 21) rfl)
theorem q_142 : (Cond.fieldLink RX7 47 "CockleSquiresModel" "status" "I") ∈ wsL_law := rl_6 _ (List.mem_of_getElem? (i := 22) rfl)
theorem q_143 : (Cond.constant RX7 51 (-1000010)) ∈ wsL_law := rl_6 _ (List.mem_of_getElem? (i := 23) rfl)
theorem q_144 : (Cond.methodLink RX7 69 yX7_well) ∈ wsL_law := rl_7 _ (List.mem_of_getElem? (i := 0) rfl)
theorem q_145 : (Cond.instanceMethod yX7_well) ∈ wsL_law := rl_7 _ (List.mem_of_getElem? (i := 1) rfl)
theorem q_146 : (Cond.selects RX7 yX7_well yX7_well) ∈ wsL_law := rl_7 _ (List.mem_of_getElem? (i := 2) rfl)
theorem q_147 : (Cond.code yX7_well cX7_well 2 (some .int)) ∈ wsL_law := rl_7 _ (List.mem_of_getElem? (i := 3) rfl)
theorem q_148 : (Cond.methodLink RL 18 yX6_set) ∈ wsL_law := rl_7 _ (List.mem_of_getElem? (i := 4) rfl)
theorem q_149 : (Cond.instanceMethod yX6_set) ∈ wsL_law := rl_7 _ (List.mem_of_getElem? (i := 5) rfl)
theorem q_150 : (Cond.selects RX6 yX6_set yX6_set) ∈ wsL_law := rl_7 _ (List.mem_of_getElem? (i := 6) rfl)
theorem q_151 : (Cond.code yX6_set cX6_set 4 (some .int)) ∈ wsL_law := rl_7 _ (List.mem_of_getElem? (i := 7) rfl)
theorem q_152 : (Cond.methodLink RX6 78 yX4_isMissing) ∈ wsL_law := rl_7 _ (List.mem_of_getElem? (i := 8) rfl)
theorem q_153 : (Cond.instanceMethod yX4_isMissing) ∈ wsL_law := rl_7 _ (List.mem_of_getElem? (i := 9) rfl)
theorem q_154 : (Cond.selects RX4 yX4_isMissing yX4_isMissing) ∈ wsL_law := rl_7 _ (List.mem_of_getElem? (i := 10) rfl)
theorem q_155 : (Cond.code yX4_isMissing cX4_isMissing 2 (some .boolean)) ∈ wsL_law := rl_7 _ (List.mem_of_getElem? (i := 11) rfl)
theorem q_156 : (Cond.methodLink RX6 82 yX4_holds) ∈ wsL_law := rl_7 _ (List.mem_of_getElem? (i := 12) rfl)
theorem q_157 : (Cond.instanceMethod yX4_holds) ∈ wsL_law := rl_7 _ (List.mem_of_getElem? (i := 13) rfl)
theorem q_158 : (Cond.selects RX4 yX4_holds yX4_holds) ∈ wsL_law := rl_7 _ (List.mem_of_getElem? (i := 14) rfl)
theorem q_159 : (Cond.code yX4_holds cX4_holds 4 (some .boolean)) ∈ wsL_law := rl_7 _ (List.mem_of_getElem? (i := 15) rfl)
theorem q_160 : (Cond.methodLink RX4 25 yX4_isMissing) ∈ wsL_law := rl_7 _ (List.mem_of_getElem? (i := 16) rfl)
theorem q_161 : (Cond.methodLink RX6 85 yX4_put) ∈ wsL_law := rl_7 _ (List.mem_of_getElem? (i := 17) rfl)
theorem q_162 : (Cond.instanceMethod yX4_put) ∈ wsL_law := rl_7 _ (List.mem_of_getElem? (i := 18) rfl)
theorem q_163 : (Cond.selects RX4 yX4_put yX4_put) ∈ wsL_law := rl_7 _ (List.mem_of_getElem? (i := 19) rfl)
theorem q_164 : (Cond.code yX4_put cX4_put 5 (some .int)) ∈ wsL_law := rl_7 _ (List.mem_of_getElem? (i := 20) rfl)
theorem q_165 : (Cond.methodLink RX4 29 yX4_holds) ∈ wsL_law := rl_7 _ (List.mem_of_getElem? (i := 21) rfl)
theorem q_166 : (Cond.methodLink RX4 32 yX4_inLane) ∈ wsL_law := rl_7 _ (List.mem_of_getElem? (i := 22) rfl)
theorem q_167 : (Cond.static yX4_inLane) ∈ wsL_law := rl_7 _ (List.mem_of_getElem? (i := 23) rfl)
theorem q_168 : (Cond.code yX4_inLane cX4_inLane 2 (some .int)) ∈ wsL_law := rl_8 _ (List.mem_of_getElem? (i := 0) rfl)
theorem q_169 : (Cond.methodLink RL 21 yX7_set) ∈ wsL_law := rl_8 _ (List.mem_of_getElem? (i := 1) rfl)
theorem q_170 : (Cond.instanceMethod yX7_set) ∈ wsL_law := rl_8 _ (List.mem_of_getElem? (i := 2) rfl)
theorem q_171 : (Cond.selects RX7 yX7_set yX7_set) ∈ wsL_law := rl_8 _ (List.mem_of_getElem? (i := 3) rfl)
theorem q_172 : (Cond.code yX7_set cX7_set 4 (some .int)) ∈ wsL_law := rl_8 _ (List.mem_of_getElem? (i := 4) rfl)
theorem q_173 : (Cond.methodLink RX7 72 yX7_asLane) ∈ wsL_law := rl_8 _ (List.mem_of_getElem? (i := 5) rfl)
theorem q_174 : (Cond.static yX7_asLane) ∈ wsL_law := rl_8 _ (List.mem_of_getElem? (i := 6) rfl)
theorem q_175 : (Cond.code yX7_asLane cX7_asLane 2 (some .int)) ∈ wsL_law := rl_8 _ (List.mem_of_getElem? (i := 7) rfl)
theorem q_176 : (Cond.methodLink RL 22 yX6_copy) ∈ wsL_law := rl_8 _ (List.mem_of_getElem? (i := 8) rfl)
theorem q_177 : (Cond.instanceMethod yX6_copy) ∈ wsL_law := rl_8 _ (List.mem_of_getElem? (i := 9) rfl)
theorem q_178 : (Cond.selects RX6 yX6_copy yX6_copy) ∈ wsL_law := rl_8 _ (List.mem_of_getElem? (i := 10) rfl)
theorem q_179 : (Cond.code yX6_copy cX6_copy 6 (some .int)) ∈ wsL_law := rl_8 _ (List.mem_of_getElem? (i := 11) rfl)
theorem q_180 : (Cond.methodLink RX6 89 yX4_laneOf) ∈ wsL_law := rl_8 _ (List.mem_of_getElem? (i := 12) rfl)
theorem q_181 : (Cond.instanceMethod yX4_laneOf) ∈ wsL_law := rl_8 _ (List.mem_of_getElem? (i := 13) rfl)
theorem q_182 : (Cond.selects RX4 yX4_laneOf yX4_laneOf) ∈ wsL_law := rl_8 _ (List.mem_of_getElem? (i := 14) rfl)
theorem q_183 : (Cond.code yX4_laneOf cX4_laneOf 2 (some .int)) ∈ wsL_law := rl_8 _ (List.mem_of_getElem? (i := 15) rfl)
theorem q_184 : (Cond.methodLink RX6 92 yX4_carry) ∈ wsL_law := rl_8 _ (List.mem_of_getElem? (i := 16) rfl)
theorem q_185 : (Cond.instanceMethod yX4_carry) ∈ wsL_law := rl_8 _ (List.mem_of_getElem? (i := 17) rfl)
theorem q_186 : (Cond.selects RX4 yX4_carry yX4_carry) ∈ wsL_law := rl_8 _ (List.mem_of_getElem? (i := 18) rfl)
theorem q_187 : (Cond.code yX4_carry cX4_carry 6 none) ∈ wsL_law := rl_8 _ (List.mem_of_getElem? (i := 19) rfl)
theorem q_188 : (Cond.methodLink RX4 36 arraycopyName) ∈ wsL_law := rl_8 _ (List.mem_of_getElem? (i := 20) rfl)
theorem q_189 : (Cond.native arraycopyName) ∈ wsL_law := rl_8 _ (List.mem_of_getElem? (i := 21) rfl)
theorem q_190 : (Cond.static arraycopyName) ∈ wsL_law := rl_8 _ (List.mem_of_getElem? (i := 22) rfl)
theorem q_191 : (Cond.initialized "java/lang/System") ∈ wsL_law := rl_8 _ (List.mem_of_getElem? (i := 23) rfl)
theorem q_192 : (Cond.methodLink RL 26 yX7_copy) ∈ wsL_law := rl_9 _ (List.mem_of_getElem? (i := 0) rfl)
theorem q_193 : (Cond.instanceMethod yX7_copy) ∈ wsL_law := rl_9 _ (List.mem_of_getElem? (i := 1) rfl)
theorem q_194 : (Cond.selects RX7 yX7_copy yX7_copy) ∈ wsL_law := rl_9 _ (List.mem_of_getElem? (i := 2) rfl)
theorem q_195 : (Cond.code yX7_copy cX7_copy 7 (some .int)) ∈ wsL_law := rl_9 _ (List.mem_of_getElem? (i := 3) rfl)
theorem q_196 : (Cond.methodLink RL 27 yX6_drop) ∈ wsL_law := rl_9 _ (List.mem_of_getElem? (i := 4) rfl)
theorem q_197 : (Cond.instanceMethod yX6_drop) ∈ wsL_law := rl_9 _ (List.mem_of_getElem? (i := 5) rfl)
theorem q_198 : (Cond.selects RX6 yX6_drop yX6_drop) ∈ wsL_law := rl_9 _ (List.mem_of_getElem? (i := 6) rfl)
theorem q_199 : (Cond.code yX6_drop cX6_drop 2 (some .int)) ∈ wsL_law := rl_9 _ (List.mem_of_getElem? (i := 7) rfl)
theorem q_200 : (Cond.methodLink RX6 96 yX4_lose) ∈ wsL_law := rl_9 _ (List.mem_of_getElem? (i := 8) rfl)
theorem q_201 : (Cond.instanceMethod yX4_lose) ∈ wsL_law := rl_9 _ (List.mem_of_getElem? (i := 9) rfl)
theorem q_202 : (Cond.selects RX4 yX4_lose yX4_lose) ∈ wsL_law := rl_9 _ (List.mem_of_getElem? (i := 10) rfl)
theorem q_203 : (Cond.code yX4_lose cX4_lose 3 (some .int)) ∈ wsL_law := rl_9 _ (List.mem_of_getElem? (i := 11) rfl)
theorem q_204 : (Cond.methodLink RL 31 yX7_drop) ∈ wsL_law := rl_9 _ (List.mem_of_getElem? (i := 12) rfl)
theorem q_205 : (Cond.instanceMethod yX7_drop) ∈ wsL_law := rl_9 _ (List.mem_of_getElem? (i := 13) rfl)
theorem q_206 : (Cond.selects RX7 yX7_drop yX7_drop) ∈ wsL_law := rl_9 _ (List.mem_of_getElem? (i := 14) rfl)
theorem q_207 : (Cond.code yX7_drop cX7_drop 3 (some .int)) ∈ wsL_law := rl_9 _ (List.mem_of_getElem? (i := 15) rfl)
theorem q_208 : (Cond.methodLink RL 32 yX6_feed) ∈ wsL_law := rl_9 _ (List.mem_of_getElem? (i := 16) rfl)
theorem q_209 : (Cond.instanceMethod yX6_feed) ∈ wsL_law := rl_9 _ (List.mem_of_getElem? (i := 17) rfl)
theorem q_210 : (Cond.selects RX6 yX6_feed yX6_feed) ∈ wsL_law := rl_9 _ (List.mem_of_getElem? (i := 18) rfl)
theorem q_211 : (Cond.code yX6_feed cX6_feed 2 (some .int)) ∈ wsL_law := rl_9 _ (List.mem_of_getElem? (i := 19) rfl)
theorem q_212 : (Cond.constant RX6 103 (-1000003)) ∈ wsL_law := rl_9 _ (List.mem_of_getElem? (i := 20) rfl)
theorem q_213 : (Cond.methodLink RX6 99 yX5_length) ∈ wsL_law := rl_9 _ (List.mem_of_getElem? (i := 21) rfl)
theorem q_214 : (Cond.instanceMethod yX5_length) ∈ wsL_law := rl_9 _ (List.mem_of_getElem? (i := 22) rfl)
theorem q_215 : (Cond.selects RX5 yX5_length yX5_length) ∈ wsL_law := rl_9 _ (List.mem_of_getElem? (i := 23) rfl)
theorem q_216 : (Cond.code yX5_length cX5_length 1 (some .int)) ∈ wsL_law := rl_10 _ (List.mem_of_getElem? (i := 0) rfl)
theorem q_217 : (Cond.methodLink RX6 104 yX5_append) ∈ wsL_law := rl_10 _ (List.mem_of_getElem? (i := 1) rfl)
theorem q_218 : (Cond.instanceMethod yX5_append) ∈ wsL_law := rl_10 _ (List.mem_of_getElem? (i := 2) rfl)
theorem q_219 : (Cond.selects RX5 yX5_append yX5_append) ∈ wsL_law := rl_10 _ (List.mem_of_getElem? (i := 3) rfl)
theorem q_220 : (Cond.code yX5_append cX5_append 2 (some .int)) ∈ wsL_law := rl_10 _ (List.mem_of_getElem? (i := 4) rfl)
theorem q_221 : (Cond.methodLink RL 35 yX7_feed) ∈ wsL_law := rl_10 _ (List.mem_of_getElem? (i := 5) rfl)
theorem q_222 : (Cond.instanceMethod yX7_feed) ∈ wsL_law := rl_10 _ (List.mem_of_getElem? (i := 6) rfl)
theorem q_223 : (Cond.selects RX7 yX7_feed yX7_feed) ∈ wsL_law := rl_10 _ (List.mem_of_getElem? (i := 7) rfl)
theorem q_224 : (Cond.code yX7_feed cX7_feed 2 (some .int)) ∈ wsL_law := rl_10 _ (List.mem_of_getElem? (i := 8) rfl)
theorem q_225 : (Cond.constantLong RX7 76 (255)) ∈ wsL_law := rl_10 _ (List.mem_of_getElem? (i := 9) rfl)
theorem q_226 : (Cond.fieldLink RX7 78 "CockleSquiresModel" "bytes" "I") ∈ wsL_law := rl_10 _ (List.mem_of_getElem? (i := 10) rfl)
theorem q_227 : (Cond.constant RX7 81 (-1000003)) ∈ wsL_law := rl_10 _ (List.mem_of_getElem? (i := 11) rfl)
theorem q_228 : (Cond.methodLink RL 36 yX6_flat) ∈ wsL_law := rl_10 _ (List.mem_of_getElem? (i := 12) rfl)
theorem q_229 : (Cond.instanceMethod yX6_flat) ∈ wsL_law := rl_10 _ (List.mem_of_getElem? (i := 13) rfl)
theorem q_230 : (Cond.selects RX6 yX6_flat yX6_flat) ∈ wsL_law := rl_10 _ (List.mem_of_getElem? (i := 14) rfl)
theorem q_231 : (Cond.code yX6_flat cX6_flat 3 (some .int)) ∈ wsL_law := rl_10 _ (List.mem_of_getElem? (i := 15) rfl)
theorem q_232 : (Cond.constant RX6 118 (-1000100)) ∈ wsL_law := rl_10 _ (List.mem_of_getElem? (i := 16) rfl)
theorem q_233 : (Cond.methodLink RX6 107 yX3_scratch) ∈ wsL_law := rl_10 _ (List.mem_of_getElem? (i := 17) rfl)
theorem q_234 : (Cond.instanceMethod yX3_scratch) ∈ wsL_law := rl_10 _ (List.mem_of_getElem? (i := 18) rfl)
theorem q_235 : (Cond.selects RX3 yX3_scratch yX3_scratch) ∈ wsL_law := rl_10 _ (List.mem_of_getElem? (i := 19) rfl)
theorem q_236 : (Cond.code yX3_scratch cX3_scratch 1 (some (.object "CockleSquires$Flat"))) ∈ wsL_law := rl_10 _ (List.mem_of_getElem? (i := 20) rfl)
theorem q_237 : (Cond.methodLink RX6 111 yX5_readInto) ∈ wsL_law := rl_10 _ (List.mem_of_getElem? (i := 21) rfl)
theorem q_238 : (Cond.instanceMethod yX5_readInto) ∈ wsL_law := rl_10 _ (List.mem_of_getElem? (i := 22) rfl)
theorem q_239 : (Cond.selects RX5 yX5_readInto yX5_readInto) ∈ wsL_law := rl_10 _ (List.mem_of_getElem? (i := 23) rfl)
theorem q_240 : (Cond.code yX5_readInto cX5_readInto 2 (some .int)) ∈ wsL_law := rl_11 _ (List.mem_of_getElem? (i := 0) rfl)
theorem q_241 : (Cond.methodLink RX5 25 yX5_readLaw) ∈ wsL_law := rl_11 _ (List.mem_of_getElem? (i := 1) rfl)
theorem q_242 : (Cond.instanceMethod yX5_readLaw) ∈ wsL_law := rl_11 _ (List.mem_of_getElem? (i := 2) rfl)
theorem q_243 : (Cond.selects RX5 yX5_readLaw yX5_readLaw) ∈ wsL_law := rl_11 _ (List.mem_of_getElem? (i := 3) rfl)
theorem q_244 : (Cond.code yX5_readLaw cX5_readLaw 5 (some .boolean)) ∈ wsL_law := rl_11 _ (List.mem_of_getElem? (i := 4) rfl)
theorem q_245 : (Cond.methodLink RX5 33 yX5_takes) ∈ wsL_law := rl_11 _ (List.mem_of_getElem? (i := 5) rfl)
theorem q_246 : (Cond.instanceMethod yX5_takes) ∈ wsL_law := rl_11 _ (List.mem_of_getElem? (i := 6) rfl)
theorem q_247 : (Cond.selects RX5 yX5_takes yX5_takes) ∈ wsL_law := rl_11 _ (List.mem_of_getElem? (i := 7) rfl)
theorem q_248 : (Cond.code yX5_takes cX5_takes 2 (some .boolean)) ∈ wsL_law := rl_11 _ (List.mem_of_getElem? (i := 8) rfl)
theorem q_249 : (Cond.methodLink RX5 50 yX5_letterAt) ∈ wsL_law := rl_11 _ (List.mem_of_getElem? (i := 9) rfl)
theorem q_250 : (Cond.instanceMethod yX5_letterAt) ∈ wsL_law := rl_11 _ (List.mem_of_getElem? (i := 10) rfl)
theorem q_251 : (Cond.selects RX5 yX5_letterAt yX5_letterAt) ∈ wsL_law := rl_11 _ (List.mem_of_getElem? (i := 11) rfl)
theorem q_252 : (Cond.code yX5_letterAt cX5_letterAt 2 (some .int)) ∈ wsL_law := rl_11 _ (List.mem_of_getElem? (i := 12) rfl)
theorem q_253 : (Cond.methodLink RX5 57 yX5_fails) ∈ wsL_law := rl_11 _ (List.mem_of_getElem? (i := 13) rfl)
theorem q_254 : (Cond.instanceMethod yX5_fails) ∈ wsL_law := rl_11 _ (List.mem_of_getElem? (i := 14) rfl)
theorem q_255 : (Cond.selects RX5 yX5_fails yX5_fails) ∈ wsL_law := rl_11 _ (List.mem_of_getElem? (i := 15) rfl)
theorem q_256 : (Cond.code yX5_fails cX5_fails 2 (some .boolean)) ∈ wsL_law := rl_11 _ (List.mem_of_getElem? (i := 16) rfl)
theorem q_257 : (Cond.methodLink RX5 37 yX5_number) ∈ wsL_law := rl_11 _ (List.mem_of_getElem? (i := 17) rfl)
theorem q_258 : (Cond.instanceMethod yX5_number) ∈ wsL_law := rl_11 _ (List.mem_of_getElem? (i := 18) rfl)
theorem q_259 : (Cond.selects RX5 yX5_number yX5_number) ∈ wsL_law := rl_11 _ (List.mem_of_getElem? (i := 19) rfl)
theorem q_260 : (Cond.code yX5_number cX5_number 6 (some .int)) ∈ wsL_law := rl_11 _ (List.mem_of_getElem? (i := 20) rfl)
theorem q_261 : (Cond.methodLink RX5 66 yX5_figuresAhead) ∈ wsL_law := rl_11 _ (List.mem_of_getElem? (i := 21) rfl)
theorem q_262 : (Cond.instanceMethod yX5_figuresAhead) ∈ wsL_law := rl_11 _ (List.mem_of_getElem? (i := 22) rfl)
theorem q_263 : (Cond.selects RX5 yX5_figuresAhead yX5_figuresAhead) ∈ wsL_law := rl_11 _ (List.mem_of_getElem? (i := 23) rfl)
theorem q_264 : (Cond.code yX5_figuresAhead cX5_figuresAhead 2 (some .int)) ∈ wsL_law := rl_12 _ (List.mem_of_getElem? (i := 0) rfl)
theorem q_265 : (Cond.methodLink RX5 41 yX2_begin) ∈ wsL_law := rl_12 _ (List.mem_of_getElem? (i := 1) rfl)
theorem q_266 : (Cond.instanceMethod yX2_begin) ∈ wsL_law := rl_12 _ (List.mem_of_getElem? (i := 2) rfl)
theorem q_267 : (Cond.selects RX2 yX2_begin yX2_begin) ∈ wsL_law := rl_12 _ (List.mem_of_getElem? (i := 3) rfl)
theorem q_268 : (Cond.code yX2_begin cX2_begin 5 none) ∈ wsL_law := rl_12 _ (List.mem_of_getElem? (i := 4) rfl)
theorem q_269 : (Cond.methodLink RX5 29 yX5_readBeds) ∈ wsL_law := rl_12 _ (List.mem_of_getElem? (i := 5) rfl)
theorem q_270 : (Cond.instanceMethod yX5_readBeds) ∈ wsL_law := rl_12 _ (List.mem_of_getElem? (i := 6) rfl)
theorem q_271 : (Cond.selects RX5 yX5_readBeds yX5_readBeds) ∈ wsL_law := rl_12 _ (List.mem_of_getElem? (i := 7) rfl)
theorem q_272 : (Cond.code yX5_readBeds cX5_readBeds 3 none) ∈ wsL_law := rl_12 _ (List.mem_of_getElem? (i := 8) rfl)
theorem q_273 : (Cond.methodLink RX5 47 yX5_readBed) ∈ wsL_law := rl_12 _ (List.mem_of_getElem? (i := 9) rfl)
theorem q_274 : (Cond.instanceMethod yX5_readBed) ∈ wsL_law := rl_12 _ (List.mem_of_getElem? (i := 10) rfl)
theorem q_275 : (Cond.selects RX5 yX5_readBed yX5_readBed) ∈ wsL_law := rl_12 _ (List.mem_of_getElem? (i := 11) rfl)
theorem q_276 : (Cond.code yX5_readBed cX5_readBed 5 (some .boolean)) ∈ wsL_law := rl_12 _ (List.mem_of_getElem? (i := 12) rfl)
theorem q_277 : (Cond.methodLink RX5 54 yX5_kindNamed) ∈ wsL_law := rl_12 _ (List.mem_of_getElem? (i := 13) rfl)
theorem q_278 : (Cond.static yX5_kindNamed) ∈ wsL_law := rl_12 _ (List.mem_of_getElem? (i := 14) rfl)
theorem q_279 : (Cond.code yX5_kindNamed cX5_kindNamed 1 (some .int)) ∈ wsL_law := rl_12 _ (List.mem_of_getElem? (i := 15) rfl)
theorem q_280 : (Cond.methodLink RX5 63 yX2_add) ∈ wsL_law := rl_12 _ (List.mem_of_getElem? (i := 16) rfl)
theorem q_281 : (Cond.instanceMethod yX2_add) ∈ wsL_law := rl_12 _ (List.mem_of_getElem? (i := 17) rfl)
theorem q_282 : (Cond.selects RX2 yX2_add yX2_add) ∈ wsL_law := rl_12 _ (List.mem_of_getElem? (i := 18) rfl)
theorem q_283 : (Cond.code yX2_add cX2_add 4 none) ∈ wsL_law := rl_12 _ (List.mem_of_getElem? (i := 19) rfl)
theorem q_284 : (Cond.methodLink RX6 115 yX5_clear) ∈ wsL_law := rl_12 _ (List.mem_of_getElem? (i := 20) rfl)
theorem q_285 : (Cond.instanceMethod yX5_clear) ∈ wsL_law := rl_12 _ (List.mem_of_getElem? (i := 21) rfl)
theorem q_286 : (Cond.selects RX5 yX5_clear yX5_clear) ∈ wsL_law := rl_12 _ (List.mem_of_getElem? (i := 22) rfl)
theorem q_287 : (Cond.code yX5_clear cX5_clear 1 none) ∈ wsL_law := rl_12 _ (List.mem_of_getElem? (i := 23) rfl)
theorem q_288 : (Cond.methodLink RX6 119 yX5_readTo) ∈ wsL_law := rl_13 _ (List.mem_of_getElem? (i := 0) rfl)
theorem q_289 : (Cond.instanceMethod yX5_readTo) ∈ wsL_law := rl_13 _ (List.mem_of_getElem? (i := 1) rfl)
theorem q_290 : (Cond.selects RX5 yX5_readTo yX5_readTo) ∈ wsL_law := rl_13 _ (List.mem_of_getElem? (i := 2) rfl)
theorem q_291 : (Cond.code yX5_readTo cX5_readTo 1 (some .int)) ∈ wsL_law := rl_13 _ (List.mem_of_getElem? (i := 3) rfl)
theorem q_292 : (Cond.methodLink RX6 122 yX2_become) ∈ wsL_law := rl_13 _ (List.mem_of_getElem? (i := 4) rfl)
theorem q_293 : (Cond.instanceMethod yX2_become) ∈ wsL_law := rl_13 _ (List.mem_of_getElem? (i := 5) rfl)
theorem q_294 : (Cond.selects RX2 yX2_become yX2_become) ∈ wsL_law := rl_13 _ (List.mem_of_getElem? (i := 6) rfl)
theorem q_295 : (Cond.code yX2_become cX2_become 2 none) ∈ wsL_law := rl_13 _ (List.mem_of_getElem? (i := 7) rfl)
theorem q_296 : (Cond.methodLink RX2 43 arraycopyName) ∈ wsL_law := rl_13 _ (List.mem_of_getElem? (i := 8) rfl)
theorem q_297 : (Cond.methodLink RX6 126 yX0_forget) ∈ wsL_law := rl_13 _ (List.mem_of_getElem? (i := 9) rfl)
theorem q_298 : (Cond.instanceMethod yX0_forget) ∈ wsL_law := rl_13 _ (List.mem_of_getElem? (i := 10) rfl)
theorem q_299 : (Cond.selects RX0 yX0_forget yX0_forget) ∈ wsL_law := rl_13 _ (List.mem_of_getElem? (i := 11) rfl)
theorem q_300 : (Cond.code yX0_forget cX0_forget 1 none) ∈ wsL_law := rl_13 _ (List.mem_of_getElem? (i := 12) rfl)
theorem q_301 : (Cond.methodLink RL 40 yX7_flat) ∈ wsL_law := rl_13 _ (List.mem_of_getElem? (i := 13) rfl)
theorem q_302 : (Cond.instanceMethod yX7_flat) ∈ wsL_law := rl_13 _ (List.mem_of_getElem? (i := 14) rfl)
theorem q_303 : (Cond.selects RX7 yX7_flat yX7_flat) ∈ wsL_law := rl_13 _ (List.mem_of_getElem? (i := 15) rfl)
theorem q_304 : (Cond.code yX7_flat cX7_flat 3 (some .int)) ∈ wsL_law := rl_13 _ (List.mem_of_getElem? (i := 16) rfl)
theorem q_305 : (Cond.fieldLink RX7 102 "CockleSquiresModel" "wrong" "I") ∈ wsL_law := rl_13 _ (List.mem_of_getElem? (i := 17) rfl)
theorem q_306 : (Cond.fieldLink RX7 128 "CockleSquiresModel" "latest" "I") ∈ wsL_law := rl_13 _ (List.mem_of_getElem? (i := 18) rfl)
theorem q_307 : (Cond.constant RX7 131 (-1000100)) ∈ wsL_law := rl_13 _ (List.mem_of_getElem? (i := 19) rfl)
theorem q_308 : (Cond.fieldLink RX7 85 "CockleSquiresModel" "begins" "I") ∈ wsL_law := rl_13 _ (List.mem_of_getElem? (i := 20) rfl)
theorem q_309 : (Cond.fieldLink RX7 132 "CockleSquiresModel" "isThere" "Z") ∈ wsL_law := rl_13 _ (List.mem_of_getElem? (i := 21) rfl)
theorem q_310 : (Cond.fieldLink RX7 136 "CockleSquiresModel" "actMany" "I") ∈ wsL_law := rl_13 _ (List.mem_of_getElem? (i := 22) rfl)
theorem q_311 : (Cond.methodLink RX7 125 yX7_readFlat) ∈ wsL_law := rl_13 _ (List.mem_of_getElem? (i := 23) rfl)
theorem q_312 : (Cond.instanceMethod yX7_readFlat) ∈ wsL_law := rl_14 _ (List.mem_of_getElem? (i := 0) rfl)
theorem q_313 : (Cond.selects RX7 yX7_readFlat yX7_readFlat) ∈ wsL_law := rl_14 _ (List.mem_of_getElem? (i := 1) rfl)
theorem q_314 : (Cond.code yX7_readFlat cX7_readFlat 2 (some .boolean)) ∈ wsL_law := rl_14 _ (List.mem_of_getElem? (i := 2) rfl)
theorem q_315 : (Cond.fieldLink RX7 82 "CockleSquiresModel" "place" "I") ∈ wsL_law := rl_14 _ (List.mem_of_getElem? (i := 3) rfl)
theorem q_316 : (Cond.fieldLink RX7 88 "CockleSquiresModel" "token" "I") ∈ wsL_law := rl_14 _ (List.mem_of_getElem? (i := 4) rfl)
theorem q_317 : (Cond.methodLink RX7 108 yX7_nextToken) ∈ wsL_law := rl_14 _ (List.mem_of_getElem? (i := 5) rfl)
theorem q_318 : (Cond.instanceMethod yX7_nextToken) ∈ wsL_law := rl_14 _ (List.mem_of_getElem? (i := 6) rfl)
theorem q_319 : (Cond.selects RX7 yX7_nextToken yX7_nextToken) ∈ wsL_law := rl_14 _ (List.mem_of_getElem? (i := 7) rfl)
theorem q_320 : (Cond.code yX7_nextToken cX7_nextToken 1 none) ∈ wsL_law := rl_14 _ (List.mem_of_getElem? (i := 8) rfl)
theorem q_321 : (Cond.fieldLink RX7 91 "CockleSquiresModel" "value" "I") ∈ wsL_law := rl_14 _ (List.mem_of_getElem? (i := 9) rfl)
theorem q_322 : (Cond.constantLong RX7 94 (48)) ∈ wsL_law := rl_14 _ (List.mem_of_getElem? (i := 10) rfl)
theorem q_323 : (Cond.constantLong RX7 96 (57)) ∈ wsL_law := rl_14 _ (List.mem_of_getElem? (i := 11) rfl)
theorem q_324 : (Cond.constantLong RX7 98 (97)) ∈ wsL_law := rl_14 _ (List.mem_of_getElem? (i := 12) rfl)
theorem q_325 : (Cond.constantLong RX7 100 (122)) ∈ wsL_law := rl_14 _ (List.mem_of_getElem? (i := 13) rfl)
theorem q_326 : (Cond.methodLink RX7 111 yX7_takes) ∈ wsL_law := rl_14 _ (List.mem_of_getElem? (i := 14) rfl)
theorem q_327 : (Cond.instanceMethod yX7_takes) ∈ wsL_law := rl_14 _ (List.mem_of_getElem? (i := 15) rfl)
theorem q_328 : (Cond.selects RX7 yX7_takes yX7_takes) ∈ wsL_law := rl_14 _ (List.mem_of_getElem? (i := 16) rfl)
theorem q_329 : (Cond.code yX7_takes cX7_takes 2 (some .boolean)) ∈ wsL_law := rl_14 _ (List.mem_of_getElem? (i := 17) rfl)
theorem q_330 : (Cond.methodLink RX7 105 yX7_faults) ∈ wsL_law := rl_14 _ (List.mem_of_getElem? (i := 18) rfl)
theorem q_331 : (Cond.instanceMethod yX7_faults) ∈ wsL_law := rl_14 _ (List.mem_of_getElem? (i := 19) rfl)
theorem q_332 : (Cond.selects RX7 yX7_faults yX7_faults) ∈ wsL_law := rl_14 _ (List.mem_of_getElem? (i := 20) rfl)
theorem q_333 : (Cond.code yX7_faults cX7_faults 2 (some .boolean)) ∈ wsL_law := rl_14 _ (List.mem_of_getElem? (i := 21) rfl)
theorem q_334 : (Cond.methodLink RX7 117 yX7_takesNumber) ∈ wsL_law := rl_14 _ (List.mem_of_getElem? (i := 22) rfl)
theorem q_335 : (Cond.instanceMethod yX7_takesNumber) ∈ wsL_law := rl_14 _ (List.mem_of_getElem? (i := 23) rfl)
theorem q_336 : (Cond.selects RX7 yX7_takesNumber yX7_takesNumber) ∈ wsL_law := rl_15 _ (List.mem_of_getElem? (i := 0) rfl)
theorem q_337 : (Cond.code yX7_takesNumber cX7_takesNumber 5 (some .boolean)) ∈ wsL_law := rl_15 _ (List.mem_of_getElem? (i := 1) rfl)
theorem q_338 : (Cond.methodLink RX7 121 yX7_readBed) ∈ wsL_law := rl_15 _ (List.mem_of_getElem? (i := 2) rfl)
theorem q_339 : (Cond.instanceMethod yX7_readBed) ∈ wsL_law := rl_15 _ (List.mem_of_getElem? (i := 3) rfl)
theorem q_340 : (Cond.selects RX7 yX7_readBed yX7_readBed) ∈ wsL_law := rl_15 _ (List.mem_of_getElem? (i := 4) rfl)
theorem q_341 : (Cond.code yX7_readBed cX7_readBed 3 (some .boolean)) ∈ wsL_law := rl_15 _ (List.mem_of_getElem? (i := 5) rfl)
theorem q_342 : (Cond.methodLink RX7 114 yX7_kindBy) ∈ wsL_law := rl_15 _ (List.mem_of_getElem? (i := 6) rfl)
theorem q_343 : (Cond.static yX7_kindBy) ∈ wsL_law := rl_15 _ (List.mem_of_getElem? (i := 7) rfl)
theorem q_344 : (Cond.code yX7_kindBy cX7_kindBy 1 (some .int)) ∈ wsL_law := rl_15 _ (List.mem_of_getElem? (i := 8) rfl)
theorem q_345 : (Cond.methodLink RL 41 yX6_fault) ∈ wsL_law := rl_15 _ (List.mem_of_getElem? (i := 9) rfl)
theorem q_346 : (Cond.instanceMethod yX6_fault) ∈ wsL_law := rl_15 _ (List.mem_of_getElem? (i := 10) rfl)
theorem q_347 : (Cond.selects RX6 yX6_fault yX6_fault) ∈ wsL_law := rl_15 _ (List.mem_of_getElem? (i := 11) rfl)
theorem q_348 : (Cond.code yX6_fault cX6_fault 1 (some .int)) ∈ wsL_law := rl_15 _ (List.mem_of_getElem? (i := 12) rfl)
theorem q_349 : (Cond.methodLink RL 44 yX7_fault) ∈ wsL_law := rl_15 _ (List.mem_of_getElem? (i := 13) rfl)
theorem q_350 : (Cond.instanceMethod yX7_fault) ∈ wsL_law := rl_15 _ (List.mem_of_getElem? (i := 14) rfl)
theorem q_351 : (Cond.selects RX7 yX7_fault yX7_fault) ∈ wsL_law := rl_15 _ (List.mem_of_getElem? (i := 15) rfl)
theorem q_352 : (Cond.code yX7_fault cX7_fault 1 (some .int)) ∈ wsL_law := rl_15 _ (List.mem_of_getElem? (i := 16) rfl)
theorem q_353 : (Cond.methodLink RL 45 yX6_undo) ∈ wsL_law := rl_15 _ (List.mem_of_getElem? (i := 17) rfl)
theorem q_354 : (Cond.instanceMethod yX6_undo) ∈ wsL_law := rl_15 _ (List.mem_of_getElem? (i := 18) rfl)
theorem q_355 : (Cond.selects RX6 yX6_undo yX6_undo) ∈ wsL_law := rl_15 _ (List.mem_of_getElem? (i := 19) rfl)
theorem q_356 : (Cond.code yX6_undo cX6_undo 1 (some .int)) ∈ wsL_law := rl_15 _ (List.mem_of_getElem? (i := 20) rfl)
theorem q_357 : (Cond.constant RX6 136 (-1000002)) ∈ wsL_law := rl_15 _ (List.mem_of_getElem? (i := 21) rfl)
theorem q_358 : (Cond.methodLink RX6 132 yX0_takeBack) ∈ wsL_law := rl_15 _ (List.mem_of_getElem? (i := 22) rfl)
theorem q_359 : (Cond.instanceMethod yX0_takeBack) ∈ wsL_law := rl_15 _ (List.mem_of_getElem? (i := 23) rfl)
theorem q_360 : (Cond.selects RX0 yX0_takeBack yX0_takeBack) ∈ wsL_law := rl_16 _ (List.mem_of_getElem? (i := 0) rfl)
theorem q_361 : (Cond.code yX0_takeBack cX0_takeBack 4 (some .boolean)) ∈ wsL_law := rl_16 _ (List.mem_of_getElem? (i := 1) rfl)
theorem q_362 : (Cond.methodLink RX0 29 yX2_become) ∈ wsL_law := rl_16 _ (List.mem_of_getElem? (i := 2) rfl)
theorem q_363 : (Cond.methodLink RX6 137 yX0_kept) ∈ wsL_law := rl_16 _ (List.mem_of_getElem? (i := 3) rfl)
theorem q_364 : (Cond.instanceMethod yX0_kept) ∈ wsL_law := rl_16 _ (List.mem_of_getElem? (i := 4) rfl)
theorem q_365 : (Cond.selects RX0 yX0_kept yX0_kept) ∈ wsL_law := rl_16 _ (List.mem_of_getElem? (i := 5) rfl)
theorem q_366 : (Cond.code yX0_kept cX0_kept 1 (some .int)) ∈ wsL_law := rl_16 _ (List.mem_of_getElem? (i := 6) rfl)
theorem q_367 : (Cond.methodLink RL 48 yX7_undo) ∈ wsL_law := rl_16 _ (List.mem_of_getElem? (i := 7) rfl)
theorem q_368 : (Cond.instanceMethod yX7_undo) ∈ wsL_law := rl_16 _ (List.mem_of_getElem? (i := 8) rfl)
theorem q_369 : (Cond.selects RX7 yX7_undo yX7_undo) ∈ wsL_law := rl_16 _ (List.mem_of_getElem? (i := 9) rfl)
theorem q_370 : (Cond.code yX7_undo cX7_undo 2 (some .int)) ∈ wsL_law := rl_16 _ (List.mem_of_getElem? (i := 10) rfl)
theorem q_371 : (Cond.constant RX7 152 (-1000002)) ∈ wsL_law := rl_16 _ (List.mem_of_getElem? (i := 11) rfl)
theorem q_372 : (Cond.methodLink RL 49 yX6_tides) ∈ wsL_law := rl_16 _ (List.mem_of_getElem? (i := 12) rfl)
theorem q_373 : (Cond.instanceMethod yX6_tides) ∈ wsL_law := rl_16 _ (List.mem_of_getElem? (i := 13) rfl)
theorem q_374 : (Cond.selects RX6 yX6_tides yX6_tides) ∈ wsL_law := rl_16 _ (List.mem_of_getElem? (i := 14) rfl)
theorem q_375 : (Cond.code yX6_tides cX6_tides 3 (some .int)) ∈ wsL_law := rl_16 _ (List.mem_of_getElem? (i := 15) rfl)
theorem q_376 : (Cond.methodLink RX6 140 yX2_isNone) ∈ wsL_law := rl_16 _ (List.mem_of_getElem? (i := 16) rfl)
theorem q_377 : (Cond.instanceMethod yX2_isNone) ∈ wsL_law := rl_16 _ (List.mem_of_getElem? (i := 17) rfl)
theorem q_378 : (Cond.selects RX2 yX2_isNone yX2_isNone) ∈ wsL_law := rl_16 _ (List.mem_of_getElem? (i := 18) rfl)
theorem q_379 : (Cond.code yX2_isNone cX2_isNone 1 (some .boolean)) ∈ wsL_law := rl_16 _ (List.mem_of_getElem? (i := 19) rfl)
theorem q_380 : (Cond.methodLink RX6 147 yX0_keep) ∈ wsL_law := rl_16 _ (List.mem_of_getElem? (i := 20) rfl)
theorem q_381 : (Cond.instanceMethod yX0_keep) ∈ wsL_law := rl_16 _ (List.mem_of_getElem? (i := 21) rfl)
theorem q_382 : (Cond.selects RX0 yX0_keep yX0_keep) ∈ wsL_law := rl_16 _ (List.mem_of_getElem? (i := 22) rfl)
theorem q_383 : (Cond.code yX0_keep cX0_keep 3 none) ∈ wsL_law := rl_16 _ (List.mem_of_getElem? (i := 23) rfl)
theorem q_384 : (Cond.methodLink RX0 33 Lib.Math.min.name) ∈ wsL_law := rl_17 _ (List.mem_of_getElem? (i := 0) rfl)
theorem q_385 : (Cond.static Lib.Math.min.name) ∈ wsL_law := rl_17 _ (List.mem_of_getElem? (i := 1) rfl)
theorem q_386 : (Cond.initialized "java/lang/Math") ∈ wsL_law := rl_17 _ (List.mem_of_getElem? (i := 2) rfl)
theorem q_387 : (Cond.code Lib.Math.min.name Lib.Math.min.code 2 (some .int)) ∈ wsL_law := rl_17 _ (List.mem_of_getElem? (i := 3) rfl)
theorem q_388 : (Cond.methodLink RX6 150 yX2_flow) ∈ wsL_law := rl_17 _ (List.mem_of_getElem? (i := 4) rfl)
theorem q_389 : (Cond.instanceMethod yX2_flow) ∈ wsL_law := rl_17 _ (List.mem_of_getElem? (i := 5) rfl)
theorem q_390 : (Cond.selects RX2 yX2_flow yX2_flow) ∈ wsL_law := rl_17 _ (List.mem_of_getElem? (i := 6) rfl)
theorem q_391 : (Cond.code yX2_flow cX2_flow 2 none) ∈ wsL_law := rl_17 _ (List.mem_of_getElem? (i := 7) rfl)
theorem q_392 : (Cond.methodLink RX2 82 yX2_swell) ∈ wsL_law := rl_17 _ (List.mem_of_getElem? (i := 8) rfl)
theorem q_393 : (Cond.instanceMethod yX2_swell) ∈ wsL_law := rl_17 _ (List.mem_of_getElem? (i := 9) rfl)
theorem q_394 : (Cond.selects RX2 yX2_swell yX2_swell) ∈ wsL_law := rl_17 _ (List.mem_of_getElem? (i := 10) rfl)
theorem q_395 : (Cond.code yX2_swell cX2_swell 3 none) ∈ wsL_law := rl_17 _ (List.mem_of_getElem? (i := 11) rfl)
theorem q_396 : (Cond.methodLink RX2 86 Lib.Math.min.name) ∈ wsL_law := rl_17 _ (List.mem_of_getElem? (i := 12) rfl)
theorem q_397 : (Cond.methodLink RX2 89 Lib.Math.max.name) ∈ wsL_law := rl_17 _ (List.mem_of_getElem? (i := 13) rfl)
theorem q_398 : (Cond.static Lib.Math.max.name) ∈ wsL_law := rl_17 _ (List.mem_of_getElem? (i := 14) rfl)
theorem q_399 : (Cond.code Lib.Math.max.name Lib.Math.max.code 2 (some .int)) ∈ wsL_law := rl_17 _ (List.mem_of_getElem? (i := 15) rfl)
theorem q_400 : (Cond.methodLink RX2 49 yX2_has) ∈ wsL_law := rl_17 _ (List.mem_of_getElem? (i := 16) rfl)
theorem q_401 : (Cond.instanceMethod yX2_has) ∈ wsL_law := rl_17 _ (List.mem_of_getElem? (i := 17) rfl)
theorem q_402 : (Cond.selects RX2 yX2_has yX2_has) ∈ wsL_law := rl_17 _ (List.mem_of_getElem? (i := 18) rfl)
theorem q_403 : (Cond.code yX2_has cX2_has 2 (some .boolean)) ∈ wsL_law := rl_17 _ (List.mem_of_getElem? (i := 19) rfl)
theorem q_404 : (Cond.methodLink RX2 60 yX2_lying) ∈ wsL_law := rl_17 _ (List.mem_of_getElem? (i := 20) rfl)
theorem q_405 : (Cond.instanceMethod yX2_lying) ∈ wsL_law := rl_17 _ (List.mem_of_getElem? (i := 21) rfl)
theorem q_406 : (Cond.selects RX2 yX2_lying yX2_lying) ∈ wsL_law := rl_17 _ (List.mem_of_getElem? (i := 22) rfl)
theorem q_407 : (Cond.code yX2_lying cX2_lying 2 (some .int)) ∈ wsL_law := rl_17 _ (List.mem_of_getElem? (i := 23) rfl)
theorem q_408 : (Cond.methodLink RX2 67 yX2_nearerBy) ∈ wsL_law := rl_18 _ (List.mem_of_getElem? (i := 0) rfl)
theorem q_409 : (Cond.instanceMethod yX2_nearerBy) ∈ wsL_law := rl_18 _ (List.mem_of_getElem? (i := 1) rfl)
theorem q_410 : (Cond.selects RX2 yX2_nearerBy yX2_nearerBy) ∈ wsL_law := rl_18 _ (List.mem_of_getElem? (i := 2) rfl)
theorem q_411 : (Cond.code yX2_nearerBy cX2_nearerBy 4 (some .int)) ∈ wsL_law := rl_18 _ (List.mem_of_getElem? (i := 3) rfl)
theorem q_412 : (Cond.methodLink RX2 77 Lib.Math.abs.name) ∈ wsL_law := rl_18 _ (List.mem_of_getElem? (i := 4) rfl)
theorem q_413 : (Cond.static Lib.Math.abs.name) ∈ wsL_law := rl_18 _ (List.mem_of_getElem? (i := 5) rfl)
theorem q_414 : (Cond.code Lib.Math.abs.name Lib.Math.abs.code 1 (some .int)) ∈ wsL_law := rl_18 _ (List.mem_of_getElem? (i := 6) rfl)
theorem q_415 : (Cond.methodLink RX2 71 yX2_otherOne) ∈ wsL_law := rl_18 _ (List.mem_of_getElem? (i := 7) rfl)
theorem q_416 : (Cond.static yX2_otherOne) ∈ wsL_law := rl_18 _ (List.mem_of_getElem? (i := 8) rfl)
theorem q_417 : (Cond.code yX2_otherOne cX2_otherOne 1 (some .int)) ∈ wsL_law := rl_18 _ (List.mem_of_getElem? (i := 9) rfl)
theorem q_418 : (Cond.methodLink RX2 74 yX2_byWarmth) ∈ wsL_law := rl_18 _ (List.mem_of_getElem? (i := 10) rfl)
theorem q_419 : (Cond.static yX2_byWarmth) ∈ wsL_law := rl_18 _ (List.mem_of_getElem? (i := 11) rfl)
theorem q_420 : (Cond.code yX2_byWarmth cX2_byWarmth 1 (some .int)) ∈ wsL_law := rl_18 _ (List.mem_of_getElem? (i := 12) rfl)
theorem q_421 : (Cond.methodLink RX6 153 yX2_allStock) ∈ wsL_law := rl_18 _ (List.mem_of_getElem? (i := 13) rfl)
theorem q_422 : (Cond.instanceMethod yX2_allStock) ∈ wsL_law := rl_18 _ (List.mem_of_getElem? (i := 14) rfl)
theorem q_423 : (Cond.selects RX2 yX2_allStock yX2_allStock) ∈ wsL_law := rl_18 _ (List.mem_of_getElem? (i := 15) rfl)
theorem q_424 : (Cond.code yX2_allStock cX2_allStock 3 (some .int)) ∈ wsL_law := rl_18 _ (List.mem_of_getElem? (i := 16) rfl)
theorem q_425 : (Cond.methodLink RX2 53 yX2_stockOf) ∈ wsL_law := rl_18 _ (List.mem_of_getElem? (i := 17) rfl)
theorem q_426 : (Cond.instanceMethod yX2_stockOf) ∈ wsL_law := rl_18 _ (List.mem_of_getElem? (i := 18) rfl)
theorem q_427 : (Cond.selects RX2 yX2_stockOf yX2_stockOf) ∈ wsL_law := rl_18 _ (List.mem_of_getElem? (i := 19) rfl)
theorem q_428 : (Cond.code yX2_stockOf cX2_stockOf 2 (some .int)) ∈ wsL_law := rl_18 _ (List.mem_of_getElem? (i := 20) rfl)
theorem q_429 : (Cond.methodLink RL 52 yX7_tides) ∈ wsL_law := rl_18 _ (List.mem_of_getElem? (i := 21) rfl)
theorem q_430 : (Cond.instanceMethod yX7_tides) ∈ wsL_law := rl_18 _ (List.mem_of_getElem? (i := 22) rfl)
theorem q_431 : (Cond.selects RX7 yX7_tides yX7_tides) ∈ wsL_law := rl_18 _ (List.mem_of_getElem? (i := 23) rfl)
theorem q_432 : (Cond.code yX7_tides cX7_tides 3 (some .int)) ∈ wsL_law := rl_19 _ (List.mem_of_getElem? (i := 0) rfl)
theorem q_433 : (Cond.constantLong RX7 153 (24)) ∈ wsL_law := rl_19 _ (List.mem_of_getElem? (i := 1) rfl)
theorem q_434 : (Cond.methodLink RX7 155 yX7_note) ∈ wsL_law := rl_19 _ (List.mem_of_getElem? (i := 2) rfl)
theorem q_435 : (Cond.instanceMethod yX7_note) ∈ wsL_law := rl_19 _ (List.mem_of_getElem? (i := 3) rfl)
theorem q_436 : (Cond.selects RX7 yX7_note yX7_note) ∈ wsL_law := rl_19 _ (List.mem_of_getElem? (i := 4) rfl)
theorem q_437 : (Cond.code yX7_note cX7_note 2 none) ∈ wsL_law := rl_19 _ (List.mem_of_getElem? (i := 5) rfl)
theorem q_438 : (Cond.methodLink RX7 158 yX7_oneTide) ∈ wsL_law := rl_19 _ (List.mem_of_getElem? (i := 6) rfl)
theorem q_439 : (Cond.instanceMethod yX7_oneTide) ∈ wsL_law := rl_19 _ (List.mem_of_getElem? (i := 7) rfl)
theorem q_440 : (Cond.selects RX7 yX7_oneTide yX7_oneTide) ∈ wsL_law := rl_19 _ (List.mem_of_getElem? (i := 8) rfl)
theorem q_441 : (Cond.code yX7_oneTide cX7_oneTide 4 none) ∈ wsL_law := rl_19 _ (List.mem_of_getElem? (i := 9) rfl)
theorem q_442 : (Cond.methodLink RX7 149 yX7_lies) ∈ wsL_law := rl_19 _ (List.mem_of_getElem? (i := 10) rfl)
theorem q_443 : (Cond.instanceMethod yX7_lies) ∈ wsL_law := rl_19 _ (List.mem_of_getElem? (i := 11) rfl)
theorem q_444 : (Cond.selects RX7 yX7_lies yX7_lies) ∈ wsL_law := rl_19 _ (List.mem_of_getElem? (i := 12) rfl)
theorem q_445 : (Cond.code yX7_lies cX7_lies 4 (some .int)) ∈ wsL_law := rl_19 _ (List.mem_of_getElem? (i := 13) rfl)
theorem q_446 : (Cond.methodLink RX7 142 yX7_nearer) ∈ wsL_law := rl_19 _ (List.mem_of_getElem? (i := 14) rfl)
theorem q_447 : (Cond.instanceMethod yX7_nearer) ∈ wsL_law := rl_19 _ (List.mem_of_getElem? (i := 15) rfl)
theorem q_448 : (Cond.selects RX7 yX7_nearer yX7_nearer) ∈ wsL_law := rl_19 _ (List.mem_of_getElem? (i := 16) rfl)
theorem q_449 : (Cond.code yX7_nearer cX7_nearer 4 (some .int)) ∈ wsL_law := rl_19 _ (List.mem_of_getElem? (i := 17) rfl)
theorem q_450 : (Cond.methodLink RX7 139 yX7_off) ∈ wsL_law := rl_19 _ (List.mem_of_getElem? (i := 18) rfl)
theorem q_451 : (Cond.instanceMethod yX7_off) ∈ wsL_law := rl_19 _ (List.mem_of_getElem? (i := 19) rfl)
theorem q_452 : (Cond.selects RX7 yX7_off yX7_off) ∈ wsL_law := rl_19 _ (List.mem_of_getElem? (i := 20) rfl)
theorem q_453 : (Cond.code yX7_off cX7_off 4 (some .int)) ∈ wsL_law := rl_19 _ (List.mem_of_getElem? (i := 21) rfl)
theorem q_454 : (Cond.methodLink RX7 161 yX7_allSizes) ∈ wsL_law := rl_19 _ (List.mem_of_getElem? (i := 22) rfl)
theorem q_455 : (Cond.instanceMethod yX7_allSizes) ∈ wsL_law := rl_19 _ (List.mem_of_getElem? (i := 23) rfl)
theorem q_456 : (Cond.selects RX7 yX7_allSizes yX7_allSizes) ∈ wsL_law := rl_20 _ (List.mem_of_getElem? (i := 0) rfl)
theorem q_457 : (Cond.code yX7_allSizes cX7_allSizes 3 (some .int)) ∈ wsL_law := rl_20 _ (List.mem_of_getElem? (i := 1) rfl)
theorem q_458 : (Cond.methodLink RL 53 yX6_rake) ∈ wsL_law := rl_20 _ (List.mem_of_getElem? (i := 2) rfl)
theorem q_459 : (Cond.instanceMethod yX6_rake) ∈ wsL_law := rl_20 _ (List.mem_of_getElem? (i := 3) rfl)
theorem q_460 : (Cond.selects RX6 yX6_rake yX6_rake) ∈ wsL_law := rl_20 _ (List.mem_of_getElem? (i := 4) rfl)
theorem q_461 : (Cond.code yX6_rake cX6_rake 3 (some .int)) ∈ wsL_law := rl_20 _ (List.mem_of_getElem? (i := 5) rfl)
theorem q_462 : (Cond.methodLink RX6 156 yX2_has) ∈ wsL_law := rl_20 _ (List.mem_of_getElem? (i := 6) rfl)
theorem q_463 : (Cond.methodLink RX6 159 yX2_hasVeto) ∈ wsL_law := rl_20 _ (List.mem_of_getElem? (i := 7) rfl)
theorem q_464 : (Cond.instanceMethod yX2_hasVeto) ∈ wsL_law := rl_20 _ (List.mem_of_getElem? (i := 8) rfl)
theorem q_465 : (Cond.selects RX2 yX2_hasVeto yX2_hasVeto) ∈ wsL_law := rl_20 _ (List.mem_of_getElem? (i := 9) rfl)
theorem q_466 : (Cond.code yX2_hasVeto cX2_hasVeto 2 (some .boolean)) ∈ wsL_law := rl_20 _ (List.mem_of_getElem? (i := 10) rfl)
theorem q_467 : (Cond.methodLink RX6 162 yX2_stockOf) ∈ wsL_law := rl_20 _ (List.mem_of_getElem? (i := 11) rfl)
theorem q_468 : (Cond.methodLink RX6 165 yX2_rakeUp) ∈ wsL_law := rl_20 _ (List.mem_of_getElem? (i := 12) rfl)
theorem q_469 : (Cond.instanceMethod yX2_rakeUp) ∈ wsL_law := rl_20 _ (List.mem_of_getElem? (i := 13) rfl)
theorem q_470 : (Cond.selects RX2 yX2_rakeUp yX2_rakeUp) ∈ wsL_law := rl_20 _ (List.mem_of_getElem? (i := 14) rfl)
theorem q_471 : (Cond.code yX2_rakeUp cX2_rakeUp 5 (some .int)) ∈ wsL_law := rl_20 _ (List.mem_of_getElem? (i := 15) rfl)
theorem q_472 : (Cond.methodLink RX2 92 yX2_sieved) ∈ wsL_law := rl_20 _ (List.mem_of_getElem? (i := 16) rfl)
theorem q_473 : (Cond.static yX2_sieved) ∈ wsL_law := rl_20 _ (List.mem_of_getElem? (i := 17) rfl)
theorem q_474 : (Cond.code yX2_sieved cX2_sieved 1 (some .int)) ∈ wsL_law := rl_20 _ (List.mem_of_getElem? (i := 18) rfl)
theorem q_475 : (Cond.methodLink RL 57 yX7_rake) ∈ wsL_law := rl_20 _ (List.mem_of_getElem? (i := 19) rfl)
theorem q_476 : (Cond.instanceMethod yX7_rake) ∈ wsL_law := rl_20 _ (List.mem_of_getElem? (i := 20) rfl)
theorem q_477 : (Cond.selects RX7 yX7_rake yX7_rake) ∈ wsL_law := rl_20 _ (List.mem_of_getElem? (i := 21) rfl)
theorem q_478 : (Cond.code yX7_rake cX7_rake 3 (some .int)) ∈ wsL_law := rl_20 _ (List.mem_of_getElem? (i := 22) rfl)
theorem q_479 : (Cond.constantLong RX7 168 (99)) ∈ wsL_law := rl_20 _ (List.mem_of_getElem? (i := 23) rfl)
theorem q_480 : (Cond.methodLink RX7 165 yX7_isBed) ∈ wsL_law := rl_21 _ (List.mem_of_getElem? (i := 0) rfl)
theorem q_481 : (Cond.instanceMethod yX7_isBed) ∈ wsL_law := rl_21 _ (List.mem_of_getElem? (i := 1) rfl)
theorem q_482 : (Cond.selects RX7 yX7_isBed yX7_isBed) ∈ wsL_law := rl_21 _ (List.mem_of_getElem? (i := 2) rfl)
theorem q_483 : (Cond.code yX7_isBed cX7_isBed 2 (some .boolean)) ∈ wsL_law := rl_21 _ (List.mem_of_getElem? (i := 3) rfl)
theorem q_484 : (Cond.methodLink RX7 170 yX7_hasVeto) ∈ wsL_law := rl_21 _ (List.mem_of_getElem? (i := 4) rfl)
theorem q_485 : (Cond.instanceMethod yX7_hasVeto) ∈ wsL_law := rl_21 _ (List.mem_of_getElem? (i := 5) rfl)
theorem q_486 : (Cond.selects RX7 yX7_hasVeto yX7_hasVeto) ∈ wsL_law := rl_21 _ (List.mem_of_getElem? (i := 6) rfl)
theorem q_487 : (Cond.code yX7_hasVeto cX7_hasVeto 2 (some .boolean)) ∈ wsL_law := rl_21 _ (List.mem_of_getElem? (i := 7) rfl)
theorem q_488 : (Cond.methodLink RX7 145 yX7_has) ∈ wsL_law := rl_21 _ (List.mem_of_getElem? (i := 8) rfl)
theorem q_489 : (Cond.static yX7_has) ∈ wsL_law := rl_21 _ (List.mem_of_getElem? (i := 9) rfl)
theorem q_490 : (Cond.code yX7_has cX7_has 2 (some .boolean)) ∈ wsL_law := rl_21 _ (List.mem_of_getElem? (i := 10) rfl)
theorem q_491 : (Cond.methodLink RX7 173 yX7_rakeBy) ∈ wsL_law := rl_21 _ (List.mem_of_getElem? (i := 11) rfl)
theorem q_492 : (Cond.instanceMethod yX7_rakeBy) ∈ wsL_law := rl_21 _ (List.mem_of_getElem? (i := 12) rfl)
theorem q_493 : (Cond.selects RX7 yX7_rakeBy yX7_rakeBy) ∈ wsL_law := rl_21 _ (List.mem_of_getElem? (i := 13) rfl)
theorem q_494 : (Cond.code yX7_rakeBy cX7_rakeBy 4 none) ∈ wsL_law := rl_21 _ (List.mem_of_getElem? (i := 14) rfl)
theorem q_495 : (Cond.methodLink RL 58 yX6_rain) ∈ wsL_law := rl_21 _ (List.mem_of_getElem? (i := 15) rfl)
theorem q_496 : (Cond.instanceMethod yX6_rain) ∈ wsL_law := rl_21 _ (List.mem_of_getElem? (i := 16) rfl)
theorem q_497 : (Cond.selects RX6 yX6_rain yX6_rain) ∈ wsL_law := rl_21 _ (List.mem_of_getElem? (i := 17) rfl)
theorem q_498 : (Cond.code yX6_rain cX6_rain 4 (some .int)) ∈ wsL_law := rl_21 _ (List.mem_of_getElem? (i := 18) rfl)
theorem q_499 : (Cond.methodLink RX6 169 yX2_warmOf) ∈ wsL_law := rl_21 _ (List.mem_of_getElem? (i := 19) rfl)
theorem q_500 : (Cond.instanceMethod yX2_warmOf) ∈ wsL_law := rl_21 _ (List.mem_of_getElem? (i := 20) rfl)
theorem q_501 : (Cond.selects RX2 yX2_warmOf yX2_warmOf) ∈ wsL_law := rl_21 _ (List.mem_of_getElem? (i := 21) rfl)
theorem q_502 : (Cond.code yX2_warmOf cX2_warmOf 2 (some .int)) ∈ wsL_law := rl_21 _ (List.mem_of_getElem? (i := 22) rfl)
theorem q_503 : (Cond.methodLink RX6 172 yX2_warmTo) ∈ wsL_law := rl_21 _ (List.mem_of_getElem? (i := 23) rfl)
theorem q_504 : (Cond.instanceMethod yX2_warmTo) ∈ wsL_law := rl_22 _ (List.mem_of_getElem? (i := 0) rfl)
theorem q_505 : (Cond.selects RX2 yX2_warmTo yX2_warmTo) ∈ wsL_law := rl_22 _ (List.mem_of_getElem? (i := 1) rfl)
theorem q_506 : (Cond.code yX2_warmTo cX2_warmTo 3 none) ∈ wsL_law := rl_22 _ (List.mem_of_getElem? (i := 2) rfl)
theorem q_507 : (Cond.methodLink RL 61 yX7_rain) ∈ wsL_law := rl_22 _ (List.mem_of_getElem? (i := 3) rfl)
theorem q_508 : (Cond.instanceMethod yX7_rain) ∈ wsL_law := rl_22 _ (List.mem_of_getElem? (i := 4) rfl)
theorem q_509 : (Cond.selects RX7 yX7_rain yX7_rain) ∈ wsL_law := rl_22 _ (List.mem_of_getElem? (i := 5) rfl)
theorem q_510 : (Cond.code yX7_rain cX7_rain 4 (some .int)) ∈ wsL_law := rl_22 _ (List.mem_of_getElem? (i := 6) rfl)
theorem q_511 : (Cond.constantLong RX7 177 (9)) ∈ wsL_law := rl_22 _ (List.mem_of_getElem? (i := 7) rfl)
theorem q_512 : (Cond.methodLink RL 62 yX6_veto) ∈ wsL_law := rl_22 _ (List.mem_of_getElem? (i := 8) rfl)
theorem q_513 : (Cond.instanceMethod yX6_veto) ∈ wsL_law := rl_22 _ (List.mem_of_getElem? (i := 9) rfl)
theorem q_514 : (Cond.selects RX6 yX6_veto yX6_veto) ∈ wsL_law := rl_22 _ (List.mem_of_getElem? (i := 10) rfl)
theorem q_515 : (Cond.code yX6_veto cX6_veto 3 (some .int)) ∈ wsL_law := rl_22 _ (List.mem_of_getElem? (i := 11) rfl)
theorem q_516 : (Cond.methodLink RX6 176 yX2_turnVeto) ∈ wsL_law := rl_22 _ (List.mem_of_getElem? (i := 12) rfl)
theorem q_517 : (Cond.instanceMethod yX2_turnVeto) ∈ wsL_law := rl_22 _ (List.mem_of_getElem? (i := 13) rfl)
theorem q_518 : (Cond.selects RX2 yX2_turnVeto yX2_turnVeto) ∈ wsL_law := rl_22 _ (List.mem_of_getElem? (i := 14) rfl)
theorem q_519 : (Cond.code yX2_turnVeto cX2_turnVeto 2 none) ∈ wsL_law := rl_22 _ (List.mem_of_getElem? (i := 15) rfl)
theorem q_520 : (Cond.methodLink RL 65 yX7_veto) ∈ wsL_law := rl_22 _ (List.mem_of_getElem? (i := 16) rfl)
theorem q_521 : (Cond.instanceMethod yX7_veto) ∈ wsL_law := rl_22 _ (List.mem_of_getElem? (i := 17) rfl)
theorem q_522 : (Cond.selects RX7 yX7_veto yX7_veto) ∈ wsL_law := rl_22 _ (List.mem_of_getElem? (i := 18) rfl)
theorem q_523 : (Cond.code yX7_veto cX7_veto 3 (some .int)) ∈ wsL_law := rl_22 _ (List.mem_of_getElem? (i := 19) rfl)
theorem q_524 : (Cond.methodLink RL 66 yX6_stand) ∈ wsL_law := rl_22 _ (List.mem_of_getElem? (i := 20) rfl)
theorem q_525 : (Cond.instanceMethod yX6_stand) ∈ wsL_law := rl_22 _ (List.mem_of_getElem? (i := 21) rfl)
theorem q_526 : (Cond.selects RX6 yX6_stand yX6_stand) ∈ wsL_law := rl_22 _ (List.mem_of_getElem? (i := 22) rfl)
theorem q_527 : (Cond.code yX6_stand cX6_stand 4 (some .int)) ∈ wsL_law := rl_22 _ (List.mem_of_getElem? (i := 23) rfl)
theorem q_528 : (Cond.methodLink RX6 183 yX6_isOne) ∈ wsL_law := rl_23 _ (List.mem_of_getElem? (i := 0) rfl)
theorem q_529 : (Cond.static yX6_isOne) ∈ wsL_law := rl_23 _ (List.mem_of_getElem? (i := 1) rfl)
theorem q_530 : (Cond.code yX6_isOne cX6_isOne 1 (some .boolean)) ∈ wsL_law := rl_23 _ (List.mem_of_getElem? (i := 2) rfl)
theorem q_531 : (Cond.methodLink RX6 192 yX2_standIn) ∈ wsL_law := rl_23 _ (List.mem_of_getElem? (i := 3) rfl)
theorem q_532 : (Cond.instanceMethod yX2_standIn) ∈ wsL_law := rl_23 _ (List.mem_of_getElem? (i := 4) rfl)
theorem q_533 : (Cond.selects RX2 yX2_standIn yX2_standIn) ∈ wsL_law := rl_23 _ (List.mem_of_getElem? (i := 5) rfl)
theorem q_534 : (Cond.code yX2_standIn cX2_standIn 3 none) ∈ wsL_law := rl_23 _ (List.mem_of_getElem? (i := 6) rfl)
theorem q_535 : (Cond.methodLink RL 69 yX7_stand) ∈ wsL_law := rl_23 _ (List.mem_of_getElem? (i := 7) rfl)
theorem q_536 : (Cond.instanceMethod yX7_stand) ∈ wsL_law := rl_23 _ (List.mem_of_getElem? (i := 8) rfl)
theorem q_537 : (Cond.selects RX7 yX7_stand yX7_stand) ∈ wsL_law := rl_23 _ (List.mem_of_getElem? (i := 9) rfl)
theorem q_538 : (Cond.code yX7_stand cX7_stand 4 (some .int)) ∈ wsL_law := rl_23 _ (List.mem_of_getElem? (i := 10) rfl)
theorem q_539 : (Cond.constantLong RX7 182 (8)) ∈ wsL_law := rl_23 _ (List.mem_of_getElem? (i := 11) rfl)
theorem q_540 : (Cond.methodLink RX7 179 yX7_isWho) ∈ wsL_law := rl_23 _ (List.mem_of_getElem? (i := 12) rfl)
theorem q_541 : (Cond.static yX7_isWho) ∈ wsL_law := rl_23 _ (List.mem_of_getElem? (i := 13) rfl)
theorem q_542 : (Cond.code yX7_isWho cX7_isWho 1 (some .boolean)) ∈ wsL_law := rl_23 _ (List.mem_of_getElem? (i := 14) rfl)
theorem q_543 : (Cond.methodLink RL 70 yX6_bed) ∈ wsL_law := rl_23 _ (List.mem_of_getElem? (i := 15) rfl)
theorem q_544 : (Cond.instanceMethod yX6_bed) ∈ wsL_law := rl_23 _ (List.mem_of_getElem? (i := 16) rfl)
theorem q_545 : (Cond.selects RX6 yX6_bed yX6_bed) ∈ wsL_law := rl_23 _ (List.mem_of_getElem? (i := 17) rfl)
theorem q_546 : (Cond.code yX6_bed cX6_bed 3 (some .int)) ∈ wsL_law := rl_23 _ (List.mem_of_getElem? (i := 18) rfl)
theorem q_547 : (Cond.methodLink RX6 195 yX2_tellOf) ∈ wsL_law := rl_23 _ (List.mem_of_getElem? (i := 19) rfl)
theorem q_548 : (Cond.instanceMethod yX2_tellOf) ∈ wsL_law := rl_23 _ (List.mem_of_getElem? (i := 20) rfl)
theorem q_549 : (Cond.selects RX2 yX2_tellOf yX2_tellOf) ∈ wsL_law := rl_23 _ (List.mem_of_getElem? (i := 21) rfl)
theorem q_550 : (Cond.code yX2_tellOf cX2_tellOf 3 (some .int)) ∈ wsL_law := rl_23 _ (List.mem_of_getElem? (i := 22) rfl)
theorem q_551 : (Cond.methodLink RX2 57 yX2_warmOf) ∈ wsL_law := rl_23 _ (List.mem_of_getElem? (i := 23) rfl)
theorem q_552 : (Cond.methodLink RL 73 yX7_bed) ∈ wsL_law := rl_24 _ (List.mem_of_getElem? (i := 0) rfl)
theorem q_553 : (Cond.instanceMethod yX7_bed) ∈ wsL_law := rl_24 _ (List.mem_of_getElem? (i := 1) rfl)
theorem q_554 : (Cond.selects RX7 yX7_bed yX7_bed) ∈ wsL_law := rl_24 _ (List.mem_of_getElem? (i := 2) rfl)
theorem q_555 : (Cond.code yX7_bed cX7_bed 3 (some .int)) ∈ wsL_law := rl_24 _ (List.mem_of_getElem? (i := 3) rfl)
theorem q_556 : (Cond.constantLong RX7 184 (3)) ∈ wsL_law := rl_24 _ (List.mem_of_getElem? (i := 4) rfl)
theorem q_557 : (Cond.methodLink RX7 186 yX7_toldOf) ∈ wsL_law := rl_24 _ (List.mem_of_getElem? (i := 5) rfl)
theorem q_558 : (Cond.instanceMethod yX7_toldOf) ∈ wsL_law := rl_24 _ (List.mem_of_getElem? (i := 6) rfl)
theorem q_559 : (Cond.selects RX7 yX7_toldOf yX7_toldOf) ∈ wsL_law := rl_24 _ (List.mem_of_getElem? (i := 7) rfl)
theorem q_560 : (Cond.code yX7_toldOf cX7_toldOf 3 (some .int)) ∈ wsL_law := rl_24 _ (List.mem_of_getElem? (i := 8) rfl)
theorem q_561 : (Cond.methodLink RL 74 yX6_board) ∈ wsL_law := rl_24 _ (List.mem_of_getElem? (i := 9) rfl)
theorem q_562 : (Cond.instanceMethod yX6_board) ∈ wsL_law := rl_24 _ (List.mem_of_getElem? (i := 10) rfl)
theorem q_563 : (Cond.selects RX6 yX6_board yX6_board) ∈ wsL_law := rl_24 _ (List.mem_of_getElem? (i := 11) rfl)
theorem q_564 : (Cond.code yX6_board cX6_board 2 (some .int)) ∈ wsL_law := rl_24 _ (List.mem_of_getElem? (i := 12) rfl)
theorem q_565 : (Cond.methodLink RX6 198 yX2_countedFor) ∈ wsL_law := rl_24 _ (List.mem_of_getElem? (i := 13) rfl)
theorem q_566 : (Cond.instanceMethod yX2_countedFor) ∈ wsL_law := rl_24 _ (List.mem_of_getElem? (i := 14) rfl)
theorem q_567 : (Cond.selects RX2 yX2_countedFor yX2_countedFor) ∈ wsL_law := rl_24 _ (List.mem_of_getElem? (i := 15) rfl)
theorem q_568 : (Cond.code yX2_countedFor cX2_countedFor 2 (some .int)) ∈ wsL_law := rl_24 _ (List.mem_of_getElem? (i := 16) rfl)
theorem q_569 : (Cond.methodLink RL 77 yX7_board) ∈ wsL_law := rl_24 _ (List.mem_of_getElem? (i := 17) rfl)
theorem q_570 : (Cond.instanceMethod yX7_board) ∈ wsL_law := rl_24 _ (List.mem_of_getElem? (i := 18) rfl)
theorem q_571 : (Cond.selects RX7 yX7_board yX7_board) ∈ wsL_law := rl_24 _ (List.mem_of_getElem? (i := 19) rfl)
theorem q_572 : (Cond.code yX7_board cX7_board 2 (some .int)) ∈ wsL_law := rl_24 _ (List.mem_of_getElem? (i := 20) rfl)
theorem q_573 : (Cond.constantLong RX7 189 (5)) ∈ wsL_law := rl_24 _ (List.mem_of_getElem? (i := 21) rfl)
theorem q_574 : (Cond.methodLink RL 78 yX6_ahead) ∈ wsL_law := rl_24 _ (List.mem_of_getElem? (i := 22) rfl)
theorem q_575 : (Cond.instanceMethod yX6_ahead) ∈ wsL_law := rl_24 _ (List.mem_of_getElem? (i := 23) rfl)
theorem q_576 : (Cond.selects RX6 yX6_ahead yX6_ahead) ∈ wsL_law := rl_25 _ (List.mem_of_getElem? (i := 0) rfl)
theorem q_577 : (Cond.code yX6_ahead cX6_ahead 4 (some .int)) ∈ wsL_law := rl_25 _ (List.mem_of_getElem? (i := 1) rfl)
theorem q_578 : (Cond.methodLink RX6 204 yX3_after) ∈ wsL_law := rl_25 _ (List.mem_of_getElem? (i := 2) rfl)
theorem q_579 : (Cond.instanceMethod yX3_after) ∈ wsL_law := rl_25 _ (List.mem_of_getElem? (i := 3) rfl)
theorem q_580 : (Cond.selects RX3 yX3_after yX3_after) ∈ wsL_law := rl_25 _ (List.mem_of_getElem? (i := 4) rfl)
theorem q_581 : (Cond.code yX3_after cX3_after 4 (some (.object "CockleSquires$Flat"))) ∈ wsL_law := rl_25 _ (List.mem_of_getElem? (i := 5) rfl)
theorem q_582 : (Cond.methodLink RX3 34 yX2_become) ∈ wsL_law := rl_25 _ (List.mem_of_getElem? (i := 6) rfl)
theorem q_583 : (Cond.methodLink RX3 38 yX2_flow) ∈ wsL_law := rl_25 _ (List.mem_of_getElem? (i := 7) rfl)
theorem q_584 : (Cond.methodLink RL 81 yX7_ahead) ∈ wsL_law := rl_25 _ (List.mem_of_getElem? (i := 8) rfl)
theorem q_585 : (Cond.instanceMethod yX7_ahead) ∈ wsL_law := rl_25 _ (List.mem_of_getElem? (i := 9) rfl)
theorem q_586 : (Cond.selects RX7 yX7_ahead yX7_ahead) ∈ wsL_law := rl_25 _ (List.mem_of_getElem? (i := 10) rfl)
theorem q_587 : (Cond.code yX7_ahead cX7_ahead 5 (some .int)) ∈ wsL_law := rl_25 _ (List.mem_of_getElem? (i := 11) rfl)
theorem q_588 : (Cond.constantLong RX7 191 (60)) ∈ wsL_law := rl_25 _ (List.mem_of_getElem? (i := 12) rfl)
theorem q_589 : (Cond.methodLink RX7 193 yX7_putAside) ∈ wsL_law := rl_25 _ (List.mem_of_getElem? (i := 13) rfl)
theorem q_590 : (Cond.instanceMethod yX7_putAside) ∈ wsL_law := rl_25 _ (List.mem_of_getElem? (i := 14) rfl)
theorem q_591 : (Cond.selects RX7 yX7_putAside yX7_putAside) ∈ wsL_law := rl_25 _ (List.mem_of_getElem? (i := 15) rfl)
theorem q_592 : (Cond.code yX7_putAside cX7_putAside 2 none) ∈ wsL_law := rl_25 _ (List.mem_of_getElem? (i := 16) rfl)
theorem q_593 : (Cond.methodLink RX7 196 yX7_goOn) ∈ wsL_law := rl_25 _ (List.mem_of_getElem? (i := 17) rfl)
theorem q_594 : (Cond.instanceMethod yX7_goOn) ∈ wsL_law := rl_25 _ (List.mem_of_getElem? (i := 18) rfl)
theorem q_595 : (Cond.selects RX7 yX7_goOn yX7_goOn) ∈ wsL_law := rl_25 _ (List.mem_of_getElem? (i := 19) rfl)
theorem q_596 : (Cond.code yX7_goOn cX7_goOn 3 none) ∈ wsL_law := rl_25 _ (List.mem_of_getElem? (i := 20) rfl)
theorem q_597 : (Cond.methodLink RX7 200 yX7_takeBack) ∈ wsL_law := rl_25 _ (List.mem_of_getElem? (i := 21) rfl)
theorem q_598 : (Cond.instanceMethod yX7_takeBack) ∈ wsL_law := rl_25 _ (List.mem_of_getElem? (i := 22) rfl)
theorem q_599 : (Cond.selects RX7 yX7_takeBack yX7_takeBack) ∈ wsL_law := rl_25 _ (List.mem_of_getElem? (i := 23) rfl)
theorem q_600 : (Cond.code yX7_takeBack cX7_takeBack 2 none) ∈ wsL_law := rl_26 _ (List.mem_of_getElem? (i := 0) rfl)
theorem q_601 : (Cond.methodLink RL 82 yX6_tally) ∈ wsL_law := rl_26 _ (List.mem_of_getElem? (i := 1) rfl)
theorem q_602 : (Cond.instanceMethod yX6_tally) ∈ wsL_law := rl_26 _ (List.mem_of_getElem? (i := 2) rfl)
theorem q_603 : (Cond.selects RX6 yX6_tally yX6_tally) ∈ wsL_law := rl_26 _ (List.mem_of_getElem? (i := 3) rfl)
theorem q_604 : (Cond.code yX6_tally cX6_tally 3 (some .int)) ∈ wsL_law := rl_26 _ (List.mem_of_getElem? (i := 4) rfl)
theorem q_605 : (Cond.methodLink RX6 208 yX2_tallyFor) ∈ wsL_law := rl_26 _ (List.mem_of_getElem? (i := 5) rfl)
theorem q_606 : (Cond.instanceMethod yX2_tallyFor) ∈ wsL_law := rl_26 _ (List.mem_of_getElem? (i := 6) rfl)
theorem q_607 : (Cond.selects RX2 yX2_tallyFor yX2_tallyFor) ∈ wsL_law := rl_26 _ (List.mem_of_getElem? (i := 7) rfl)
theorem q_608 : (Cond.code yX2_tallyFor cX2_tallyFor 4 (some .int)) ∈ wsL_law := rl_26 _ (List.mem_of_getElem? (i := 8) rfl)
theorem q_609 : (Cond.methodLink RX2 95 yX2_countedFor) ∈ wsL_law := rl_26 _ (List.mem_of_getElem? (i := 9) rfl)
theorem q_610 : (Cond.methodLink RX2 98 yX2_hasVeto) ∈ wsL_law := rl_26 _ (List.mem_of_getElem? (i := 10) rfl)
theorem q_611 : (Cond.methodLink RL 85 yX7_tally) ∈ wsL_law := rl_26 _ (List.mem_of_getElem? (i := 11) rfl)
theorem q_612 : (Cond.instanceMethod yX7_tally) ∈ wsL_law := rl_26 _ (List.mem_of_getElem? (i := 12) rfl)
theorem q_613 : (Cond.selects RX7 yX7_tally yX7_tally) ∈ wsL_law := rl_26 _ (List.mem_of_getElem? (i := 13) rfl)
theorem q_614 : (Cond.code yX7_tally cX7_tally 4 (some .int)) ∈ wsL_law := rl_26 _ (List.mem_of_getElem? (i := 14) rfl)
theorem q_615 : (Cond.methodLink RX7 206 yX7_tallyOf) ∈ wsL_law := rl_26 _ (List.mem_of_getElem? (i := 15) rfl)
theorem q_616 : (Cond.instanceMethod yX7_tallyOf) ∈ wsL_law := rl_26 _ (List.mem_of_getElem? (i := 16) rfl)
theorem q_617 : (Cond.selects RX7 yX7_tallyOf yX7_tallyOf) ∈ wsL_law := rl_26 _ (List.mem_of_getElem? (i := 17) rfl)
theorem q_618 : (Cond.code yX7_tallyOf cX7_tallyOf 2 (some .int)) ∈ wsL_law := rl_26 _ (List.mem_of_getElem? (i := 18) rfl)
theorem q_619 : (Cond.methodLink RX7 203 yX7_bringFor) ∈ wsL_law := rl_26 _ (List.mem_of_getElem? (i := 19) rfl)
theorem q_620 : (Cond.instanceMethod yX7_bringFor) ∈ wsL_law := rl_26 _ (List.mem_of_getElem? (i := 20) rfl)
theorem q_621 : (Cond.selects RX7 yX7_bringFor yX7_bringFor) ∈ wsL_law := rl_26 _ (List.mem_of_getElem? (i := 21) rfl)
theorem q_622 : (Cond.code yX7_bringFor cX7_bringFor 5 (some .int)) ∈ wsL_law := rl_26 _ (List.mem_of_getElem? (i := 22) rfl)
theorem q_623 : (Cond.methodLink RL 86 yX6_when) ∈ wsL_law := rl_26 _ (List.mem_of_getElem? (i := 23) rfl)
theorem q_624 : (Cond.instanceMethod yX6_when) ∈ wsL_law := rl_27 _ (List.mem_of_getElem? (i := 0) rfl)
theorem q_625 : (Cond.selects RX6 yX6_when yX6_when) ∈ wsL_law := rl_27 _ (List.mem_of_getElem? (i := 1) rfl)
theorem q_626 : (Cond.code yX6_when cX6_when 3 (some .int)) ∈ wsL_law := rl_27 _ (List.mem_of_getElem? (i := 2) rfl)
theorem q_627 : (Cond.methodLink RX6 211 yX3_firstLying) ∈ wsL_law := rl_27 _ (List.mem_of_getElem? (i := 3) rfl)
theorem q_628 : (Cond.instanceMethod yX3_firstLying) ∈ wsL_law := rl_27 _ (List.mem_of_getElem? (i := 4) rfl)
theorem q_629 : (Cond.selects RX3 yX3_firstLying yX3_firstLying) ∈ wsL_law := rl_27 _ (List.mem_of_getElem? (i := 5) rfl)
theorem q_630 : (Cond.code yX3_firstLying cX3_firstLying 5 (some .int)) ∈ wsL_law := rl_27 _ (List.mem_of_getElem? (i := 6) rfl)
theorem q_631 : (Cond.constant RX3 45 (-1000000)) ∈ wsL_law := rl_27 _ (List.mem_of_getElem? (i := 7) rfl)
theorem q_632 : (Cond.methodLink RX3 41 yX2_lying) ∈ wsL_law := rl_27 _ (List.mem_of_getElem? (i := 8) rfl)
theorem q_633 : (Cond.methodLink RL 89 yX7_when) ∈ wsL_law := rl_27 _ (List.mem_of_getElem? (i := 9) rfl)
theorem q_634 : (Cond.instanceMethod yX7_when) ∈ wsL_law := rl_27 _ (List.mem_of_getElem? (i := 10) rfl)
theorem q_635 : (Cond.selects RX7 yX7_when yX7_when) ∈ wsL_law := rl_27 _ (List.mem_of_getElem? (i := 11) rfl)
theorem q_636 : (Cond.code yX7_when cX7_when 5 (some .int)) ∈ wsL_law := rl_27 _ (List.mem_of_getElem? (i := 12) rfl)
theorem q_637 : (Cond.constant RX7 209 (-1000000)) ∈ wsL_law := rl_27 _ (List.mem_of_getElem? (i := 13) rfl)
theorem q_638 : (Cond.methodLink RL 90 yX6_place) ∈ wsL_law := rl_27 _ (List.mem_of_getElem? (i := 14) rfl)
theorem q_639 : (Cond.instanceMethod yX6_place) ∈ wsL_law := rl_27 _ (List.mem_of_getElem? (i := 15) rfl)
theorem q_640 : (Cond.selects RX6 yX6_place yX6_place) ∈ wsL_law := rl_27 _ (List.mem_of_getElem? (i := 16) rfl)
theorem q_641 : (Cond.code yX6_place cX6_place 4 (some .int)) ∈ wsL_law := rl_27 _ (List.mem_of_getElem? (i := 17) rfl)
theorem q_642 : (Cond.methodLink RX6 215 yX3_bestCell) ∈ wsL_law := rl_27 _ (List.mem_of_getElem? (i := 18) rfl)
theorem q_643 : (Cond.instanceMethod yX3_bestCell) ∈ wsL_law := rl_27 _ (List.mem_of_getElem? (i := 19) rfl)
theorem q_644 : (Cond.selects RX3 yX3_bestCell yX3_bestCell) ∈ wsL_law := rl_27 _ (List.mem_of_getElem? (i := 20) rfl)
theorem q_645 : (Cond.code yX3_bestCell cX3_bestCell 7 (some .int)) ∈ wsL_law := rl_27 _ (List.mem_of_getElem? (i := 21) rfl)
theorem q_646 : (Cond.methodLink RX3 53 yX3_leadFrom) ∈ wsL_law := rl_27 _ (List.mem_of_getElem? (i := 22) rfl)
theorem q_647 : (Cond.instanceMethod yX3_leadFrom) ∈ wsL_law := rl_27 _ (List.mem_of_getElem? (i := 23) rfl)
theorem q_648 : (Cond.selects RX3 yX3_leadFrom yX3_leadFrom) ∈ wsL_law := rl_28 _ (List.mem_of_getElem? (i := 0) rfl)
theorem q_649 : (Cond.code yX3_leadFrom cX3_leadFrom 4 (some .int)) ∈ wsL_law := rl_28 _ (List.mem_of_getElem? (i := 1) rfl)
theorem q_650 : (Cond.methodLink RX3 46 yX2_standIn) ∈ wsL_law := rl_28 _ (List.mem_of_getElem? (i := 2) rfl)
theorem q_651 : (Cond.methodLink RX3 50 yX2_leadOf) ∈ wsL_law := rl_28 _ (List.mem_of_getElem? (i := 3) rfl)
theorem q_652 : (Cond.instanceMethod yX2_leadOf) ∈ wsL_law := rl_28 _ (List.mem_of_getElem? (i := 4) rfl)
theorem q_653 : (Cond.selects RX2 yX2_leadOf yX2_leadOf) ∈ wsL_law := rl_28 _ (List.mem_of_getElem? (i := 5) rfl)
theorem q_654 : (Cond.code yX2_leadOf cX2_leadOf 4 (some .int)) ∈ wsL_law := rl_28 _ (List.mem_of_getElem? (i := 6) rfl)
theorem q_655 : (Cond.methodLink RX2 101 yX2_countedLead) ∈ wsL_law := rl_28 _ (List.mem_of_getElem? (i := 7) rfl)
theorem q_656 : (Cond.instanceMethod yX2_countedLead) ∈ wsL_law := rl_28 _ (List.mem_of_getElem? (i := 8) rfl)
theorem q_657 : (Cond.selects RX2 yX2_countedLead yX2_countedLead) ∈ wsL_law := rl_28 _ (List.mem_of_getElem? (i := 9) rfl)
theorem q_658 : (Cond.code yX2_countedLead cX2_countedLead 3 (some .int)) ∈ wsL_law := rl_28 _ (List.mem_of_getElem? (i := 10) rfl)
theorem q_659 : (Cond.methodLink RX2 104 yX2_gainBy) ∈ wsL_law := rl_28 _ (List.mem_of_getElem? (i := 11) rfl)
theorem q_660 : (Cond.instanceMethod yX2_gainBy) ∈ wsL_law := rl_28 _ (List.mem_of_getElem? (i := 12) rfl)
theorem q_661 : (Cond.selects RX2 yX2_gainBy yX2_gainBy) ∈ wsL_law := rl_28 _ (List.mem_of_getElem? (i := 13) rfl)
theorem q_662 : (Cond.code yX2_gainBy cX2_gainBy 5 (some .int)) ∈ wsL_law := rl_28 _ (List.mem_of_getElem? (i := 14) rfl)
theorem q_663 : (Cond.methodLink RX6 219 yX3_leadFrom) ∈ wsL_law := rl_28 _ (List.mem_of_getElem? (i := 15) rfl)
theorem q_664 : (Cond.methodLink RL 93 yX7_place) ∈ wsL_law := rl_28 _ (List.mem_of_getElem? (i := 16) rfl)
theorem q_665 : (Cond.instanceMethod yX7_place) ∈ wsL_law := rl_28 _ (List.mem_of_getElem? (i := 17) rfl)
theorem q_666 : (Cond.selects RX7 yX7_place yX7_place) ∈ wsL_law := rl_28 _ (List.mem_of_getElem? (i := 18) rfl)
theorem q_667 : (Cond.code yX7_place cX7_place 4 (some .int)) ∈ wsL_law := rl_28 _ (List.mem_of_getElem? (i := 19) rfl)
theorem q_668 : (Cond.methodLink RX7 213 yX7_isWhat) ∈ wsL_law := rl_28 _ (List.mem_of_getElem? (i := 20) rfl)
theorem q_669 : (Cond.static yX7_isWhat) ∈ wsL_law := rl_28 _ (List.mem_of_getElem? (i := 21) rfl)
theorem q_670 : (Cond.code yX7_isWhat cX7_isWhat 1 (some .boolean)) ∈ wsL_law := rl_28 _ (List.mem_of_getElem? (i := 22) rfl)
theorem q_671 : (Cond.methodLink RX7 216 yX7_bestCell) ∈ wsL_law := rl_28 _ (List.mem_of_getElem? (i := 23) rfl)
theorem q_672 : (Cond.instanceMethod yX7_bestCell) ∈ wsL_law := rl_29 _ (List.mem_of_getElem? (i := 0) rfl)
theorem q_673 : (Cond.selects RX7 yX7_bestCell yX7_bestCell) ∈ wsL_law := rl_29 _ (List.mem_of_getElem? (i := 1) rfl)
theorem q_674 : (Cond.code yX7_bestCell cX7_bestCell 7 (some .int)) ∈ wsL_law := rl_29 _ (List.mem_of_getElem? (i := 2) rfl)
theorem q_675 : (Cond.methodLink RX7 210 yX7_leadOf) ∈ wsL_law := rl_29 _ (List.mem_of_getElem? (i := 3) rfl)
theorem q_676 : (Cond.instanceMethod yX7_leadOf) ∈ wsL_law := rl_29 _ (List.mem_of_getElem? (i := 4) rfl)
theorem q_677 : (Cond.selects RX7 yX7_leadOf yX7_leadOf) ∈ wsL_law := rl_29 _ (List.mem_of_getElem? (i := 5) rfl)
theorem q_678 : (Cond.code yX7_leadOf cX7_leadOf 2 (some .int)) ∈ wsL_law := rl_29 _ (List.mem_of_getElem? (i := 6) rfl)
theorem q_679 : (Cond.methodLink RX7 219 yX7_leadFrom) ∈ wsL_law := rl_29 _ (List.mem_of_getElem? (i := 7) rfl)
theorem q_680 : (Cond.instanceMethod yX7_leadFrom) ∈ wsL_law := rl_29 _ (List.mem_of_getElem? (i := 8) rfl)
theorem q_681 : (Cond.selects RX7 yX7_leadFrom yX7_leadFrom) ∈ wsL_law := rl_29 _ (List.mem_of_getElem? (i := 9) rfl)
theorem q_682 : (Cond.code yX7_leadFrom cX7_leadFrom 5 (some .int)) ∈ wsL_law := rl_29 _ (List.mem_of_getElem? (i := 10) rfl)
theorem q_683 : (Cond.methodLink RL 94 yX6_rests) ∈ wsL_law := rl_29 _ (List.mem_of_getElem? (i := 11) rfl)
theorem q_684 : (Cond.instanceMethod yX6_rests) ∈ wsL_law := rl_29 _ (List.mem_of_getElem? (i := 12) rfl)
theorem q_685 : (Cond.selects RX6 yX6_rests yX6_rests) ∈ wsL_law := rl_29 _ (List.mem_of_getElem? (i := 13) rfl)
theorem q_686 : (Cond.code yX6_rests cX6_rests 2 (some .int)) ∈ wsL_law := rl_29 _ (List.mem_of_getElem? (i := 14) rfl)
theorem q_687 : (Cond.methodLink RX6 222 yX3_weighPairs) ∈ wsL_law := rl_29 _ (List.mem_of_getElem? (i := 15) rfl)
theorem q_688 : (Cond.instanceMethod yX3_weighPairs) ∈ wsL_law := rl_29 _ (List.mem_of_getElem? (i := 16) rfl)
theorem q_689 : (Cond.selects RX3 yX3_weighPairs yX3_weighPairs) ∈ wsL_law := rl_29 _ (List.mem_of_getElem? (i := 17) rfl)
theorem q_690 : (Cond.code yX3_weighPairs cX3_weighPairs 4 none) ∈ wsL_law := rl_29 _ (List.mem_of_getElem? (i := 18) rfl)
theorem q_691 : (Cond.methodLink RX6 225 yX3_restingPairs) ∈ wsL_law := rl_29 _ (List.mem_of_getElem? (i := 19) rfl)
theorem q_692 : (Cond.instanceMethod yX3_restingPairs) ∈ wsL_law := rl_29 _ (List.mem_of_getElem? (i := 20) rfl)
theorem q_693 : (Cond.selects RX3 yX3_restingPairs yX3_restingPairs) ∈ wsL_law := rl_29 _ (List.mem_of_getElem? (i := 21) rfl)
theorem q_694 : (Cond.code yX3_restingPairs cX3_restingPairs 4 (some .int)) ∈ wsL_law := rl_29 _ (List.mem_of_getElem? (i := 22) rfl)
theorem q_695 : (Cond.methodLink RX3 57 yX3_isResting) ∈ wsL_law := rl_29 _ (List.mem_of_getElem? (i := 23) rfl)
theorem q_696 : (Cond.instanceMethod yX3_isResting) ∈ wsL_law := rl_30 _ (List.mem_of_getElem? (i := 0) rfl)
theorem q_697 : (Cond.selects RX3 yX3_isResting yX3_isResting) ∈ wsL_law := rl_30 _ (List.mem_of_getElem? (i := 1) rfl)
theorem q_698 : (Cond.code yX3_isResting cX3_isResting 5 (some .boolean)) ∈ wsL_law := rl_30 _ (List.mem_of_getElem? (i := 2) rfl)
theorem q_699 : (Cond.methodLink RX6 228 yX3_firstResting) ∈ wsL_law := rl_30 _ (List.mem_of_getElem? (i := 3) rfl)
theorem q_700 : (Cond.instanceMethod yX3_firstResting) ∈ wsL_law := rl_30 _ (List.mem_of_getElem? (i := 4) rfl)
theorem q_701 : (Cond.selects RX3 yX3_firstResting yX3_firstResting) ∈ wsL_law := rl_30 _ (List.mem_of_getElem? (i := 5) rfl)
theorem q_702 : (Cond.code yX3_firstResting cX3_firstResting 3 (some .int)) ∈ wsL_law := rl_30 _ (List.mem_of_getElem? (i := 6) rfl)
theorem q_703 : (Cond.methodLink RL 97 yX7_rests) ∈ wsL_law := rl_30 _ (List.mem_of_getElem? (i := 7) rfl)
theorem q_704 : (Cond.instanceMethod yX7_rests) ∈ wsL_law := rl_30 _ (List.mem_of_getElem? (i := 8) rfl)
theorem q_705 : (Cond.selects RX7 yX7_rests yX7_rests) ∈ wsL_law := rl_30 _ (List.mem_of_getElem? (i := 9) rfl)
theorem q_706 : (Cond.code yX7_rests cX7_rests 6 (some .int)) ∈ wsL_law := rl_30 _ (List.mem_of_getElem? (i := 10) rfl)
theorem q_707 : (Cond.methodLink RL 98 yX6_rakes) ∈ wsL_law := rl_30 _ (List.mem_of_getElem? (i := 11) rfl)
theorem q_708 : (Cond.instanceMethod yX6_rakes) ∈ wsL_law := rl_30 _ (List.mem_of_getElem? (i := 12) rfl)
theorem q_709 : (Cond.selects RX6 yX6_rakes yX6_rakes) ∈ wsL_law := rl_30 _ (List.mem_of_getElem? (i := 13) rfl)
theorem q_710 : (Cond.code yX6_rakes cX6_rakes 4 (some .int)) ∈ wsL_law := rl_30 _ (List.mem_of_getElem? (i := 14) rfl)
theorem q_711 : (Cond.constant RX6 234 (-1000000)) ∈ wsL_law := rl_30 _ (List.mem_of_getElem? (i := 15) rfl)
theorem q_712 : (Cond.methodLink RX6 231 yX3_fewestRaked) ∈ wsL_law := rl_30 _ (List.mem_of_getElem? (i := 16) rfl)
theorem q_713 : (Cond.instanceMethod yX3_fewestRaked) ∈ wsL_law := rl_30 _ (List.mem_of_getElem? (i := 17) rfl)
theorem q_714 : (Cond.selects RX3 yX3_fewestRaked yX3_fewestRaked) ∈ wsL_law := rl_30 _ (List.mem_of_getElem? (i := 18) rfl)
theorem q_715 : (Cond.code yX3_fewestRaked cX3_fewestRaked 7 (some .int)) ∈ wsL_law := rl_30 _ (List.mem_of_getElem? (i := 19) rfl)
theorem q_716 : (Cond.methodLink RX3 75 yX3_weighBeds) ∈ wsL_law := rl_30 _ (List.mem_of_getElem? (i := 20) rfl)
theorem q_717 : (Cond.instanceMethod yX3_weighBeds) ∈ wsL_law := rl_30 _ (List.mem_of_getElem? (i := 21) rfl)
theorem q_718 : (Cond.selects RX3 yX3_weighBeds yX3_weighBeds) ∈ wsL_law := rl_30 _ (List.mem_of_getElem? (i := 22) rfl)
theorem q_719 : (Cond.code yX3_weighBeds cX3_weighBeds 4 none) ∈ wsL_law := rl_30 _ (List.mem_of_getElem? (i := 23) rfl)
theorem q_720 : (Cond.methodLink RX3 65 yX2_has) ∈ wsL_law := rl_31 _ (List.mem_of_getElem? (i := 0) rfl)
theorem q_721 : (Cond.methodLink RX3 69 yX2_hasVeto) ∈ wsL_law := rl_31 _ (List.mem_of_getElem? (i := 1) rfl)
theorem q_722 : (Cond.methodLink RX3 72 yX2_gainBy) ∈ wsL_law := rl_31 _ (List.mem_of_getElem? (i := 2) rfl)
theorem q_723 : (Cond.methodLink RX3 79 yX2_countedLead) ∈ wsL_law := rl_31 _ (List.mem_of_getElem? (i := 3) rfl)
theorem q_724 : (Cond.methodLink RX3 86 yJ6_bitCount_0f7a4) ∈ wsL_law := rl_31 _ (List.mem_of_getElem? (i := 4) rfl)
theorem q_725 : (Cond.static yJ6_bitCount_0f7a4) ∈ wsL_law := rl_31 _ (List.mem_of_getElem? (i := 5) rfl)
theorem q_726 : (Cond.initialized RJ6) ∈ wsL_law := rl_31 _ (List.mem_of_getElem? (i := 6) rfl)
theorem q_727 : (Cond.code yJ6_bitCount_0f7a4 cJ6_bitCount_0f7a4 1 (some .int)) ∈ wsL_law := rl_31 _ (List.mem_of_getElem? (i := 7) rfl)
theorem q_728 : (Cond.constant RJ6 265 (1431655765)) ∈ wsL_law := rl_31 _ (List.mem_of_getElem? (i := 8) rfl)
theorem q_729 : (Cond.constant RJ6 266 (858993459)) ∈ wsL_law := rl_31 _ (List.mem_of_getElem? (i := 9) rfl)
theorem q_730 : (Cond.constant RJ6 267 (252645135)) ∈ wsL_law := rl_31 _ (List.mem_of_getElem? (i := 10) rfl)
theorem q_731 : (Cond.methodLink RX3 94 yX3_gainOfAll) ∈ wsL_law := rl_31 _ (List.mem_of_getElem? (i := 11) rfl)
theorem q_732 : (Cond.instanceMethod yX3_gainOfAll) ∈ wsL_law := rl_31 _ (List.mem_of_getElem? (i := 12) rfl)
theorem q_733 : (Cond.selects RX3 yX3_gainOfAll yX3_gainOfAll) ∈ wsL_law := rl_31 _ (List.mem_of_getElem? (i := 13) rfl)
theorem q_734 : (Cond.code yX3_gainOfAll cX3_gainOfAll 4 (some .int)) ∈ wsL_law := rl_31 _ (List.mem_of_getElem? (i := 14) rfl)
theorem q_735 : (Cond.methodLink RX6 235 yJ6_bitCount_0f7a4) ∈ wsL_law := rl_31 _ (List.mem_of_getElem? (i := 15) rfl)
theorem q_736 : (Cond.methodLink RL 101 yX7_rakes) ∈ wsL_law := rl_31 _ (List.mem_of_getElem? (i := 16) rfl)
theorem q_737 : (Cond.instanceMethod yX7_rakes) ∈ wsL_law := rl_31 _ (List.mem_of_getElem? (i := 17) rfl)
theorem q_738 : (Cond.selects RX7 yX7_rakes yX7_rakes) ∈ wsL_law := rl_31 _ (List.mem_of_getElem? (i := 18) rfl)
theorem q_739 : (Cond.code yX7_rakes cX7_rakes 7 (some .int)) ∈ wsL_law := rl_31 _ (List.mem_of_getElem? (i := 19) rfl)
theorem q_740 : (Cond.methodLink RX7 222 yX7_ones) ∈ wsL_law := rl_31 _ (List.mem_of_getElem? (i := 20) rfl)
theorem q_741 : (Cond.static yX7_ones) ∈ wsL_law := rl_31 _ (List.mem_of_getElem? (i := 21) rfl)
theorem q_742 : (Cond.code yX7_ones cX7_ones 3 (some .int)) ∈ wsL_law := rl_31 _ (List.mem_of_getElem? (i := 22) rfl)
theorem q_743 : (Cond.methodLink RL 102 yX6_wards) ∈ wsL_law := rl_31 _ (List.mem_of_getElem? (i := 23) rfl)
theorem q_744 : (Cond.instanceMethod yX6_wards) ∈ wsL_law := rl_32 _ (List.mem_of_getElem? (i := 0) rfl)
theorem q_745 : (Cond.selects RX6 yX6_wards yX6_wards) ∈ wsL_law := rl_32 _ (List.mem_of_getElem? (i := 1) rfl)
theorem q_746 : (Cond.code yX6_wards cX6_wards 5 (some .int)) ∈ wsL_law := rl_32 _ (List.mem_of_getElem? (i := 2) rfl)
theorem q_747 : (Cond.methodLink RX6 240 yX3_bestCut) ∈ wsL_law := rl_32 _ (List.mem_of_getElem? (i := 3) rfl)
theorem q_748 : (Cond.instanceMethod yX3_bestCut) ∈ wsL_law := rl_32 _ (List.mem_of_getElem? (i := 4) rfl)
theorem q_749 : (Cond.selects RX3 yX3_bestCut yX3_bestCut) ∈ wsL_law := rl_32 _ (List.mem_of_getElem? (i := 5) rfl)
theorem q_750 : (Cond.code yX3_bestCut cX3_bestCut 8 (some .int)) ∈ wsL_law := rl_32 _ (List.mem_of_getElem? (i := 6) rfl)
theorem q_751 : (Cond.methodLink RX3 97 yX3_wardsOf) ∈ wsL_law := rl_32 _ (List.mem_of_getElem? (i := 7) rfl)
theorem q_752 : (Cond.static yX3_wardsOf) ∈ wsL_law := rl_32 _ (List.mem_of_getElem? (i := 8) rfl)
theorem q_753 : (Cond.code yX3_wardsOf cX3_wardsOf 4 (some .int)) ∈ wsL_law := rl_32 _ (List.mem_of_getElem? (i := 9) rfl)
theorem q_754 : (Cond.methodLink RX3 100 yX3_wardsLed) ∈ wsL_law := rl_32 _ (List.mem_of_getElem? (i := 10) rfl)
theorem q_755 : (Cond.instanceMethod yX3_wardsLed) ∈ wsL_law := rl_32 _ (List.mem_of_getElem? (i := 11) rfl)
theorem q_756 : (Cond.selects RX3 yX3_wardsLed yX3_wardsLed) ∈ wsL_law := rl_32 _ (List.mem_of_getElem? (i := 12) rfl)
theorem q_757 : (Cond.code yX3_wardsLed cX3_wardsLed 8 (some .int)) ∈ wsL_law := rl_32 _ (List.mem_of_getElem? (i := 13) rfl)
theorem q_758 : (Cond.methodLink RX3 103 yX3_gainBetween) ∈ wsL_law := rl_32 _ (List.mem_of_getElem? (i := 14) rfl)
theorem q_759 : (Cond.instanceMethod yX3_gainBetween) ∈ wsL_law := rl_32 _ (List.mem_of_getElem? (i := 15) rfl)
theorem q_760 : (Cond.selects RX3 yX3_gainBetween yX3_gainBetween) ∈ wsL_law := rl_32 _ (List.mem_of_getElem? (i := 16) rfl)
theorem q_761 : (Cond.code yX3_gainBetween cX3_gainBetween 5 (some .int)) ∈ wsL_law := rl_32 _ (List.mem_of_getElem? (i := 17) rfl)
theorem q_762 : (Cond.methodLink RX6 243 yX3_wardsLed) ∈ wsL_law := rl_32 _ (List.mem_of_getElem? (i := 18) rfl)
theorem q_763 : (Cond.methodLink RL 105 yX7_wards) ∈ wsL_law := rl_32 _ (List.mem_of_getElem? (i := 19) rfl)
theorem q_764 : (Cond.instanceMethod yX7_wards) ∈ wsL_law := rl_32 _ (List.mem_of_getElem? (i := 20) rfl)
theorem q_765 : (Cond.selects RX7 yX7_wards yX7_wards) ∈ wsL_law := rl_32 _ (List.mem_of_getElem? (i := 21) rfl)
theorem q_766 : (Cond.code yX7_wards cX7_wards 10 (some .int)) ∈ wsL_law := rl_32 _ (List.mem_of_getElem? (i := 22) rfl)
theorem q_767 : (Cond.methodLink RX7 225 yX7_ledBy) ∈ wsL_law := rl_32 _ (List.mem_of_getElem? (i := 23) rfl)
theorem q_768 : (Cond.instanceMethod yX7_ledBy) ∈ wsL_law := rl_33 _ (List.mem_of_getElem? (i := 0) rfl)
theorem q_769 : (Cond.selects RX7 yX7_ledBy yX7_ledBy) ∈ wsL_law := rl_33 _ (List.mem_of_getElem? (i := 1) rfl)
theorem q_770 : (Cond.code yX7_ledBy cX7_ledBy 5 (some .int)) ∈ wsL_law := rl_33 _ (List.mem_of_getElem? (i := 2) rfl)
theorem q_771 : (Cond.methodLink RL 106 yX6_decide) ∈ wsL_law := rl_33 _ (List.mem_of_getElem? (i := 3) rfl)
theorem q_772 : (Cond.instanceMethod yX6_decide) ∈ wsL_law := rl_33 _ (List.mem_of_getElem? (i := 4) rfl)
theorem q_773 : (Cond.selects RX6 yX6_decide yX6_decide) ∈ wsL_law := rl_33 _ (List.mem_of_getElem? (i := 5) rfl)
theorem q_774 : (Cond.code yX6_decide cX6_decide 1 (some .int)) ∈ wsL_law := rl_33 _ (List.mem_of_getElem? (i := 6) rfl)
theorem q_775 : (Cond.methodLink RX6 246 yX2_deciding) ∈ wsL_law := rl_33 _ (List.mem_of_getElem? (i := 7) rfl)
theorem q_776 : (Cond.instanceMethod yX2_deciding) ∈ wsL_law := rl_33 _ (List.mem_of_getElem? (i := 8) rfl)
theorem q_777 : (Cond.selects RX2 yX2_deciding yX2_deciding) ∈ wsL_law := rl_33 _ (List.mem_of_getElem? (i := 9) rfl)
theorem q_778 : (Cond.code yX2_deciding cX2_deciding 6 (some .int)) ∈ wsL_law := rl_33 _ (List.mem_of_getElem? (i := 10) rfl)
theorem q_779 : (Cond.methodLink RX2 107 yX2_leadOf) ∈ wsL_law := rl_33 _ (List.mem_of_getElem? (i := 11) rfl)
theorem q_780 : (Cond.methodLink RX2 110 yX2_leader) ∈ wsL_law := rl_33 _ (List.mem_of_getElem? (i := 12) rfl)
theorem q_781 : (Cond.static yX2_leader) ∈ wsL_law := rl_33 _ (List.mem_of_getElem? (i := 13) rfl)
theorem q_782 : (Cond.code yX2_leader cX2_leader 1 (some .int)) ∈ wsL_law := rl_33 _ (List.mem_of_getElem? (i := 14) rfl)
theorem q_783 : (Cond.methodLink RL 109 yX7_decide) ∈ wsL_law := rl_33 _ (List.mem_of_getElem? (i := 15) rfl)
theorem q_784 : (Cond.instanceMethod yX7_decide) ∈ wsL_law := rl_33 _ (List.mem_of_getElem? (i := 16) rfl)
theorem q_785 : (Cond.selects RX7 yX7_decide yX7_decide) ∈ wsL_law := rl_33 _ (List.mem_of_getElem? (i := 17) rfl)
theorem q_786 : (Cond.code yX7_decide cX7_decide 4 (some .int)) ∈ wsL_law := rl_33 _ (List.mem_of_getElem? (i := 18) rfl)
theorem q_787 : (Cond.methodLink RX7 229 yX7_sign) ∈ wsL_law := rl_33 _ (List.mem_of_getElem? (i := 19) rfl)
theorem q_788 : (Cond.static yX7_sign) ∈ wsL_law := rl_33 _ (List.mem_of_getElem? (i := 20) rfl)
theorem q_789 : (Cond.code yX7_sign cX7_sign 1 (some .int)) ∈ wsL_law := rl_33 _ (List.mem_of_getElem? (i := 21) rfl)
theorem q_790 : (Cond.methodLink RL 110 yX6_grown) ∈ wsL_law := rl_33 _ (List.mem_of_getElem? (i := 22) rfl)
theorem q_791 : (Cond.instanceMethod yX6_grown) ∈ wsL_law := rl_33 _ (List.mem_of_getElem? (i := 23) rfl)
theorem q_792 : (Cond.selects RX6 yX6_grown yX6_grown) ∈ wsL_law := rl_34 _ (List.mem_of_getElem? (i := 0) rfl)
theorem q_793 : (Cond.code yX6_grown cX6_grown 6 (some .int)) ∈ wsL_law := rl_34 _ (List.mem_of_getElem? (i := 1) rfl)
theorem q_794 : (Cond.methodLink RX6 249 yX3_hear) ∈ wsL_law := rl_34 _ (List.mem_of_getElem? (i := 2) rfl)
theorem q_795 : (Cond.instanceMethod yX3_hear) ∈ wsL_law := rl_34 _ (List.mem_of_getElem? (i := 3) rfl)
theorem q_796 : (Cond.selects RX3 yX3_hear yX3_hear) ∈ wsL_law := rl_34 _ (List.mem_of_getElem? (i := 4) rfl)
theorem q_797 : (Cond.code yX3_hear cX3_hear 6 none) ∈ wsL_law := rl_34 _ (List.mem_of_getElem? (i := 5) rfl)
theorem q_798 : (Cond.methodLink RX3 28 yX4_itemOf) ∈ wsL_law := rl_34 _ (List.mem_of_getElem? (i := 6) rfl)
theorem q_799 : (Cond.instanceMethod yX4_itemOf) ∈ wsL_law := rl_34 _ (List.mem_of_getElem? (i := 7) rfl)
theorem q_800 : (Cond.selects RX4 yX4_itemOf yX4_itemOf) ∈ wsL_law := rl_34 _ (List.mem_of_getElem? (i := 8) rfl)
theorem q_801 : (Cond.code yX4_itemOf cX4_itemOf 3 (some .int)) ∈ wsL_law := rl_34 _ (List.mem_of_getElem? (i := 9) rfl)
theorem q_802 : (Cond.methodLink RX6 253 yX3_grownBy) ∈ wsL_law := rl_34 _ (List.mem_of_getElem? (i := 10) rfl)
theorem q_803 : (Cond.instanceMethod yX3_grownBy) ∈ wsL_law := rl_34 _ (List.mem_of_getElem? (i := 11) rfl)
theorem q_804 : (Cond.selects RX3 yX3_grownBy yX3_grownBy) ∈ wsL_law := rl_34 _ (List.mem_of_getElem? (i := 12) rfl)
theorem q_805 : (Cond.code yX3_grownBy cX3_grownBy 9 (some .int)) ∈ wsL_law := rl_34 _ (List.mem_of_getElem? (i := 13) rfl)
theorem q_806 : (Cond.methodLink RX3 106 yX2_kindTo) ∈ wsL_law := rl_34 _ (List.mem_of_getElem? (i := 14) rfl)
theorem q_807 : (Cond.instanceMethod yX2_kindTo) ∈ wsL_law := rl_34 _ (List.mem_of_getElem? (i := 15) rfl)
theorem q_808 : (Cond.selects RX2 yX2_kindTo yX2_kindTo) ∈ wsL_law := rl_34 _ (List.mem_of_getElem? (i := 16) rfl)
theorem q_809 : (Cond.code yX2_kindTo cX2_kindTo 3 none) ∈ wsL_law := rl_34 _ (List.mem_of_getElem? (i := 17) rfl)
theorem q_810 : (Cond.methodLink RX3 109 yX2_warmTo) ∈ wsL_law := rl_34 _ (List.mem_of_getElem? (i := 18) rfl)
theorem q_811 : (Cond.methodLink RX3 112 yX2_lotTo) ∈ wsL_law := rl_34 _ (List.mem_of_getElem? (i := 19) rfl)
theorem q_812 : (Cond.instanceMethod yX2_lotTo) ∈ wsL_law := rl_34 _ (List.mem_of_getElem? (i := 20) rfl)
theorem q_813 : (Cond.selects RX2 yX2_lotTo yX2_lotTo) ∈ wsL_law := rl_34 _ (List.mem_of_getElem? (i := 21) rfl)
theorem q_814 : (Cond.code yX2_lotTo cX2_lotTo 2 none) ∈ wsL_law := rl_34 _ (List.mem_of_getElem? (i := 22) rfl)
theorem q_815 : (Cond.methodLink RX3 116 yX3_growsAsTold) ∈ wsL_law := rl_34 _ (List.mem_of_getElem? (i := 23) rfl)
theorem q_816 : (Cond.instanceMethod yX3_growsAsTold) ∈ wsL_law := rl_35 _ (List.mem_of_getElem? (i := 0) rfl)
theorem q_817 : (Cond.selects RX3 yX3_growsAsTold yX3_growsAsTold) ∈ wsL_law := rl_35 _ (List.mem_of_getElem? (i := 1) rfl)
theorem q_818 : (Cond.code yX3_growsAsTold cX3_growsAsTold 4 (some .boolean)) ∈ wsL_law := rl_35 _ (List.mem_of_getElem? (i := 2) rfl)
theorem q_819 : (Cond.methodLink RX3 119 yX2_stockOf) ∈ wsL_law := rl_35 _ (List.mem_of_getElem? (i := 3) rfl)
theorem q_820 : (Cond.methodLink RL 113 yX7_grown) ∈ wsL_law := rl_35 _ (List.mem_of_getElem? (i := 4) rfl)
theorem q_821 : (Cond.instanceMethod yX7_grown) ∈ wsL_law := rl_35 _ (List.mem_of_getElem? (i := 5) rfl)
theorem q_822 : (Cond.selects RX7 yX7_grown yX7_grown) ∈ wsL_law := rl_35 _ (List.mem_of_getElem? (i := 6) rfl)
theorem q_823 : (Cond.code yX7_grown cX7_grown 10 (some .int)) ∈ wsL_law := rl_35 _ (List.mem_of_getElem? (i := 7) rfl)
theorem q_824 : (Cond.constantLong RX7 232 (12)) ∈ wsL_law := rl_35 _ (List.mem_of_getElem? (i := 8) rfl)
theorem q_825 : (Cond.methodLink RX7 234 yX7_lacks) ∈ wsL_law := rl_35 _ (List.mem_of_getElem? (i := 9) rfl)
theorem q_826 : (Cond.instanceMethod yX7_lacks) ∈ wsL_law := rl_35 _ (List.mem_of_getElem? (i := 10) rfl)
theorem q_827 : (Cond.selects RX7 yX7_lacks yX7_lacks) ∈ wsL_law := rl_35 _ (List.mem_of_getElem? (i := 11) rfl)
theorem q_828 : (Cond.code yX7_lacks cX7_lacks 4 (some .int)) ∈ wsL_law := rl_35 _ (List.mem_of_getElem? (i := 12) rfl)
theorem q_829 : (Cond.methodLink RX7 237 yX7_isSo) ∈ wsL_law := rl_35 _ (List.mem_of_getElem? (i := 13) rfl)
theorem q_830 : (Cond.instanceMethod yX7_isSo) ∈ wsL_law := rl_35 _ (List.mem_of_getElem? (i := 14) rfl)
theorem q_831 : (Cond.selects RX7 yX7_isSo yX7_isSo) ∈ wsL_law := rl_35 _ (List.mem_of_getElem? (i := 15) rfl)
theorem q_832 : (Cond.code yX7_isSo cX7_isSo 6 (some .boolean)) ∈ wsL_law := rl_35 _ (List.mem_of_getElem? (i := 16) rfl)
theorem q_833 : (Cond.methodLink RL 114 yX6_lain) ∈ wsL_law := rl_35 _ (List.mem_of_getElem? (i := 17) rfl)
theorem q_834 : (Cond.instanceMethod yX6_lain) ∈ wsL_law := rl_35 _ (List.mem_of_getElem? (i := 18) rfl)
theorem q_835 : (Cond.selects RX6 yX6_lain yX6_lain) ∈ wsL_law := rl_35 _ (List.mem_of_getElem? (i := 19) rfl)
theorem q_836 : (Cond.code yX6_lain cX6_lain 4 (some .int)) ∈ wsL_law := rl_35 _ (List.mem_of_getElem? (i := 20) rfl)
theorem q_837 : (Cond.methodLink RX6 257 yX3_lainBy) ∈ wsL_law := rl_35 _ (List.mem_of_getElem? (i := 21) rfl)
theorem q_838 : (Cond.instanceMethod yX3_lainBy) ∈ wsL_law := rl_35 _ (List.mem_of_getElem? (i := 22) rfl)
theorem q_839 : (Cond.selects RX3 yX3_lainBy yX3_lainBy) ∈ wsL_law := rl_35 _ (List.mem_of_getElem? (i := 23) rfl)
theorem q_840 : (Cond.code yX3_lainBy cX3_lainBy 5 (some .int)) ∈ wsL_law := rl_36 _ (List.mem_of_getElem? (i := 0) rfl)
theorem q_841 : (Cond.methodLink RX3 122 yX3_liesAsTold) ∈ wsL_law := rl_36 _ (List.mem_of_getElem? (i := 1) rfl)
theorem q_842 : (Cond.instanceMethod yX3_liesAsTold) ∈ wsL_law := rl_36 _ (List.mem_of_getElem? (i := 2) rfl)
theorem q_843 : (Cond.selects RX3 yX3_liesAsTold yX3_liesAsTold) ∈ wsL_law := rl_36 _ (List.mem_of_getElem? (i := 3) rfl)
theorem q_844 : (Cond.code yX3_liesAsTold cX3_liesAsTold 2 (some .boolean)) ∈ wsL_law := rl_36 _ (List.mem_of_getElem? (i := 4) rfl)
theorem q_845 : (Cond.methodLink RL 117 yX7_lain) ∈ wsL_law := rl_36 _ (List.mem_of_getElem? (i := 5) rfl)
theorem q_846 : (Cond.instanceMethod yX7_lain) ∈ wsL_law := rl_36 _ (List.mem_of_getElem? (i := 6) rfl)
theorem q_847 : (Cond.selects RX7 yX7_lain yX7_lain) ∈ wsL_law := rl_36 _ (List.mem_of_getElem? (i := 7) rfl)
theorem q_848 : (Cond.code yX7_lain cX7_lain 10 (some .int)) ∈ wsL_law := rl_36 _ (List.mem_of_getElem? (i := 8) rfl)
theorem q_849 : (Cond.methodLink RL 118 yX6_flood) ∈ wsL_law := rl_36 _ (List.mem_of_getElem? (i := 9) rfl)
theorem q_850 : (Cond.instanceMethod yX6_flood) ∈ wsL_law := rl_36 _ (List.mem_of_getElem? (i := 10) rfl)
theorem q_851 : (Cond.selects RX6 yX6_flood yX6_flood) ∈ wsL_law := rl_36 _ (List.mem_of_getElem? (i := 11) rfl)
theorem q_852 : (Cond.code yX6_flood cX6_flood 10 (some .long)) ∈ wsL_law := rl_36 _ (List.mem_of_getElem? (i := 12) rfl)
theorem q_853 : (Cond.constantLong RX6 260 (-1000002)) ∈ wsL_law := rl_36 _ (List.mem_of_getElem? (i := 13) rfl)
theorem q_854 : (Cond.constantLong RX6 262 (-1000001)) ∈ wsL_law := rl_36 _ (List.mem_of_getElem? (i := 14) rfl)
theorem q_855 : (Cond.methodLink RX6 264 yX3_casesLed) ∈ wsL_law := rl_36 _ (List.mem_of_getElem? (i := 15) rfl)
theorem q_856 : (Cond.instanceMethod yX3_casesLed) ∈ wsL_law := rl_36 _ (List.mem_of_getElem? (i := 16) rfl)
theorem q_857 : (Cond.selects RX3 yX3_casesLed yX3_casesLed) ∈ wsL_law := rl_36 _ (List.mem_of_getElem? (i := 17) rfl)
theorem q_858 : (Cond.code yX3_casesLed cX3_casesLed 8 (some .long)) ∈ wsL_law := rl_36 _ (List.mem_of_getElem? (i := 18) rfl)
theorem q_859 : (Cond.methodLink RX3 128 yX3_casesOf) ∈ wsL_law := rl_36 _ (List.mem_of_getElem? (i := 19) rfl)
theorem q_860 : (Cond.static yX3_casesOf) ∈ wsL_law := rl_36 _ (List.mem_of_getElem? (i := 20) rfl)
theorem q_861 : (Cond.code yX3_casesOf cX3_casesOf 6 (some .long)) ∈ wsL_law := rl_36 _ (List.mem_of_getElem? (i := 21) rfl)
theorem q_862 : (Cond.methodLink RX6 268 yX3_allCases) ∈ wsL_law := rl_36 _ (List.mem_of_getElem? (i := 22) rfl)
theorem q_863 : (Cond.instanceMethod yX3_allCases) ∈ wsL_law := rl_36 _ (List.mem_of_getElem? (i := 23) rfl)
theorem q_864 : (Cond.selects RX3 yX3_allCases yX3_allCases) ∈ wsL_law := rl_37 _ (List.mem_of_getElem? (i := 0) rfl)
theorem q_865 : (Cond.code yX3_allCases cX3_allCases 5 (some .long)) ∈ wsL_law := rl_37 _ (List.mem_of_getElem? (i := 1) rfl)
theorem q_866 : (Cond.constantLong RX3 126 (10)) ∈ wsL_law := rl_37 _ (List.mem_of_getElem? (i := 2) rfl)
theorem q_867 : (Cond.methodLink RX6 272 yX6_commonDivisor) ∈ wsL_law := rl_37 _ (List.mem_of_getElem? (i := 3) rfl)
theorem q_868 : (Cond.static yX6_commonDivisor) ∈ wsL_law := rl_37 _ (List.mem_of_getElem? (i := 4) rfl)
theorem q_869 : (Cond.code yX6_commonDivisor cX6_commonDivisor 7 (some .long)) ∈ wsL_law := rl_37 _ (List.mem_of_getElem? (i := 5) rfl)
theorem q_870 : (Cond.methodLink RL 122 yX7_flood) ∈ wsL_law := rl_37 _ (List.mem_of_getElem? (i := 6) rfl)
theorem q_871 : (Cond.instanceMethod yX7_flood) ∈ wsL_law := rl_37 _ (List.mem_of_getElem? (i := 7) rfl)
theorem q_872 : (Cond.selects RX7 yX7_flood yX7_flood) ∈ wsL_law := rl_37 _ (List.mem_of_getElem? (i := 8) rfl)
theorem q_873 : (Cond.code yX7_flood cX7_flood 15 (some .long)) ∈ wsL_law := rl_37 _ (List.mem_of_getElem? (i := 9) rfl)
theorem q_874 : (Cond.constantLong RX7 241 (-1000002)) ∈ wsL_law := rl_37 _ (List.mem_of_getElem? (i := 10) rfl)
theorem q_875 : (Cond.constantLong RX7 243 (10)) ∈ wsL_law := rl_37 _ (List.mem_of_getElem? (i := 11) rfl)
theorem q_876 : (Cond.constantLong RX7 245 (-1000001)) ∈ wsL_law := rl_37 _ (List.mem_of_getElem? (i := 12) rfl)
theorem q_877 : (Cond.methodLink RL 123 yX6_drawn) ∈ wsL_law := rl_37 _ (List.mem_of_getElem? (i := 13) rfl)
theorem q_878 : (Cond.instanceMethod yX6_drawn) ∈ wsL_law := rl_37 _ (List.mem_of_getElem? (i := 14) rfl)
theorem q_879 : (Cond.selects RX6 yX6_drawn yX6_drawn) ∈ wsL_law := rl_37 _ (List.mem_of_getElem? (i := 15) rfl)
theorem q_880 : (Cond.code yX6_drawn cX6_drawn 4 (some .int)) ∈ wsL_law := rl_37 _ (List.mem_of_getElem? (i := 16) rfl)
theorem q_881 : (Cond.constant RX6 276 (999999)) ∈ wsL_law := rl_37 _ (List.mem_of_getElem? (i := 17) rfl)
theorem q_882 : (Cond.methodLink RX6 277 yX3_afterYears) ∈ wsL_law := rl_37 _ (List.mem_of_getElem? (i := 18) rfl)
theorem q_883 : (Cond.instanceMethod yX3_afterYears) ∈ wsL_law := rl_37 _ (List.mem_of_getElem? (i := 19) rfl)
theorem q_884 : (Cond.selects RX3 yX3_afterYears yX3_afterYears) ∈ wsL_law := rl_37 _ (List.mem_of_getElem? (i := 20) rfl)
theorem q_885 : (Cond.code yX3_afterYears cX3_afterYears 8 (some (.object "CockleSquires$Flat"))) ∈ wsL_law := rl_37 _ (List.mem_of_getElem? (i := 21) rfl)
theorem q_886 : (Cond.constantLong RX3 132 (16807)) ∈ wsL_law := rl_37 _ (List.mem_of_getElem? (i := 22) rfl)
theorem q_887 : (Cond.constantLong RX3 134 (2147483647)) ∈ wsL_law := rl_37 _ (List.mem_of_getElem? (i := 23) rfl)
theorem q_888 : (Cond.constantLong RX3 136 (2)) ∈ wsL_law := rl_38 _ (List.mem_of_getElem? (i := 0) rfl)
theorem q_889 : (Cond.constantLong RX3 138 (9)) ∈ wsL_law := rl_38 _ (List.mem_of_getElem? (i := 1) rfl)
theorem q_890 : (Cond.constantLong RX3 140 (3)) ∈ wsL_law := rl_38 _ (List.mem_of_getElem? (i := 2) rfl)
theorem q_891 : (Cond.methodLink RX3 142 yX2_rakeUp) ∈ wsL_law := rl_38 _ (List.mem_of_getElem? (i := 3) rfl)
theorem q_892 : (Cond.methodLink RL 126 yX7_drawn) ∈ wsL_law := rl_38 _ (List.mem_of_getElem? (i := 4) rfl)
theorem q_893 : (Cond.instanceMethod yX7_drawn) ∈ wsL_law := rl_38 _ (List.mem_of_getElem? (i := 5) rfl)
theorem q_894 : (Cond.selects RX7 yX7_drawn yX7_drawn) ∈ wsL_law := rl_38 _ (List.mem_of_getElem? (i := 6) rfl)
theorem q_895 : (Cond.code yX7_drawn cX7_drawn 8 (some .int)) ∈ wsL_law := rl_38 _ (List.mem_of_getElem? (i := 7) rfl)
theorem q_896 : (Cond.constantLong RX7 247 (999999)) ∈ wsL_law := rl_38 _ (List.mem_of_getElem? (i := 8) rfl)
theorem q_897 : (Cond.constantLong RX7 249 (16807)) ∈ wsL_law := rl_38 _ (List.mem_of_getElem? (i := 9) rfl)
theorem q_898 : (Cond.constantLong RX7 251 (2147483647)) ∈ wsL_law := rl_38 _ (List.mem_of_getElem? (i := 10) rfl)
theorem q_899 : (Cond.methodLink RL 127 yX6_image) ∈ wsL_law := rl_38 _ (List.mem_of_getElem? (i := 11) rfl)
theorem q_900 : (Cond.instanceMethod yX6_image) ∈ wsL_law := rl_38 _ (List.mem_of_getElem? (i := 12) rfl)
theorem q_901 : (Cond.selects RX6 yX6_image yX6_image) ∈ wsL_law := rl_38 _ (List.mem_of_getElem? (i := 13) rfl)
theorem q_902 : (Cond.code yX6_image cX6_image 3 (some .int)) ∈ wsL_law := rl_38 _ (List.mem_of_getElem? (i := 14) rfl)
theorem q_903 : (Cond.methodLink RL 130 yX7_image) ∈ wsL_law := rl_38 _ (List.mem_of_getElem? (i := 15) rfl)
theorem q_904 : (Cond.instanceMethod yX7_image) ∈ wsL_law := rl_38 _ (List.mem_of_getElem? (i := 16) rfl)
theorem q_905 : (Cond.selects RX7 yX7_image yX7_image) ∈ wsL_law := rl_38 _ (List.mem_of_getElem? (i := 17) rfl)
theorem q_906 : (Cond.code yX7_image cX7_image 3 (some .int)) ∈ wsL_law := rl_38 _ (List.mem_of_getElem? (i := 18) rfl)
theorem q_907 : (Cond.methodLink RL 131 yX6_restore) ∈ wsL_law := rl_38 _ (List.mem_of_getElem? (i := 19) rfl)
theorem q_908 : (Cond.instanceMethod yX6_restore) ∈ wsL_law := rl_38 _ (List.mem_of_getElem? (i := 20) rfl)
theorem q_909 : (Cond.selects RX6 yX6_restore yX6_restore) ∈ wsL_law := rl_38 _ (List.mem_of_getElem? (i := 21) rfl)
theorem q_910 : (Cond.code yX6_restore cX6_restore 3 (some .int)) ∈ wsL_law := rl_38 _ (List.mem_of_getElem? (i := 22) rfl)
theorem q_911 : (Cond.methodLink RL 134 yX7_restore) ∈ wsL_law := rl_38 _ (List.mem_of_getElem? (i := 23) rfl)
theorem q_912 : (Cond.instanceMethod yX7_restore) ∈ wsL_law := rl_39 _ (List.mem_of_getElem? (i := 0) rfl)
theorem q_913 : (Cond.selects RX7 yX7_restore yX7_restore) ∈ wsL_law := rl_39 _ (List.mem_of_getElem? (i := 1) rfl)
theorem q_914 : (Cond.code yX7_restore cX7_restore 3 (some .int)) ∈ wsL_law := rl_39 _ (List.mem_of_getElem? (i := 2) rfl)
theorem q_915 : (Cond.methodLink RL 135 yX6_kind) ∈ wsL_law := rl_39 _ (List.mem_of_getElem? (i := 3) rfl)
theorem q_916 : (Cond.instanceMethod yX6_kind) ∈ wsL_law := rl_39 _ (List.mem_of_getElem? (i := 4) rfl)
theorem q_917 : (Cond.selects RX6 yX6_kind yX6_kind) ∈ wsL_law := rl_39 _ (List.mem_of_getElem? (i := 5) rfl)
theorem q_918 : (Cond.code yX6_kind cX6_kind 2 (some .int)) ∈ wsL_law := rl_39 _ (List.mem_of_getElem? (i := 6) rfl)
theorem q_919 : (Cond.methodLink RX6 281 yX2_kindOf) ∈ wsL_law := rl_39 _ (List.mem_of_getElem? (i := 7) rfl)
theorem q_920 : (Cond.instanceMethod yX2_kindOf) ∈ wsL_law := rl_39 _ (List.mem_of_getElem? (i := 8) rfl)
theorem q_921 : (Cond.selects RX2 yX2_kindOf yX2_kindOf) ∈ wsL_law := rl_39 _ (List.mem_of_getElem? (i := 9) rfl)
theorem q_922 : (Cond.code yX2_kindOf cX2_kindOf 2 (some .int)) ∈ wsL_law := rl_39 _ (List.mem_of_getElem? (i := 10) rfl)
theorem q_923 : (Cond.methodLink RL 138 yX7_kind) ∈ wsL_law := rl_39 _ (List.mem_of_getElem? (i := 11) rfl)
theorem q_924 : (Cond.instanceMethod yX7_kind) ∈ wsL_law := rl_39 _ (List.mem_of_getElem? (i := 12) rfl)
theorem q_925 : (Cond.selects RX7 yX7_kind yX7_kind) ∈ wsL_law := rl_39 _ (List.mem_of_getElem? (i := 13) rfl)
theorem q_926 : (Cond.code yX7_kind cX7_kind 2 (some .int)) ∈ wsL_law := rl_39 _ (List.mem_of_getElem? (i := 14) rfl)
theorem q_927 : (Cond.methodLink RL 139 yX6_as) ∈ wsL_law := rl_39 _ (List.mem_of_getElem? (i := 15) rfl)
theorem q_928 : (Cond.instanceMethod yX6_as) ∈ wsL_law := rl_39 _ (List.mem_of_getElem? (i := 16) rfl)
theorem q_929 : (Cond.selects RX6 yX6_as yX6_as) ∈ wsL_law := rl_39 _ (List.mem_of_getElem? (i := 17) rfl)
theorem q_930 : (Cond.code yX6_as cX6_as 3 (some .int)) ∈ wsL_law := rl_39 _ (List.mem_of_getElem? (i := 18) rfl)
theorem q_931 : (Cond.methodLink RX6 284 yX1_isSuch) ∈ wsL_law := rl_39 _ (List.mem_of_getElem? (i := 19) rfl)
theorem q_932 : (Cond.static yX1_isSuch) ∈ wsL_law := rl_39 _ (List.mem_of_getElem? (i := 20) rfl)
theorem q_933 : (Cond.code yX1_isSuch cX1_isSuch 4 (some .boolean)) ∈ wsL_law := rl_39 _ (List.mem_of_getElem? (i := 21) rfl)
theorem q_934 : (Cond.fieldLink RX1 19 "CockleSquires$Asking" "PARENTS" "[I") ∈ wsL_law := rl_39 _ (List.mem_of_getElem? (i := 22) rfl)
theorem q_935 : (Cond.methodLink RL 142 yX7_as) ∈ wsL_law := rl_39 _ (List.mem_of_getElem? (i := 23) rfl)
theorem q_936 : (Cond.instanceMethod yX7_as) ∈ wsL_law := rl_40 _ (List.mem_of_getElem? (i := 0) rfl)
theorem q_937 : (Cond.selects RX7 yX7_as yX7_as) ∈ wsL_law := rl_40 _ (List.mem_of_getElem? (i := 1) rfl)
theorem q_938 : (Cond.code yX7_as cX7_as 3 (some .int)) ∈ wsL_law := rl_40 _ (List.mem_of_getElem? (i := 2) rfl)
theorem q_939 : (Cond.methodLink RX7 253 yX7_isKind) ∈ wsL_law := rl_40 _ (List.mem_of_getElem? (i := 3) rfl)
theorem q_940 : (Cond.static yX7_isKind) ∈ wsL_law := rl_40 _ (List.mem_of_getElem? (i := 4) rfl)
theorem q_941 : (Cond.code yX7_isKind cX7_isKind 2 (some .boolean)) ∈ wsL_law := rl_40 _ (List.mem_of_getElem? (i := 5) rfl)
theorem q_942 : (Cond.methodLink RL 143 yX6_ask) ∈ wsL_law := rl_40 _ (List.mem_of_getElem? (i := 6) rfl)
theorem q_943 : (Cond.instanceMethod yX6_ask) ∈ wsL_law := rl_40 _ (List.mem_of_getElem? (i := 7) rfl)
theorem q_944 : (Cond.selects RX6 yX6_ask yX6_ask) ∈ wsL_law := rl_40 _ (List.mem_of_getElem? (i := 8) rfl)
theorem q_945 : (Cond.code yX6_ask cX6_ask 3 (some .int)) ∈ wsL_law := rl_40 _ (List.mem_of_getElem? (i := 9) rfl)
theorem q_946 : (Cond.methodLink RX6 288 yX1_answer) ∈ wsL_law := rl_40 _ (List.mem_of_getElem? (i := 10) rfl)
theorem q_947 : (Cond.instanceMethod yX1_answer) ∈ wsL_law := rl_40 _ (List.mem_of_getElem? (i := 11) rfl)
theorem q_948 : (Cond.selects RX1 yX1_answer yX1_answer) ∈ wsL_law := rl_40 _ (List.mem_of_getElem? (i := 12) rfl)
theorem q_949 : (Cond.code yX1_answer cX1_answer 5 (some .int)) ∈ wsL_law := rl_40 _ (List.mem_of_getElem? (i := 13) rfl)
theorem q_950 : (Cond.methodLink RX1 26 yX2_kindOf) ∈ wsL_law := rl_40 _ (List.mem_of_getElem? (i := 14) rfl)
theorem q_951 : (Cond.methodLink RX1 32 yX1_sizeBody) ∈ wsL_law := rl_40 _ (List.mem_of_getElem? (i := 15) rfl)
theorem q_952 : (Cond.static yX1_sizeBody) ∈ wsL_law := rl_40 _ (List.mem_of_getElem? (i := 16) rfl)
theorem q_953 : (Cond.code yX1_sizeBody cX1_sizeBody 1 (some .int)) ∈ wsL_law := rl_40 _ (List.mem_of_getElem? (i := 17) rfl)
theorem q_954 : (Cond.fieldLink RX1 43 "CockleSquires$Asking" "SIZE_BODIES" "[I") ∈ wsL_law := rl_40 _ (List.mem_of_getElem? (i := 18) rfl)
theorem q_955 : (Cond.methodLink RX1 35 yX1_markBody) ∈ wsL_law := rl_40 _ (List.mem_of_getElem? (i := 19) rfl)
theorem q_956 : (Cond.static yX1_markBody) ∈ wsL_law := rl_40 _ (List.mem_of_getElem? (i := 20) rfl)
theorem q_957 : (Cond.code yX1_markBody cX1_markBody 1 (some .int)) ∈ wsL_law := rl_40 _ (List.mem_of_getElem? (i := 21) rfl)
theorem q_958 : (Cond.fieldLink RX1 46 "CockleSquires$Asking" "MARK_BODIES" "[I") ∈ wsL_law := rl_40 _ (List.mem_of_getElem? (i := 22) rfl)
theorem q_959 : (Cond.methodLink RX1 38 yX1_give) ∈ wsL_law := rl_40 _ (List.mem_of_getElem? (i := 23) rfl)
theorem q_960 : (Cond.static yX1_give) ∈ wsL_law := rl_41 _ (List.mem_of_getElem? (i := 0) rfl)
theorem q_961 : (Cond.code yX1_give cX1_give 7 (some .int)) ∈ wsL_law := rl_41 _ (List.mem_of_getElem? (i := 1) rfl)
theorem q_962 : (Cond.methodLink RX1 49 yX1_leave) ∈ wsL_law := rl_41 _ (List.mem_of_getElem? (i := 2) rfl)
theorem q_963 : (Cond.instanceMethod yX1_leave) ∈ wsL_law := rl_41 _ (List.mem_of_getElem? (i := 3) rfl)
theorem q_964 : (Cond.selects RX1 yX1_leave yX1_leave) ∈ wsL_law := rl_41 _ (List.mem_of_getElem? (i := 4) rfl)
theorem q_965 : (Cond.code yX1_leave cX1_leave 2 none) ∈ wsL_law := rl_41 _ (List.mem_of_getElem? (i := 5) rfl)
theorem q_966 : (Cond.methodLink RX1 53 yX2_stockOf) ∈ wsL_law := rl_41 _ (List.mem_of_getElem? (i := 6) rfl)
theorem q_967 : (Cond.methodLink RX1 56 yX2_warmOf) ∈ wsL_law := rl_41 _ (List.mem_of_getElem? (i := 7) rfl)
theorem q_968 : (Cond.methodLink RL 146 yX7_ask) ∈ wsL_law := rl_41 _ (List.mem_of_getElem? (i := 8) rfl)
theorem q_969 : (Cond.instanceMethod yX7_ask) ∈ wsL_law := rl_41 _ (List.mem_of_getElem? (i := 9) rfl)
theorem q_970 : (Cond.selects RX7 yX7_ask yX7_ask) ∈ wsL_law := rl_41 _ (List.mem_of_getElem? (i := 10) rfl)
theorem q_971 : (Cond.code yX7_ask cX7_ask 3 (some .int)) ∈ wsL_law := rl_41 _ (List.mem_of_getElem? (i := 11) rfl)
theorem q_972 : (Cond.fieldLink RX7 256 "CockleSquiresModel" "traced" "I") ∈ wsL_law := rl_41 _ (List.mem_of_getElem? (i := 12) rfl)
theorem q_973 : (Cond.methodLink RX7 280 yX7_sizeOf) ∈ wsL_law := rl_41 _ (List.mem_of_getElem? (i := 13) rfl)
theorem q_974 : (Cond.instanceMethod yX7_sizeOf) ∈ wsL_law := rl_41 _ (List.mem_of_getElem? (i := 14) rfl)
theorem q_975 : (Cond.selects RX7 yX7_sizeOf yX7_sizeOf) ∈ wsL_law := rl_41 _ (List.mem_of_getElem? (i := 15) rfl)
theorem q_976 : (Cond.code yX7_sizeOf cX7_sizeOf 3 (some .int)) ∈ wsL_law := rl_41 _ (List.mem_of_getElem? (i := 16) rfl)
theorem q_977 : (Cond.methodLink RX7 259 yX7_begin) ∈ wsL_law := rl_41 _ (List.mem_of_getElem? (i := 17) rfl)
theorem q_978 : (Cond.instanceMethod yX7_begin) ∈ wsL_law := rl_41 _ (List.mem_of_getElem? (i := 18) rfl)
theorem q_979 : (Cond.selects RX7 yX7_begin yX7_begin) ∈ wsL_law := rl_41 _ (List.mem_of_getElem? (i := 19) rfl)
theorem q_980 : (Cond.code yX7_begin cX7_begin 2 none) ∈ wsL_law := rl_41 _ (List.mem_of_getElem? (i := 20) rfl)
theorem q_981 : (Cond.methodLink RX7 277 yX7_commonSize) ∈ wsL_law := rl_41 _ (List.mem_of_getElem? (i := 21) rfl)
theorem q_982 : (Cond.instanceMethod yX7_commonSize) ∈ wsL_law := rl_41 _ (List.mem_of_getElem? (i := 22) rfl)
theorem q_983 : (Cond.selects RX7 yX7_commonSize yX7_commonSize) ∈ wsL_law := rl_41 _ (List.mem_of_getElem? (i := 23) rfl)
theorem q_984 : (Cond.code yX7_commonSize cX7_commonSize 3 (some .int)) ∈ wsL_law := rl_42 _ (List.mem_of_getElem? (i := 0) rfl)
theorem q_985 : (Cond.methodLink RX7 262 yX7_lent) ∈ wsL_law := rl_42 _ (List.mem_of_getElem? (i := 1) rfl)
theorem q_986 : (Cond.instanceMethod yX7_lent) ∈ wsL_law := rl_42 _ (List.mem_of_getElem? (i := 2) rfl)
theorem q_987 : (Cond.selects RX7 yX7_lent yX7_lent) ∈ wsL_law := rl_42 _ (List.mem_of_getElem? (i := 3) rfl)
theorem q_988 : (Cond.code yX7_lent cX7_lent 3 (some .int)) ∈ wsL_law := rl_42 _ (List.mem_of_getElem? (i := 4) rfl)
theorem q_989 : (Cond.methodLink RX7 274 yX7_markOf) ∈ wsL_law := rl_42 _ (List.mem_of_getElem? (i := 5) rfl)
theorem q_990 : (Cond.instanceMethod yX7_markOf) ∈ wsL_law := rl_42 _ (List.mem_of_getElem? (i := 6) rfl)
theorem q_991 : (Cond.selects RX7 yX7_markOf yX7_markOf) ∈ wsL_law := rl_42 _ (List.mem_of_getElem? (i := 7) rfl)
theorem q_992 : (Cond.code yX7_markOf cX7_markOf 4 (some .int)) ∈ wsL_law := rl_42 _ (List.mem_of_getElem? (i := 8) rfl)
theorem q_993 : (Cond.methodLink RX7 268 yX7_commonMark) ∈ wsL_law := rl_42 _ (List.mem_of_getElem? (i := 9) rfl)
theorem q_994 : (Cond.instanceMethod yX7_commonMark) ∈ wsL_law := rl_42 _ (List.mem_of_getElem? (i := 10) rfl)
theorem q_995 : (Cond.selects RX7 yX7_commonMark yX7_commonMark) ∈ wsL_law := rl_42 _ (List.mem_of_getElem? (i := 11) rfl)
theorem q_996 : (Cond.code yX7_commonMark cX7_commonMark 2 (some .int)) ∈ wsL_law := rl_42 _ (List.mem_of_getElem? (i := 12) rfl)
theorem q_997 : (Cond.methodLink RX7 271 yX7_sizeOfWarm) ∈ wsL_law := rl_42 _ (List.mem_of_getElem? (i := 13) rfl)
theorem q_998 : (Cond.instanceMethod yX7_sizeOfWarm) ∈ wsL_law := rl_42 _ (List.mem_of_getElem? (i := 14) rfl)
theorem q_999 : (Cond.selects RX7 yX7_sizeOfWarm yX7_sizeOfWarm) ∈ wsL_law := rl_42 _ (List.mem_of_getElem? (i := 15) rfl)
theorem q_1000 : (Cond.code yX7_sizeOfWarm cX7_sizeOfWarm 2 (some .int)) ∈ wsL_law := rl_42 _ (List.mem_of_getElem? (i := 16) rfl)
theorem q_1001 : (Cond.methodLink RX7 265 yX7_warmSize) ∈ wsL_law := rl_42 _ (List.mem_of_getElem? (i := 17) rfl)
theorem q_1002 : (Cond.instanceMethod yX7_warmSize) ∈ wsL_law := rl_42 _ (List.mem_of_getElem? (i := 18) rfl)
theorem q_1003 : (Cond.selects RX7 yX7_warmSize yX7_warmSize) ∈ wsL_law := rl_42 _ (List.mem_of_getElem? (i := 19) rfl)
theorem q_1004 : (Cond.code yX7_warmSize cX7_warmSize 2 (some .int)) ∈ wsL_law := rl_42 _ (List.mem_of_getElem? (i := 20) rfl)
theorem q_1005 : (Cond.methodLink RL 147 yX6_trace) ∈ wsL_law := rl_42 _ (List.mem_of_getElem? (i := 21) rfl)
theorem q_1006 : (Cond.instanceMethod yX6_trace) ∈ wsL_law := rl_42 _ (List.mem_of_getElem? (i := 22) rfl)
theorem q_1007 : (Cond.selects RX6 yX6_trace yX6_trace) ∈ wsL_law := rl_42 _ (List.mem_of_getElem? (i := 23) rfl)
theorem q_1008 : (Cond.code yX6_trace cX6_trace 2 (some .int)) ∈ wsL_law := rl_43 _ (List.mem_of_getElem? (i := 0) rfl)
theorem q_1009 : (Cond.methodLink RX6 291 yX1_traced) ∈ wsL_law := rl_43 _ (List.mem_of_getElem? (i := 1) rfl)
theorem q_1010 : (Cond.instanceMethod yX1_traced) ∈ wsL_law := rl_43 _ (List.mem_of_getElem? (i := 2) rfl)
theorem q_1011 : (Cond.selects RX1 yX1_traced yX1_traced) ∈ wsL_law := rl_43 _ (List.mem_of_getElem? (i := 3) rfl)
theorem q_1012 : (Cond.code yX1_traced cX1_traced 2 (some .int)) ∈ wsL_law := rl_43 _ (List.mem_of_getElem? (i := 4) rfl)
theorem q_1013 : (Cond.constant RX1 42 (-1000000)) ∈ wsL_law := rl_43 _ (List.mem_of_getElem? (i := 5) rfl)
theorem q_1014 : (Cond.methodLink RL 150 yX7_trace) ∈ wsL_law := rl_43 _ (List.mem_of_getElem? (i := 6) rfl)
theorem q_1015 : (Cond.instanceMethod yX7_trace) ∈ wsL_law := rl_43 _ (List.mem_of_getElem? (i := 7) rfl)
theorem q_1016 : (Cond.selects RX7 yX7_trace yX7_trace) ∈ wsL_law := rl_43 _ (List.mem_of_getElem? (i := 8) rfl)
theorem q_1017 : (Cond.code yX7_trace cX7_trace 2 (some .int)) ∈ wsL_law := rl_43 _ (List.mem_of_getElem? (i := 9) rfl)
theorem q_1018 : (Cond.methodLink RL 151 yX6_count) ∈ wsL_law := rl_43 _ (List.mem_of_getElem? (i := 10) rfl)
theorem q_1019 : (Cond.instanceMethod yX6_count) ∈ wsL_law := rl_43 _ (List.mem_of_getElem? (i := 11) rfl)
theorem q_1020 : (Cond.selects RX6 yX6_count yX6_count) ∈ wsL_law := rl_43 _ (List.mem_of_getElem? (i := 12) rfl)
theorem q_1021 : (Cond.code yX6_count cX6_count 2 (some .int)) ∈ wsL_law := rl_43 _ (List.mem_of_getElem? (i := 13) rfl)
theorem q_1022 : (Cond.methodLink RX6 294 yX4_present) ∈ wsL_law := rl_43 _ (List.mem_of_getElem? (i := 14) rfl)
theorem q_1023 : (Cond.instanceMethod yX4_present) ∈ wsL_law := rl_43 _ (List.mem_of_getElem? (i := 15) rfl)
theorem q_1024 : (Cond.selects RX4 yX4_present yX4_present) ∈ wsL_law := rl_43 _ (List.mem_of_getElem? (i := 16) rfl)
theorem q_1025 : (Cond.code yX4_present cX4_present 3 (some .int)) ∈ wsL_law := rl_43 _ (List.mem_of_getElem? (i := 17) rfl)
theorem q_1026 : (Cond.methodLink RX6 297 yX2_allCounted) ∈ wsL_law := rl_43 _ (List.mem_of_getElem? (i := 18) rfl)
theorem q_1027 : (Cond.instanceMethod yX2_allCounted) ∈ wsL_law := rl_43 _ (List.mem_of_getElem? (i := 19) rfl)
theorem q_1028 : (Cond.selects RX2 yX2_allCounted yX2_allCounted) ∈ wsL_law := rl_43 _ (List.mem_of_getElem? (i := 20) rfl)
theorem q_1029 : (Cond.code yX2_allCounted cX2_allCounted 1 (some .int)) ∈ wsL_law := rl_43 _ (List.mem_of_getElem? (i := 21) rfl)
theorem q_1030 : (Cond.methodLink RL 154 yX7_count) ∈ wsL_law := rl_43 _ (List.mem_of_getElem? (i := 22) rfl)
theorem q_1031 : (Cond.instanceMethod yX7_count) ∈ wsL_law := rl_43 _ (List.mem_of_getElem? (i := 23) rfl)
theorem q_1032 : (Cond.selects RX7 yX7_count yX7_count) ∈ wsL_law := rl_44 _ (List.mem_of_getElem? (i := 0) rfl)
theorem q_1033 : (Cond.code yX7_count cX7_count 4 (some .int)) ∈ wsL_law := rl_44 _ (List.mem_of_getElem? (i := 1) rfl)
theorem q_1034 : (Cond.methodLink RL 155 yX6_status) ∈ wsL_law := rl_44 _ (List.mem_of_getElem? (i := 2) rfl)
theorem q_1035 : (Cond.instanceMethod yX6_status) ∈ wsL_law := rl_44 _ (List.mem_of_getElem? (i := 3) rfl)
theorem q_1036 : (Cond.selects RX6 yX6_status yX6_status) ∈ wsL_law := rl_44 _ (List.mem_of_getElem? (i := 4) rfl)
theorem q_1037 : (Cond.code yX6_status cX6_status 1 (some .int)) ∈ wsL_law := rl_44 _ (List.mem_of_getElem? (i := 5) rfl)
theorem q_1038 : (Cond.methodLink RL 158 yX7_status) ∈ wsL_law := rl_44 _ (List.mem_of_getElem? (i := 6) rfl)
theorem q_1039 : (Cond.instanceMethod yX7_status) ∈ wsL_law := rl_44 _ (List.mem_of_getElem? (i := 7) rfl)
theorem q_1040 : (Cond.selects RX7 yX7_status yX7_status) ∈ wsL_law := rl_44 _ (List.mem_of_getElem? (i := 8) rfl)
theorem q_1041 : (Cond.code yX7_status cX7_status 1 (some .int)) ∈ wsL_law := rl_44 _ (List.mem_of_getElem? (i := 9) rfl)
end
section
/-! the memory of the system as numbers: which cells are there, where they lie, what they hold; cells are told by kind, number, place in the kind -/
abbrev mm_G : Type := va_G × ClassId × ClassId × ClassId × Nat × Nat × Nat
abbrev mm_M : Type := (Nat → Nat → Prop) × (Nat → Nat → Nat → Nat) × (Nat → Nat → Nat → Int32)
/-- what the content of one key becomes -/
def mw (g : Nat → Nat → Nat → Int32) (t k : Nat) (f : Nat → Int32) : Nat → Nat → Nat → Int32 := fun t' k' => if t' = t ∧ k' = k then f else g t' k'
theorem mw_s (g : Nat → Nat → Nat → Int32) (t k : Nat) (f : Nat → Int32) : mw g t k f t k = f := by simp [mw]
theorem mw_n (g : Nat → Nat → Nat → Int32) {t k t' k' : Nat} (f : Nat → Int32) (h : ¬ (t' = t ∧ k' = k)) : mw g t k f t' k' = g t' k' := by simp only [mw, if_neg h]
theorem mw_w (g : Nat → Nat → Nat → Int32) (t k : Nat) (f f2 : Nat → Int32) : mw (mw g t k f) t k f2 = mw g t k f2 := by
  funext a b
  by_cases h : a = t ∧ b = k
  · simp only [mw, if_pos h]
  · simp only [mw, if_neg h]
theorem mw_i (g : Nat → Nat → Nat → Int32) (t k : Nat) : mw g t k (g t k) = g := by
  funext a b
  by_cases h : a = t ∧ b = k
  · obtain ⟨h1, h2⟩ := h
    subst h1; subst h2
    simp [mw]
  · simp only [mw, if_neg h]
theorem mw_c (g : Nat → Nat → Nat → Int32) {t k t' k' : Nat} (f f2 : Nat → Int32) (h : ¬ (t' = t ∧ k' = k)) : mw (mw g t k f) t' k' f2 = mw (mw g t' k' f2) t k f := by
  funext a b
  by_cases h1 : a = t ∧ b = k
  · have h2 : ¬ (a = t' ∧ b = k') := fun q => h ⟨q.1.symm.trans h1.1, q.2.symm.trans h1.2⟩
    simp only [mw, if_pos h1, if_neg h2]
  · simp only [mw, if_neg h1]
def mm_cs (G : mm_G) (ad : Nat → Nat → Nat → Nat) (g : Nat → Nat → Nat → Int32) (k : Nat) : Nat → List va_E
  | 0 => [.inr (0, [.ref (ad 0 0 1), .int (g 0 0 0), .int (g 0 0 1)]), .inl (G.2.2.2.1, 24, .inr (.inr (.inr (.inr (fun i => if g 0 1 i = 0 then none else some (ad 2 (2 + i) 0))))))]
  | 1 => [.inr (1, [.ref (ad 1 0 1), .int (g 1 0 0)]), .inl (G.2.1, 16, .inl (g 1 1))]
  | 2 => [.inr (2, [.int (g 2 k 0), .int (g 2 k 4), .int (g 2 k 3), .int (g 2 k 5), .int (g 2 k 1), .int (g 2 k 2), .ref (ad 2 k 1), .ref (ad 2 k 2), .ref (ad 2 k 3), .ref (ad 2 k 4)]), .inl (G.2.1, 3, .inl (fun i => if i < 3 then g 2 k (6 + i) else 0)), .inl (G.2.1, 9, .inl (fun i => if i < 9 then g 2 k (9 + i) else 0)), .inl (G.2.1, 9, .inl (fun i => if i < 9 then g 2 k (18 + i) else 0)), .inl (G.2.1, 9, .inl (fun i => if i < 9 then g 2 k (27 + i) else 0))]
  | 3 => [.inr (3, [.ref (ad 2 1 0), .ref (ad 3 0 1), .ref (ad 3 0 2), .ref (ad 3 0 3)]), .inl (G.2.1, 12, .inl (g 3 1)), .inl (G.2.1, 9, .inl (g 3 2)), .inl (G.2.1, 81, .inl (g 3 3))]
  | 4 => [.inr (4, [.ref (ad 4 0 1), .ref (ad 4 0 2), .ref (ad 4 0 3)]), .inl (G.2.1, 320, .inl (g 4 1)), .inl (G.2.1, 8, .inl (g 4 2)), .inl (G.2.1, 8, .inl (g 4 3))]
  | 5 => [.inr (5, [.ref (ad 5 0 1), .int (g 5 0 0), .int (g 5 0 1), .int (g 5 0 2)]), .inl (G.2.1, 100, .inl (g 5 1))]
  | 6 => [.inr (6, [.ref (ad 4 0 0), .ref (ad 5 0 0), .ref (ad 2 0 0), .ref (ad 0 0 0), .ref (ad 6 0 1), .ref (ad 3 0 0), .ref (ad 1 0 0), .int (g 6 0 0), .int (g 6 0 1)]), .inl (G.2.2.2.1, 2, .inr (.inr (.inr (.inr (fun i => if g 6 1 i = 0 then none else some (ad 2 (26 + i) 0))))))]
  | 7 => [.inr (7, [.ref (ad 7 0 1), .ref (ad 7 0 2), .ref (ad 7 0 3), .int (g 7 0 0), .int (g 7 0 1), .ref (ad 7 0 4), .ref (ad 7 0 5), .ref (ad 7 0 6), .int (g 7 0 2), .int (g 7 0 3), .int (g 7 0 4), .int (g 7 0 5), .int (g 7 0 6), .int (g 7 0 7), .int (g 7 0 8), .ref (ad 7 0 7), .ref (ad 7 0 8), .int (g 7 0 9), .ref (ad 7 0 9), .ref (ad 7 0 10), .ref (ad 7 0 11), .ref (ad 7 0 12), .int (g 7 0 10)]), .inl (G.2.1, 8, .inl (g 7 1)), .inl (G.2.1, 8, .inl (g 7 2)), .inl (G.2.1, 320, .inl (g 7 3)), .inl (G.2.1, 36, .inl (g 7 4)), .inl (G.2.1, 40, .inl (g 7 5)), .inl (G.2.1, 100, .inl (g 7 6)), .inl (G.2.1, 36, .inl (g 7 7)), .inl (G.2.1, 864, .inl (g 7 8)), .inl (G.2.1, 36, .inl (g 7 9)), .inl (G.2.2.1, 2, .inl (g 7 10)), .inl (G.2.1, 72, .inl (g 7 11)), .inl (G.2.1, 16, .inl (g 7 12))]
  | _ => []
def mm_n : Nat → Nat
  | 0 => 2
  | 1 => 2
  | 2 => 5
  | 3 => 4
  | 4 => 4
  | 5 => 2
  | 6 => 2
  | 7 => 13
  | _ => 0
def mm_ent (G : mm_G) (ad : Nat → Nat → Nat → Nat) (g : Nat → Nat → Nat → Int32) (t k c : Nat) : Option va_E := (mm_cs G ad g k t)[c]?
theorem mm_len (G : mm_G) (ad : Nat → Nat → Nat → Nat) (g : Nat → Nat → Nat → Int32) (k : Nat) : ∀ t, (mm_cs G ad g k t).length = mm_n t
  | 0 => rfl | 1 => rfl | 2 => rfl | 3 => rfl | 4 => rfl | 5 => rfl | 6 => rfl | 7 => rfl | _ + 8 => rfl
theorem mm_lt {G : mm_G} {ad : Nat → Nat → Nat → Nat} {g : Nat → Nat → Nat → Int32} {t k c : Nat} {e : va_E} (h : mm_ent G ad g t k c = some e) : c < mm_n t := by
  rw [← mm_len G ad g k t]
  exact (List.getElem?_eq_some_iff.mp h).1
theorem mm_ex {G : mm_G} {ad : Nat → Nat → Nat → Nat} {g : Nat → Nat → Nat → Int32} {t k c : Nat} (h : c < mm_n t) : ∃ e, mm_ent G ad g t k c = some e := by
  rw [← mm_len G ad g k t] at h
  exact ⟨_, List.getElem?_eq_getElem h⟩
/-- a key that is no flat's: the other cells stay -/
theorem mm_oth (G : mm_G) (ad : Nat → Nat → Nat → Nat) (g : Nat → Nat → Nat → Int32) {t c : Nat} (ht : t ≠ 2) (f : Nat → Int32) : ∀ (t' k' c' : Nat), ¬ (t' = t ∧ c' = c) → mm_ent G ad (mw g t c f) t' k' c' = mm_ent G ad g t' k' c'
  | 0, k', 0, h => by simp only [mm_ent, mm_cs, List.getElem?_cons_zero, List.getElem?_cons_succ, mw_n g f h]
  | 0, k', 1, h => by simp only [mm_ent, mm_cs, List.getElem?_cons_zero, List.getElem?_cons_succ, mw_n g f h]
  | 0, k', _ + 2, _ => rfl
  | 1, k', 0, h => by simp only [mm_ent, mm_cs, List.getElem?_cons_zero, List.getElem?_cons_succ, mw_n g f h]
  | 1, k', 1, h => by simp only [mm_ent, mm_cs, List.getElem?_cons_zero, List.getElem?_cons_succ, mw_n g f h]
  | 1, k', _ + 2, _ => rfl
  | 2, k', c', _ => by simp only [mm_ent, mm_cs, mw_n g f (show ¬ (2 = t ∧ k' = c) from fun q => ht q.1.symm)]
  | 3, k', 0, h => by simp only [mm_ent, mm_cs, List.getElem?_cons_zero, List.getElem?_cons_succ, mw_n g f h]
  | 3, k', 1, h => by simp only [mm_ent, mm_cs, List.getElem?_cons_zero, List.getElem?_cons_succ, mw_n g f h]
  | 3, k', 2, h => by simp only [mm_ent, mm_cs, List.getElem?_cons_zero, List.getElem?_cons_succ, mw_n g f h]
  | 3, k', 3, h => by simp only [mm_ent, mm_cs, List.getElem?_cons_zero, List.getElem?_cons_succ, mw_n g f h]
  | 3, k', _ + 4, _ => rfl
  | 4, k', 0, h => by simp only [mm_ent, mm_cs, List.getElem?_cons_zero, List.getElem?_cons_succ, mw_n g f h]
  | 4, k', 1, h => by simp only [mm_ent, mm_cs, List.getElem?_cons_zero, List.getElem?_cons_succ, mw_n g f h]
  | 4, k', 2, h => by simp only [mm_ent, mm_cs, List.getElem?_cons_zero, List.getElem?_cons_succ, mw_n g f h]
  | 4, k', 3, h => by simp only [mm_ent, mm_cs, List.getElem?_cons_zero, List.getElem?_cons_succ, mw_n g f h]
  | 4, k', _ + 4, _ => rfl
  | 5, k', 0, h => by simp only [mm_ent, mm_cs, List.getElem?_cons_zero, List.getElem?_cons_succ, mw_n g f h]
  | 5, k', 1, h => by simp only [mm_ent, mm_cs, List.getElem?_cons_zero, List.getElem?_cons_succ, mw_n g f h]
  | 5, k', _ + 2, _ => rfl
  | 6, k', 0, h => by simp only [mm_ent, mm_cs, List.getElem?_cons_zero, List.getElem?_cons_succ, mw_n g f h]
  | 6, k', 1, h => by simp only [mm_ent, mm_cs, List.getElem?_cons_zero, List.getElem?_cons_succ, mw_n g f h]
  | 6, k', _ + 2, _ => rfl
  | 7, k', 0, h => by simp only [mm_ent, mm_cs, List.getElem?_cons_zero, List.getElem?_cons_succ, mw_n g f h]
  | 7, k', 1, h => by simp only [mm_ent, mm_cs, List.getElem?_cons_zero, List.getElem?_cons_succ, mw_n g f h]
  | 7, k', 2, h => by simp only [mm_ent, mm_cs, List.getElem?_cons_zero, List.getElem?_cons_succ, mw_n g f h]
  | 7, k', 3, h => by simp only [mm_ent, mm_cs, List.getElem?_cons_zero, List.getElem?_cons_succ, mw_n g f h]
  | 7, k', 4, h => by simp only [mm_ent, mm_cs, List.getElem?_cons_zero, List.getElem?_cons_succ, mw_n g f h]
  | 7, k', 5, h => by simp only [mm_ent, mm_cs, List.getElem?_cons_zero, List.getElem?_cons_succ, mw_n g f h]
  | 7, k', 6, h => by simp only [mm_ent, mm_cs, List.getElem?_cons_zero, List.getElem?_cons_succ, mw_n g f h]
  | 7, k', 7, h => by simp only [mm_ent, mm_cs, List.getElem?_cons_zero, List.getElem?_cons_succ, mw_n g f h]
  | 7, k', 8, h => by simp only [mm_ent, mm_cs, List.getElem?_cons_zero, List.getElem?_cons_succ, mw_n g f h]
  | 7, k', 9, h => by simp only [mm_ent, mm_cs, List.getElem?_cons_zero, List.getElem?_cons_succ, mw_n g f h]
  | 7, k', 10, h => by simp only [mm_ent, mm_cs, List.getElem?_cons_zero, List.getElem?_cons_succ, mw_n g f h]
  | 7, k', 11, h => by simp only [mm_ent, mm_cs, List.getElem?_cons_zero, List.getElem?_cons_succ, mw_n g f h]
  | 7, k', 12, h => by simp only [mm_ent, mm_cs, List.getElem?_cons_zero, List.getElem?_cons_succ, mw_n g f h]
  | 7, k', _ + 13, _ => rfl
  | _ + 8, _, _, _ => rfl
/-- a flat's key: the cells of the others stay -/
theorem mm_othF (G : mm_G) (ad : Nat → Nat → Nat → Nat) (g : Nat → Nat → Nat → Int32) {k : Nat} (f : Nat → Int32) : ∀ (t' k' c' : Nat), ¬ (t' = 2 ∧ k' = k) → mm_ent G ad (mw g 2 k f) t' k' c' = mm_ent G ad g t' k' c'
  | 0, k', c', _ => by simp only [mm_ent, mm_cs, mw_n g f (show ¬ (0 = 2 ∧ 0 = k) from fun q => absurd q.1 (by decide)), mw_n g f (show ¬ (0 = 2 ∧ 1 = k) from fun q => absurd q.1 (by decide))]
  | 1, k', c', _ => by simp only [mm_ent, mm_cs, mw_n g f (show ¬ (1 = 2 ∧ 0 = k) from fun q => absurd q.1 (by decide)), mw_n g f (show ¬ (1 = 2 ∧ 1 = k) from fun q => absurd q.1 (by decide))]
  | 2, k', c', h => by simp only [mm_ent, mm_cs, mw_n g f h]
  | 3, k', c', _ => by simp only [mm_ent, mm_cs, mw_n g f (show ¬ (3 = 2 ∧ 0 = k) from fun q => absurd q.1 (by decide)), mw_n g f (show ¬ (3 = 2 ∧ 1 = k) from fun q => absurd q.1 (by decide)), mw_n g f (show ¬ (3 = 2 ∧ 2 = k) from fun q => absurd q.1 (by decide)), mw_n g f (show ¬ (3 = 2 ∧ 3 = k) from fun q => absurd q.1 (by decide))]
  | 4, k', c', _ => by simp only [mm_ent, mm_cs, mw_n g f (show ¬ (4 = 2 ∧ 0 = k) from fun q => absurd q.1 (by decide)), mw_n g f (show ¬ (4 = 2 ∧ 1 = k) from fun q => absurd q.1 (by decide)), mw_n g f (show ¬ (4 = 2 ∧ 2 = k) from fun q => absurd q.1 (by decide)), mw_n g f (show ¬ (4 = 2 ∧ 3 = k) from fun q => absurd q.1 (by decide))]
  | 5, k', c', _ => by simp only [mm_ent, mm_cs, mw_n g f (show ¬ (5 = 2 ∧ 0 = k) from fun q => absurd q.1 (by decide)), mw_n g f (show ¬ (5 = 2 ∧ 1 = k) from fun q => absurd q.1 (by decide))]
  | 6, k', c', _ => by simp only [mm_ent, mm_cs, mw_n g f (show ¬ (6 = 2 ∧ 0 = k) from fun q => absurd q.1 (by decide)), mw_n g f (show ¬ (6 = 2 ∧ 1 = k) from fun q => absurd q.1 (by decide))]
  | 7, k', c', _ => by simp only [mm_ent, mm_cs, mw_n g f (show ¬ (7 = 2 ∧ 0 = k) from fun q => absurd q.1 (by decide)), mw_n g f (show ¬ (7 = 2 ∧ 1 = k) from fun q => absurd q.1 (by decide)), mw_n g f (show ¬ (7 = 2 ∧ 2 = k) from fun q => absurd q.1 (by decide)), mw_n g f (show ¬ (7 = 2 ∧ 3 = k) from fun q => absurd q.1 (by decide)), mw_n g f (show ¬ (7 = 2 ∧ 4 = k) from fun q => absurd q.1 (by decide)), mw_n g f (show ¬ (7 = 2 ∧ 5 = k) from fun q => absurd q.1 (by decide)), mw_n g f (show ¬ (7 = 2 ∧ 6 = k) from fun q => absurd q.1 (by decide)), mw_n g f (show ¬ (7 = 2 ∧ 7 = k) from fun q => absurd q.1 (by decide)), mw_n g f (show ¬ (7 = 2 ∧ 8 = k) from fun q => absurd q.1 (by decide)), mw_n g f (show ¬ (7 = 2 ∧ 9 = k) from fun q => absurd q.1 (by decide)), mw_n g f (show ¬ (7 = 2 ∧ 10 = k) from fun q => absurd q.1 (by decide)), mw_n g f (show ¬ (7 = 2 ∧ 11 = k) from fun q => absurd q.1 (by decide)), mw_n g f (show ¬ (7 = 2 ∧ 12 = k) from fun q => absurd q.1 (by decide))]
  | _ + 8, _, _, _ => rfl
/-- the addresses that a world has -/
def mm_in (pr : Nat → Nat → Prop) (ad : Nat → Nat → Nat → Nat) (q : Nat) : Prop := ∃ t k c : Nat, pr t k ∧ c < mm_n t ∧ q = ad t k c
def mm_A (pr : Nat → Nat → Prop) (ad : Nat → Nat → Nat → Nat) (sz : Nat) (q : Nat) : Prop := mm_in pr ad q ∨ sz ≤ q
/-- cells are apart; what is no flat is there once -/
def mm_J (pr : Nat → Nat → Prop) (ad : Nat → Nat → Nat → Nat) : Prop := (∀ t k c t' k' c' : Nat, pr t k → c < mm_n t → pr t' k' → c' < mm_n t' → ad t k c = ad t' k' c' → t = t' ∧ k = k' ∧ c = c') ∧ ∀ t k : Nat, pr t k → t ≠ 2 → k = 0
def mm_L (G : mm_G) (pr : Nat → Nat → Prop) (ad : Nat → Nat → Nat → Nat) (g : Nat → Nat → Nat → Int32) (Ls : List Nat) (f : Nat → va_E) : Prop := (∀ (t k c : Nat) (e : va_E), pr t k → mm_ent G ad g t k c = some e → ad t k c ∈ Ls ∧ f (ad t k c) = e) ∧ (∀ q : Nat, q ∈ Ls → mm_in pr ad q)
def mm_R (G : mm_G) (pr : Nat → Nat → Prop) (ad : Nat → Nat → Nat → Nat) (g : Nat → Nat → Nat → Int32) (A : Nat → Prop) (H : Heap) : Prop := ∃ (Ls : List Nat) (f : Nat → va_E), va_P G.1 vwCl (va_pl Ls f) H ∧ va_D A (va_pl Ls f) ∧ mm_L G pr ad g Ls f ∧ mm_J pr ad
theorem mm_pl_mem {Ls : List Nat} {f : Nat → va_E} {k : Nat} {q : Nat × va_E} (h : (va_pl Ls f)[k]? = some q) : q.1 ∈ Ls := by
  have h1 := List.mem_of_getElem? h
  obtain ⟨a, ha, rfl⟩ := List.mem_map.mp h1
  exact ha
theorem mm_R.to {G : mm_G} {pr : Nat → Nat → Prop} {ad : Nat → Nat → Nat → Nat} {g : Nat → Nat → Nat → Int32} {A B : Nat → Prop} {H : Heap} (h : mm_R G pr ad g A H) (hAB : ∀ q, mm_in pr ad q → B q) : mm_R G pr ad g B H := by
  obtain ⟨Ls, f, hP, hD, hL, hJ⟩ := h
  exact ⟨Ls, f, hP, hD.weaken (fun k q hk _ => hAB _ (hL.2 _ (mm_pl_mem hk))), hL, hJ⟩
theorem mm_R.inA {G : mm_G} {pr : Nat → Nat → Prop} {ad : Nat → Nat → Nat → Nat} {g : Nat → Nat → Nat → Int32} {A : Nat → Prop} {H : Heap} (h : mm_R G pr ad g A H) {q : Nat} (hq : mm_in pr ad q) : A q := by
  obtain ⟨Ls, f, hP, hD, hL, hJ⟩ := h
  obtain ⟨t, k, c, hp, hc, rfl⟩ := hq
  obtain ⟨e, he⟩ := mm_ex (G := G) (ad := ad) (g := g) (k := k) hc
  obtain ⟨h1, h2⟩ := hL.1 t k c e hp he
  obtain ⟨i, hi⟩ := va_pl_get (X := []) (f := f) h1
  exact hD.2 i _ hi
/-- one cell is written -/
theorem mm_upd {G : mm_G} {pr : Nat → Nat → Prop} {ad : Nat → Nat → Nat → Nat} {g g' : Nat → Nat → Nat → Int32} {A : Nat → Prop} {H1 : Heap} {t k c : Nat} {e e' : va_E} {Ls : List Nat} {f : Nat → va_E} (hL : mm_L G pr ad g Ls f) (hJ : mm_J pr ad) (hp : pr t k) (he : mm_ent G ad g t k c = some e) (he' : mm_ent G ad g' t k c = some e') (ho : ∀ t' k' c' : Nat, pr t' k' → ¬ (t' = t ∧ k' = k ∧ c' = c) → mm_ent G ad g' t' k' c' = mm_ent G ad g t' k' c') (hP1 : va_P G.1 vwCl (va_pl Ls (va_up f (ad t k c) e')) H1) (hD1 : va_D A (va_pl Ls (va_up f (ad t k c) e'))) : mm_R G pr ad g' A H1 := by
  refine ⟨Ls, va_up f (ad t k c) e', hP1, hD1, ⟨?_, hL.2⟩, hJ⟩
  intro t' k' c' x hp' hx
  by_cases h : t' = t ∧ k' = k ∧ c' = c
  · obtain ⟨rfl, rfl, rfl⟩ := h
    have h1 := hL.1 _ _ _ _ hp he
    rw [he'] at hx
    cases hx
    exact ⟨h1.1, va_up_self _ _ _⟩
  · have h2 := hx
    rw [ho t' k' c' hp' h] at h2
    have h1 := hL.1 _ _ _ _ hp' h2
    refine ⟨h1.1, ?_⟩
    rw [va_up_ne _ _ (fun q => h (hJ.1 _ _ _ _ _ _ hp' (mm_lt h2) hp (mm_lt he) q))]
    exact h1.2
/-- the three tables of a kind's bodies, read alone -/
def mm_t0 (j : Nat) : Int32 := match j with | 0 => -1 | 1 => 0 | 2 => 1 | 3 => 1 | 4 => 0 | _ => 4
def mm_t1 (j : Nat) : Int32 := match j with | 0 => 10 | 1 => 11 | 2 => 12 | 3 => 11 | 4 => 13 | _ => 14
def mm_t2 (j : Nat) : Int32 := match j with | 0 => 20 | 1 => 21 | 2 => 24 | 3 => 22 | 4 => 23 | _ => 23
def mm_S1 (C n : String) (a : Nat) (f : Nat → Int32) (A : Nat → Prop) (U : State) (H : Heap) : Prop := va_Z C n "[I" (.ref a) A U H ∧ va_T .int a 6 (fun j => .int (f j)) A U H
def mm_S (G : mm_G) (A : Nat → Prop) (U : State) (H : Heap) : Prop := mm_S1 RX1 "PARENTS" G.2.2.2.2.1 mm_t0 A U H ∧ mm_S1 RX1 "SIZE_BODIES" G.2.2.2.2.2.1 mm_t1 A U H ∧ mm_S1 RX1 "MARK_BODIES" G.2.2.2.2.2.2 mm_t2 A U H
theorem mm_S1.on {C n : String} {a : Nat} {f : Nat → Int32} {A B : Nat → Prop} {u U : State} {H H1 : Heap} (h : mm_S1 C n a f A u H) (hq : ∀ a : Nat, a < H.size → ¬ A a → H1[a]? = H[a]?) (hAB : ∀ q, B q → A q) (hvm : u.vm.Alike U.vm) : mm_S1 C n a f B U H1 :=
  ⟨((h.1.kept hq).narrow hAB).moved hvm, ((h.2.kept hq).narrow hAB).moved hvm⟩
theorem mm_S.on {G : mm_G} {A B : Nat → Prop} {u U : State} {H H1 : Heap} (h : mm_S G A u H) (hq : ∀ a : Nat, a < H.size → ¬ A a → H1[a]? = H[a]?) (hAB : ∀ q, B q → A q) (hvm : u.vm.Alike U.vm) : mm_S G B U H1 :=
  ⟨h.1.on hq hAB hvm, h.2.1.on hq hAB hvm, h.2.2.on hq hAB hvm⟩
def mm_nF : List (String × Nat × String × String × String) := [(RX6, 129, "CockleSquires$Flat", "beds", "I"), (RX5, 60, "CockleSquires$Flat", "beds", "I"), (RX3, 82, "CockleSquires$Flat", "beds", "I"), (RX6, 144, "CockleSquires$Flat", "tide", "I"), (RX6, 201, "CockleSquires$Flat", "lot", "I"), (RX6, 180, "CockleSquires$Flat", "vetoes", "I"), (RX3, 91, "CockleSquires$Flat", "vetoes", "I"), (RX6, 186, "CockleSquires$Flat", "cellA", "I"), (RX6, 189, "CockleSquires$Flat", "cellB", "I")]
def mm_nM : List (String × Nat × MethodName) := [(RX6, 18, yX5_init), (RX6, 25, yX2_init), (RX6, 32, yX0_init), (RX6, 43, yX3_init), (RX3, 11, yX2_init), (RX6, 50, yX1_init), (RX4, 21, yX6_within), (RX5, 70, yX6_within), (RX0, 24, yX6_within), (RX0, 28, yX2_init), (RX2, 63, yX6_within), (RX3, 61, yX6_within), (RX1, 22, yX6_within)]
theorem nf_X6_129 : (RX6, 129, "CockleSquires$Flat", "beds", "I") ∈ mm_nF := List.mem_of_getElem? (i := 0) rfl
theorem nf_X5_60 : (RX5, 60, "CockleSquires$Flat", "beds", "I") ∈ mm_nF := List.mem_of_getElem? (i := 1) rfl
theorem nf_X3_82 : (RX3, 82, "CockleSquires$Flat", "beds", "I") ∈ mm_nF := List.mem_of_getElem? (i := 2) rfl
theorem nf_X6_144 : (RX6, 144, "CockleSquires$Flat", "tide", "I") ∈ mm_nF := List.mem_of_getElem? (i := 3) rfl
theorem nf_X6_201 : (RX6, 201, "CockleSquires$Flat", "lot", "I") ∈ mm_nF := List.mem_of_getElem? (i := 4) rfl
theorem nf_X6_180 : (RX6, 180, "CockleSquires$Flat", "vetoes", "I") ∈ mm_nF := List.mem_of_getElem? (i := 5) rfl
theorem nf_X3_91 : (RX3, 91, "CockleSquires$Flat", "vetoes", "I") ∈ mm_nF := List.mem_of_getElem? (i := 6) rfl
theorem nf_X6_186 : (RX6, 186, "CockleSquires$Flat", "cellA", "I") ∈ mm_nF := List.mem_of_getElem? (i := 7) rfl
theorem nf_X6_189 : (RX6, 189, "CockleSquires$Flat", "cellB", "I") ∈ mm_nF := List.mem_of_getElem? (i := 8) rfl
theorem nm_X6_18 : (RX6, 18, yX5_init) ∈ mm_nM := List.mem_of_getElem? (i := 0) rfl
theorem nm_X6_25 : (RX6, 25, yX2_init) ∈ mm_nM := List.mem_of_getElem? (i := 1) rfl
theorem nm_X6_32 : (RX6, 32, yX0_init) ∈ mm_nM := List.mem_of_getElem? (i := 2) rfl
theorem nm_X6_43 : (RX6, 43, yX3_init) ∈ mm_nM := List.mem_of_getElem? (i := 3) rfl
theorem nm_X3_11 : (RX3, 11, yX2_init) ∈ mm_nM := List.mem_of_getElem? (i := 4) rfl
theorem nm_X6_50 : (RX6, 50, yX1_init) ∈ mm_nM := List.mem_of_getElem? (i := 5) rfl
theorem nm_X4_21 : (RX4, 21, yX6_within) ∈ mm_nM := List.mem_of_getElem? (i := 6) rfl
theorem nm_X5_70 : (RX5, 70, yX6_within) ∈ mm_nM := List.mem_of_getElem? (i := 7) rfl
theorem nm_X0_24 : (RX0, 24, yX6_within) ∈ mm_nM := List.mem_of_getElem? (i := 8) rfl
theorem nm_X0_28 : (RX0, 28, yX2_init) ∈ mm_nM := List.mem_of_getElem? (i := 9) rfl
theorem nm_X2_63 : (RX2, 63, yX6_within) ∈ mm_nM := List.mem_of_getElem? (i := 10) rfl
theorem nm_X3_61 : (RX3, 61, yX6_within) ∈ mm_nM := List.mem_of_getElem? (i := 11) rfl
theorem nm_X1_22 : (RX1, 22, yX6_within) ∈ mm_nM := List.mem_of_getElem? (i := 12) rfl
def mm_N (U : State) : Prop := (∀ w, w ∈ mm_nF → va_Nw (.fieldLinkNest w.1 w.2.1 w.2.2.1 w.2.2.2.1 w.2.2.2.2 "CockleSquires") U) ∧ (∀ w, w ∈ mm_nM → va_Nw (.methodLinkNest w.1 w.2.1 w.2.2 "CockleSquires") U)
theorem mm_N.warm {s U : State} (hW : s.WarmedH U.vm) (h : mm_N s) : mm_N U := ⟨fun w hw => va_Nw.warmF hW (h.1 w hw), fun w hw => va_Nw.warmM hW (h.2 w hw)⟩
theorem mm_N.same {u U : State} (hv : u.vm = U.vm) (h : mm_N u) : mm_N U := ⟨fun w hw => va_Nw.same rfl hv (h.1 w hw), fun w hw => va_Nw.same rfl hv (h.2 w hw)⟩
def mm_ty (G : mm_G) : List (ClassId × FieldType) := [(G.2.1, .int), (G.2.2.1, .boolean), (G.2.2.2.1, .object RX2)]
def mm_K (G : mm_G) (U : State) : Prop := va_K G.1 vwCl (mm_ty G) U ∧ mm_N U
theorem mm_K.warm {G : mm_G} {s U : State} (hW : s.WarmedH U.vm) (h : mm_K G s) : mm_K G U := ⟨va_K.moved hW.alike h.1, h.2.warm hW⟩
theorem mm_K.same {G : mm_G} {u U : State} (hv : u.vm = U.vm) (h : mm_K G u) : mm_K G U := ⟨va_K.moved (by rw [hv]; exact Vm.Alike.refl U.vm) h.1, h.2.same hv⟩
/-- what is so at each instruction of a method -/
def mm_C (G : mm_G) (own : String) (cc : ByteArray) (nL : Nat) (ret : Option FieldType) (p : Program) (s : State) (m : MethodId) (args : Array Value) (meth : Method) (c : Code) (A : Nat → Prop) : Prop :=
  p.tables.exec = Jvm.exec ∧ c.code = cc ∧ c.maxLocals = nL ∧ meth.sig.returnType = ret ∧ meth.locks = false ∧ s.vm.findClass own = some m.cls ∧ (∀ w, w ∈ wsL_law → w.before args s = true) ∧ mm_K G s ∧ mm_S G A s s.heap ∧ ∀ q, s.heap.size ≤ q → A q
abbrev mm_T : Type := Option Value → (Nat → Nat → Prop) → (Nat → Nat → Nat → Nat) → (Nat → Nat → Nat → Int32) → Prop
def mm_D (r : Option Value) (pr : Nat → Nat → Prop) (ad : Nat → Nat → Nat → Nat) (g : Nat → Nat → Nat → Int32) : mm_T := fun r' pr' ad' g' => r' = r ∧ pr' = pr ∧ ad' = ad ∧ g' = g
def mm_Q (G : mm_G) (Q0 : mm_T) (A : Nat → Prop) : Array Value → State → Outcome → State → Prop := fun _ st o t => (∃ (r : Option Value) (pr : Nat → Nat → Prop) (ad : Nat → Nat → Nat → Nat) (g : Nat → Nat → Nat → Int32), o = .returned r ∧ Q0 r pr ad g ∧ mm_R G pr ad g A t.heap) ∧ va_F A st t
/-- from here the method ends, with an answer and a memory of which Q0 holds -/
def V (l : Launch) (G : mm_G) (own : String) (cc : ByteArray) (nL : Nat) (ret : Option FieldType) (rm : Room) (Q0 : mm_T) (mc ms cells slots pc : Nat) (L : List (Nat × Value)) (S : List Value) (pr : Nat → Nat → Prop) (ad : Nat → Nat → Nat → Nat) (g : Nat → Nat → Nat → Int32) : Prop :=
  ∀ (p : Program) (e : Env) (s : State) (m : MethodId) (args : Array Value) (below : List Frame) (meth : Method) (c : Code) (H : Heap) (locs : List Loc) (A : Nat → Prop) (ls : Array Slot), mm_C G own cc nL ret p s m args meth c A → mm_R G pr ad g A H → va_S A s.heap H locs → lv_has ls nL L → W p l e rm s m args below meth c H locs cells slots (MQ below (mm_Q G Q0 A) args s mc ms A) (F0 m pc ls S)
/-- a method's contract, from a memory -/
def Mt (l : Launch) (G : mm_G) (y : MethodName) (cc : ByteArray) (nL : Nat) (ret : Option FieldType) (rm : Room) (args : List Value) (pr : Nat → Nat → Prop) (ad : Nat → Nat → Nat → Nat) (g : Nat → Nat → Nat → Int32) (Q0 : mm_T) (mc ms : Nat) : Prop :=
  ∀ sz : Nat, Met l y (.code y cc nL ret :: wsL_law) rm (va_Pc args (fun U => U.heap.size = sz ∧ mm_R G pr ad g (fun _ => True) U.heap ∧ mm_K G U ∧ mm_S G (mm_A pr ad sz) U U.heap)) (mm_Q G Q0 (mm_A pr ad sz)) mc ms (mm_A pr ad sz)
theorem Mt_of {l : Launch} {G : mm_G} {y : MethodName} {cc : ByteArray} {nL : Nat} {ret : Option FieldType} {rm : Room} {args : List Value} {pr : Nat → Nat → Prop} {ad : Nat → Nat → Nat → Nat} {g : Nat → Nat → Nat → Int32} {Q0 : mm_T} {mc ms : Nat} (hpl : plainName y.cls = true) (hn : (lg_sl args).length ≤ nL) (hV : V l G y.cls cc nL ret rm Q0 mc ms 0 0 0 (lv_args 0 args) [] pr ad g) : Mt l G y cc nL ret rm args pr ad g Q0 mc ms := by
  intro sz
  refine Met.ofW (cc := cc) (maxL := nL) (ret := ret) hpl rfl ?_
  intro p e s m a below meth c s₁ B hml hv
  obtain ⟨rfl, hsz, hR, hK, hS⟩ := hv
  subst hsz
  have hts := atoms_spec (ws := .code y cc nL ret :: wsL_law) B.pre
  have hl := lv_entry args (n := nL) hn
  rw [lg_entry_eq]
  exact hV p e s m _ below meth c s.heap [] (mm_A pr ad s.heap.size) _ ⟨B.exec, B.bytes, hml, B.returns, B.notSynchronized, findClass_of_methodNamed B.named, fun w hw => hts w (List.mem_cons_of_mem _ hw), hK, hS, fun q h => Or.inr h⟩ (hR.to (fun q h => Or.inl h)) va_S.rf hl
end
section
section RUL
variable {l : Launch} {G : mm_G} {own : String} {cc : ByteArray} {nL : Nat} {ret : Option FieldType} {rm : Room} {Q0 : mm_T} {mc ms cells slots pc : Nat} {L : List (Nat × Value)} {S : List Value} {pr : Nat → Nat → Prop} {ad : Nat → Nat → Nat → Nat} {g : Nat → Nat → Nat → Int32}
theorem V_pu {pc2 : Nat} {S2 : List Value} (h : ∀ (p : Program) (e : Env) (s : State) (m : MethodId) (args : Array Value) (below : List Frame) (meth : Method) (c : Code) (H : Heap) (locs : List Loc) (ls : Array Slot) (Q : State → Prop), p.tables.exec = Jvm.exec → c.code = cc → lv_has ls nL L → W p l e rm s m args below meth c H locs cells slots Q (F0 m pc2 ls S2) → W p l e rm s m args below meth c H locs cells slots Q (F0 m pc ls S))
    (k : V l G own cc nL ret rm Q0 mc ms cells slots pc2 L S2 pr ad g) : V l G own cc nL ret rm Q0 mc ms cells slots pc L S pr ad g :=
  fun p e s m args below meth c H locs A ls hC hR hS hl => h p e s m args below meth c H locs ls _ hC.1 hC.2.1 hl (k p e s m args below meth c H locs A ls hC hR hS hl)
theorem V_st {pc2 : Nat} {S2 : List Value} {L2 : List (Nat × Value)} (h : ∀ (p : Program) (e : Env) (s : State) (m : MethodId) (args : Array Value) (below : List Frame) (meth : Method) (c : Code) (H : Heap) (locs : List Loc) (ls : Array Slot) (Q : State → Prop), p.tables.exec = Jvm.exec → c.code = cc → lv_has ls nL L → (∀ ls2 : Array Slot, lv_has ls2 nL L2 → W p l e rm s m args below meth c H locs cells slots Q (F0 m pc2 ls2 S2)) → W p l e rm s m args below meth c H locs cells slots Q (F0 m pc ls S))
    (k : V l G own cc nL ret rm Q0 mc ms cells slots pc2 L2 S2 pr ad g) : V l G own cc nL ret rm Q0 mc ms cells slots pc L S pr ad g :=
  fun p e s m args below meth c H locs A ls hC hR hS hl => h p e s m args below meth c H locs ls _ hC.1 hC.2.1 hl (fun ls2 hl2 => k p e s m args below meth c H locs A ls2 hC hR hS hl2)
theorem V_br {P : Prop} {pc2 pc3 : Nat} {S2 : List Value} (h : ∀ (p : Program) (e : Env) (s : State) (m : MethodId) (args : Array Value) (below : List Frame) (meth : Method) (c : Code) (H : Heap) (locs : List Loc) (ls : Array Slot) (Q : State → Prop), p.tables.exec = Jvm.exec → c.code = cc → (P → W p l e rm s m args below meth c H locs cells slots Q (F0 m pc2 ls S2)) → (¬ P → W p l e rm s m args below meth c H locs cells slots Q (F0 m pc3 ls S2)) → W p l e rm s m args below meth c H locs cells slots Q (F0 m pc ls S))
    (kt : P → V l G own cc nL ret rm Q0 mc ms cells slots pc2 L S2 pr ad g) (kf : ¬ P → V l G own cc nL ret rm Q0 mc ms cells slots pc3 L S2 pr ad g) : V l G own cc nL ret rm Q0 mc ms cells slots pc L S pr ad g :=
  fun p e s m args below meth c H locs A ls hC hR hS hl => h p e s m args below meth c H locs ls _ hC.1 hC.2.1 (fun q => kt q p e s m args below meth c H locs A ls hC hR hS hl) (fun q => kf q p e s m args below meth c H locs A ls hC hR hS hl)
theorem V_wi {c2 s2 : Nat} (h1 : cells ≤ c2) (h2 : slots ≤ s2) (k : V l G own cc nL ret rm Q0 mc ms c2 s2 pc L S pr ad g) : V l G own cc nL ret rm Q0 mc ms cells slots pc L S pr ad g :=
  fun p e s m args below meth c H locs A ls hC hR hS hl => W.widen h1 h2 (k p e s m args below meth c H locs A ls hC hR hS hl)
theorem V_iload_n {j : Fin 4} {x : Int32} (hdg : decode cc pc = .ok (.iload_n j, 1)) (i : Nat) (hi : L[i]? = some ((j : Nat), .int x)) (k : V l G own cc nL ret rm Q0 mc ms cells slots (pc + 1) L (.int x :: S) pr ad g) : V l G own cc nL ret rm Q0 mc ms cells slots pc L S pr ad g := V_pu (fun p e s m args below meth c H locs ls Q hx hb hl kk => lv_iload_n hx hb hdg rfl (lv_at hl i hi) kk) k
theorem V_iload {j : Nat} {x : Int32} (hdg : decode cc pc = .ok (.iload j, 2)) (i : Nat) (hi : L[i]? = some (j, .int x)) (k : V l G own cc nL ret rm Q0 mc ms cells slots (pc + 2) L (.int x :: S) pr ad g) : V l G own cc nL ret rm Q0 mc ms cells slots pc L S pr ad g := V_pu (fun p e s m args below meth c H locs ls Q hx hb hl kk => lv_iload hx hb hdg (lv_at hl i hi) kk) k
theorem V_lload_n {j : Fin 4} {x : Int64} (hdg : decode cc pc = .ok (.lload_n j, 1)) (i : Nat) (hi : L[i]? = some ((j : Nat), .long x)) (k : V l G own cc nL ret rm Q0 mc ms cells slots (pc + 1) L (.long x :: S) pr ad g) : V l G own cc nL ret rm Q0 mc ms cells slots pc L S pr ad g := V_pu (fun p e s m args below meth c H locs ls Q hx hb hl kk => lv_lload_n hx hb hdg rfl (lv_at hl i hi) kk) k
theorem V_lload {j : Nat} {x : Int64} (hdg : decode cc pc = .ok (.lload j, 2)) (i : Nat) (hi : L[i]? = some (j, .long x)) (k : V l G own cc nL ret rm Q0 mc ms cells slots (pc + 2) L (.long x :: S) pr ad g) : V l G own cc nL ret rm Q0 mc ms cells slots pc L S pr ad g := V_pu (fun p e s m args below meth c H locs ls Q hx hb hl kk => lv_lload hx hb hdg (lv_at hl i hi) kk) k
theorem V_aload_n {j : Fin 4} {x : Nat} (hdg : decode cc pc = .ok (.aload_n j, 1)) (i : Nat) (hi : L[i]? = some ((j : Nat), .ref x)) (k : V l G own cc nL ret rm Q0 mc ms cells slots (pc + 1) L (.ref x :: S) pr ad g) : V l G own cc nL ret rm Q0 mc ms cells slots pc L S pr ad g := V_pu (fun p e s m args below meth c H locs ls Q hx hb hl kk => lv_aload_n hx hb hdg rfl (lv_at hl i hi) kk) k
theorem V_aload {j : Nat} {x : Nat} (hdg : decode cc pc = .ok (.aload j, 2)) (i : Nat) (hi : L[i]? = some (j, .ref x)) (k : V l G own cc nL ret rm Q0 mc ms cells slots (pc + 2) L (.ref x :: S) pr ad g) : V l G own cc nL ret rm Q0 mc ms cells slots pc L S pr ad g := V_pu (fun p e s m args below meth c H locs ls Q hx hb hl kk => lv_aload hx hb hdg (lv_at hl i hi) kk) k
theorem V_iconst {n : Int} {v : Int32} (hdg : decode cc pc = .ok (.iconst n, 1)) (hv : Int32.ofInt n = v) (k : V l G own cc nL ret rm Q0 mc ms cells slots (pc + 1) L (.int v :: S) pr ad g) : V l G own cc nL ret rm Q0 mc ms cells slots pc L S pr ad g := V_pu (fun p e s m args below meth c H locs ls Q hx hb hl kk => lv_iconst hx hb hdg hv kk) k
theorem V_bipush {n : Int} {v : Int32} (hdg : decode cc pc = .ok (.bipush n, 2)) (hv : (Int8.ofInt n).toInt32 = v) (k : V l G own cc nL ret rm Q0 mc ms cells slots (pc + 2) L (.int v :: S) pr ad g) : V l G own cc nL ret rm Q0 mc ms cells slots pc L S pr ad g := V_pu (fun p e s m args below meth c H locs ls Q hx hb hl kk => lv_bipush hx hb hdg hv kk) k
theorem V_sipush {n : Int} {v : Int32} (hdg : decode cc pc = .ok (.sipush n, 3)) (hv : (Int16.ofInt n).toInt32 = v) (k : V l G own cc nL ret rm Q0 mc ms cells slots (pc + 3) L (.int v :: S) pr ad g) : V l G own cc nL ret rm Q0 mc ms cells slots pc L S pr ad g := V_pu (fun p e s m args below meth c H locs ls Q hx hb hl kk => lv_sipush hx hb hdg hv kk) k
theorem V_lconst {n : Fin 2} {v : Int64} (hdg : decode cc pc = .ok (.lconst n, 1)) (hv : Int64.ofNat (n : Nat) = v) (k : V l G own cc nL ret rm Q0 mc ms cells slots (pc + 1) L (.long v :: S) pr ad g) : V l G own cc nL ret rm Q0 mc ms cells slots pc L S pr ad g := V_pu (fun p e s m args below meth c H locs ls Q hx hb hl kk => lv_lconst hx hb hdg hv kk) k
theorem V_istore_n {j : Fin 4} {x : Int32} {L2 : List (Nat × Value)} (hdg : decode cc pc = .ok (.istore_n j, 1)) (hn : (j : Nat) < nL) (h2 : ((j : Nat), Value.int x) :: L.filter (fun q => !(q.1 == (j : Nat)) && !(q.1 + 1 == (j : Nat) && q.2.category == 2)) = L2) (k : V l G own cc nL ret rm Q0 mc ms cells slots (pc + 1) L2 S pr ad g) : V l G own cc nL ret rm Q0 mc ms cells slots pc L (.int x :: S) pr ad g := V_st (fun p e s m args below meth c H locs ls Q hx hb hl kk => lv_istore_n hx hb hdg rfl hl hn h2 kk) k
theorem V_istore {j : Nat} {x : Int32} {L2 : List (Nat × Value)} (hdg : decode cc pc = .ok (.istore j, 2)) (hn : j < nL) (h2 : (j, Value.int x) :: L.filter (fun q => !(q.1 == j) && !(q.1 + 1 == j && q.2.category == 2)) = L2) (k : V l G own cc nL ret rm Q0 mc ms cells slots (pc + 2) L2 S pr ad g) : V l G own cc nL ret rm Q0 mc ms cells slots pc L (.int x :: S) pr ad g := V_st (fun p e s m args below meth c H locs ls Q hx hb hl kk => lv_istore hx hb hdg hl hn h2 kk) k
theorem V_astore_n {j : Fin 4} {x : Nat} {L2 : List (Nat × Value)} (hdg : decode cc pc = .ok (.astore_n j, 1)) (hn : (j : Nat) < nL) (h2 : ((j : Nat), Value.ref x) :: L.filter (fun q => !(q.1 == (j : Nat)) && !(q.1 + 1 == (j : Nat) && q.2.category == 2)) = L2) (k : V l G own cc nL ret rm Q0 mc ms cells slots (pc + 1) L2 S pr ad g) : V l G own cc nL ret rm Q0 mc ms cells slots pc L (.ref x :: S) pr ad g := V_st (fun p e s m args below meth c H locs ls Q hx hb hl kk => lv_astore_n hx hb hdg rfl hl hn h2 kk) k
theorem V_astore {j : Nat} {x : Nat} {L2 : List (Nat × Value)} (hdg : decode cc pc = .ok (.astore j, 2)) (hn : j < nL) (h2 : (j, Value.ref x) :: L.filter (fun q => !(q.1 == j) && !(q.1 + 1 == j && q.2.category == 2)) = L2) (k : V l G own cc nL ret rm Q0 mc ms cells slots (pc + 2) L2 S pr ad g) : V l G own cc nL ret rm Q0 mc ms cells slots pc L (.ref x :: S) pr ad g := V_st (fun p e s m args below meth c H locs ls Q hx hb hl kk => lv_astore hx hb hdg hl hn h2 kk) k
theorem V_lstore_n {j : Fin 4} {x : Int64} {L2 : List (Nat × Value)} (hdg : decode cc pc = .ok (.lstore_n j, 1)) (hn : (j : Nat) + 1 < nL) (h2 : ((j : Nat), Value.long x) :: L.filter (fun q => !(q.1 == (j : Nat)) && (!(q.1 == (j : Nat) + 1) && !(q.1 + 1 == (j : Nat) && q.2.category == 2))) = L2) (k : V l G own cc nL ret rm Q0 mc ms cells slots (pc + 1) L2 S pr ad g) : V l G own cc nL ret rm Q0 mc ms cells slots pc L (.long x :: S) pr ad g := V_st (fun p e s m args below meth c H locs ls Q hx hb hl kk => lv_lstore_n hx hb hdg rfl hl hn h2 kk) k
theorem V_lstore {j : Nat} {x : Int64} {L2 : List (Nat × Value)} (hdg : decode cc pc = .ok (.lstore j, 2)) (hn : j + 1 < nL) (h2 : (j, Value.long x) :: L.filter (fun q => !(q.1 == j) && (!(q.1 == j + 1) && !(q.1 + 1 == j && q.2.category == 2))) = L2) (k : V l G own cc nL ret rm Q0 mc ms cells slots (pc + 2) L2 S pr ad g) : V l G own cc nL ret rm Q0 mc ms cells slots pc L (.long x :: S) pr ad g := V_st (fun p e s m args below meth c H locs ls Q hx hb hl kk => lv_lstore hx hb hdg hl hn h2 kk) k
theorem V_iinc {j : Nat} {n : Int} {x v : Int32} {L2 : List (Nat × Value)} (hdg : decode cc pc = .ok (.iinc j n, 3)) (i : Nat) (hi : L[i]? = some (j, .int x)) (hv : x + Int32.ofInt n = v) (hn : j < nL) (h2 : (j, Value.int v) :: L.filter (fun q => !(q.1 == j) && !(q.1 + 1 == j && q.2.category == 2)) = L2) (k : V l G own cc nL ret rm Q0 mc ms cells slots (pc + 3) L2 S pr ad g) : V l G own cc nL ret rm Q0 mc ms cells slots pc L S pr ad g := V_st (fun p e s m args below meth c H locs ls Q hx hb hl kk => lv_iinc hx hb hdg hl hi hv hn h2 kk) k
theorem V_iadd {x y : Int32} (hdg : decode cc pc = .ok (.iadd, 1)) (k : V l G own cc nL ret rm Q0 mc ms cells slots (pc + 1) L (.int (x + y) :: S) pr ad g) : V l G own cc nL ret rm Q0 mc ms cells slots pc L (.int y :: .int x :: S) pr ad g := V_pu (fun p e s m args below meth c H locs ls Q hx hb hl kk => lv_iadd hx hb hdg kk) k
theorem V_isub {x y : Int32} (hdg : decode cc pc = .ok (.isub, 1)) (k : V l G own cc nL ret rm Q0 mc ms cells slots (pc + 1) L (.int (x - y) :: S) pr ad g) : V l G own cc nL ret rm Q0 mc ms cells slots pc L (.int y :: .int x :: S) pr ad g := V_pu (fun p e s m args below meth c H locs ls Q hx hb hl kk => lv_isub hx hb hdg kk) k
theorem V_imul {x y : Int32} (hdg : decode cc pc = .ok (.imul, 1)) (k : V l G own cc nL ret rm Q0 mc ms cells slots (pc + 1) L (.int (x * y) :: S) pr ad g) : V l G own cc nL ret rm Q0 mc ms cells slots pc L (.int y :: .int x :: S) pr ad g := V_pu (fun p e s m args below meth c H locs ls Q hx hb hl kk => lv_imul hx hb hdg kk) k
theorem V_iand {x y : Int32} (hdg : decode cc pc = .ok (.iand, 1)) (k : V l G own cc nL ret rm Q0 mc ms cells slots (pc + 1) L (.int (x &&& y) :: S) pr ad g) : V l G own cc nL ret rm Q0 mc ms cells slots pc L (.int y :: .int x :: S) pr ad g := V_pu (fun p e s m args below meth c H locs ls Q hx hb hl kk => lv_iand hx hb hdg kk) k
theorem V_ior {x y : Int32} (hdg : decode cc pc = .ok (.ior, 1)) (k : V l G own cc nL ret rm Q0 mc ms cells slots (pc + 1) L (.int (x ||| y) :: S) pr ad g) : V l G own cc nL ret rm Q0 mc ms cells slots pc L (.int y :: .int x :: S) pr ad g := V_pu (fun p e s m args below meth c H locs ls Q hx hb hl kk => lv_ior hx hb hdg kk) k
theorem V_ixor {x y : Int32} (hdg : decode cc pc = .ok (.ixor, 1)) (k : V l G own cc nL ret rm Q0 mc ms cells slots (pc + 1) L (.int (x ^^^ y) :: S) pr ad g) : V l G own cc nL ret rm Q0 mc ms cells slots pc L (.int y :: .int x :: S) pr ad g := V_pu (fun p e s m args below meth c H locs ls Q hx hb hl kk => lv_ixor hx hb hdg kk) k
theorem V_ishl {x y : Int32} (hdg : decode cc pc = .ok (.ishl, 1)) (k : V l G own cc nL ret rm Q0 mc ms cells slots (pc + 1) L (.int (x <<< (y &&& 31)) :: S) pr ad g) : V l G own cc nL ret rm Q0 mc ms cells slots pc L (.int y :: .int x :: S) pr ad g := V_pu (fun p e s m args below meth c H locs ls Q hx hb hl kk => lv_ishl hx hb hdg kk) k
theorem V_ishr {x y : Int32} (hdg : decode cc pc = .ok (.ishr, 1)) (k : V l G own cc nL ret rm Q0 mc ms cells slots (pc + 1) L (.int (x >>> (y &&& 31)) :: S) pr ad g) : V l G own cc nL ret rm Q0 mc ms cells slots pc L (.int y :: .int x :: S) pr ad g := V_pu (fun p e s m args below meth c H locs ls Q hx hb hl kk => lv_ishr hx hb hdg kk) k
theorem V_iushr {x y v : Int32} (hdg : decode cc pc = .ok (.iushr, 1)) (hv : (x.toUInt32 >>> (y.toUInt32 &&& Int32.toUInt32 31)).toInt32 = v) (k : V l G own cc nL ret rm Q0 mc ms cells slots (pc + 1) L (.int v :: S) pr ad g) : V l G own cc nL ret rm Q0 mc ms cells slots pc L (.int y :: .int x :: S) pr ad g := V_pu (fun p e s m args below meth c H locs ls Q hx hb hl kk => lv_iushr hx hb hdg hv kk) k
theorem V_idiv {x y : Int32} (hdg : decode cc pc = .ok (.idiv, 1)) (hne : ¬ y = 0) (k : V l G own cc nL ret rm Q0 mc ms cells slots (pc + 1) L (.int (x / y) :: S) pr ad g) : V l G own cc nL ret rm Q0 mc ms cells slots pc L (.int y :: .int x :: S) pr ad g := V_pu (fun p e s m args below meth c H locs ls Q hx hb hl kk => lv_idiv hx hb hdg hne kk) k
theorem V_irem {x y : Int32} (hdg : decode cc pc = .ok (.irem, 1)) (hne : ¬ y = 0) (k : V l G own cc nL ret rm Q0 mc ms cells slots (pc + 1) L (.int (x - x / y * y) :: S) pr ad g) : V l G own cc nL ret rm Q0 mc ms cells slots pc L (.int y :: .int x :: S) pr ad g := V_pu (fun p e s m args below meth c H locs ls Q hx hb hl kk => lv_irem hx hb hdg hne kk) k
theorem V_ineg {x : Int32} (hdg : decode cc pc = .ok (.ineg, 1)) (k : V l G own cc nL ret rm Q0 mc ms cells slots (pc + 1) L (.int (-x) :: S) pr ad g) : V l G own cc nL ret rm Q0 mc ms cells slots pc L (.int x :: S) pr ad g := V_pu (fun p e s m args below meth c H locs ls Q hx hb hl kk => lv_ineg hx hb hdg kk) k
theorem V_ladd {x y : Int64} (hdg : decode cc pc = .ok (.ladd, 1)) (k : V l G own cc nL ret rm Q0 mc ms cells slots (pc + 1) L (.long (x + y) :: S) pr ad g) : V l G own cc nL ret rm Q0 mc ms cells slots pc L (.long y :: .long x :: S) pr ad g := V_pu (fun p e s m args below meth c H locs ls Q hx hb hl kk => lv_ladd hx hb hdg kk) k
theorem V_lsub {x y : Int64} (hdg : decode cc pc = .ok (.lsub, 1)) (k : V l G own cc nL ret rm Q0 mc ms cells slots (pc + 1) L (.long (x - y) :: S) pr ad g) : V l G own cc nL ret rm Q0 mc ms cells slots pc L (.long y :: .long x :: S) pr ad g := V_pu (fun p e s m args below meth c H locs ls Q hx hb hl kk => lv_lsub hx hb hdg kk) k
theorem V_lmul {x y : Int64} (hdg : decode cc pc = .ok (.lmul, 1)) (k : V l G own cc nL ret rm Q0 mc ms cells slots (pc + 1) L (.long (x * y) :: S) pr ad g) : V l G own cc nL ret rm Q0 mc ms cells slots pc L (.long y :: .long x :: S) pr ad g := V_pu (fun p e s m args below meth c H locs ls Q hx hb hl kk => lv_lmul hx hb hdg kk) k
theorem V_ldiv {x y : Int64} (hdg : decode cc pc = .ok (.ldiv, 1)) (hne : ¬ y = 0) (k : V l G own cc nL ret rm Q0 mc ms cells slots (pc + 1) L (.long (x / y) :: S) pr ad g) : V l G own cc nL ret rm Q0 mc ms cells slots pc L (.long y :: .long x :: S) pr ad g := V_pu (fun p e s m args below meth c H locs ls Q hx hb hl kk => lv_ldiv hx hb hdg hne kk) k
theorem V_lrem {x y : Int64} (hdg : decode cc pc = .ok (.lrem, 1)) (hne : ¬ y = 0) (k : V l G own cc nL ret rm Q0 mc ms cells slots (pc + 1) L (.long (x - x / y * y) :: S) pr ad g) : V l G own cc nL ret rm Q0 mc ms cells slots pc L (.long y :: .long x :: S) pr ad g := V_pu (fun p e s m args below meth c H locs ls Q hx hb hl kk => lv_lrem hx hb hdg hne kk) k
theorem V_lcmp {x y : Int64} (hdg : decode cc pc = .ok (.lcmp, 1)) (k : V l G own cc nL ret rm Q0 mc ms cells slots (pc + 1) L (.int (lg_cmp x y) :: S) pr ad g) : V l G own cc nL ret rm Q0 mc ms cells slots pc L (.long y :: .long x :: S) pr ad g := V_pu (fun p e s m args below meth c H locs ls Q hx hb hl kk => W.lcmp hx hb hdg kk) k
theorem V_i2l {x : Int32} (hdg : decode cc pc = .ok (.i2l, 1)) (k : V l G own cc nL ret rm Q0 mc ms cells slots (pc + 1) L (.long x.toInt64 :: S) pr ad g) : V l G own cc nL ret rm Q0 mc ms cells slots pc L (.int x :: S) pr ad g := V_pu (fun p e s m args below meth c H locs ls Q hx hb hl kk => lv_i2l hx hb hdg rfl kk) k
theorem V_l2i {x : Int64} (hdg : decode cc pc = .ok (.l2i, 1)) (k : V l G own cc nL ret rm Q0 mc ms cells slots (pc + 1) L (.int x.toInt32 :: S) pr ad g) : V l G own cc nL ret rm Q0 mc ms cells slots pc L (.long x :: S) pr ad g := V_pu (fun p e s m args below meth c H locs ls Q hx hb hl kk => lv_l2i hx hb hdg rfl kk) k
theorem V_i2b {x : Int32} (hdg : decode cc pc = .ok (.i2b, 1)) (k : V l G own cc nL ret rm Q0 mc ms cells slots (pc + 1) L (.int x.toInt8.toInt32 :: S) pr ad g) : V l G own cc nL ret rm Q0 mc ms cells slots pc L (.int x :: S) pr ad g := V_pu (fun p e s m args below meth c H locs ls Q hx hb hl kk => lv_i2b hx hb hdg rfl kk) k
theorem V_i2s {x : Int32} (hdg : decode cc pc = .ok (.i2s, 1)) (k : V l G own cc nL ret rm Q0 mc ms cells slots (pc + 1) L (.int x.toInt16.toInt32 :: S) pr ad g) : V l G own cc nL ret rm Q0 mc ms cells slots pc L (.int x :: S) pr ad g := V_pu (fun p e s m args below meth c H locs ls Q hx hb hl kk => lv_i2s hx hb hdg rfl kk) k
theorem V_dup {a : Value} (hdg : decode cc pc = .ok (.dup, 1)) (ha : a.category = 1) (k : V l G own cc nL ret rm Q0 mc ms cells slots (pc + 1) L (a :: a :: S) pr ad g) : V l G own cc nL ret rm Q0 mc ms cells slots pc L (a :: S) pr ad g := V_pu (fun p e s m args below meth c H locs ls Q hx hb hl kk => lv_dup hx hb hdg ha kk) k
theorem V_pop {a : Value} (hdg : decode cc pc = .ok (.pop, 1)) (ha : a.category = 1) (k : V l G own cc nL ret rm Q0 mc ms cells slots (pc + 1) L S pr ad g) : V l G own cc nL ret rm Q0 mc ms cells slots pc L (a :: S) pr ad g := V_pu (fun p e s m args below meth c H locs ls Q hx hb hl kk => lv_pop hx hb hdg ha kk) k
theorem V_dup2 {a b : Value} (hdg : decode cc pc = .ok (.dup2, 1)) (ha : a.category = 1) (hb2 : b.category = 1) (k : V l G own cc nL ret rm Q0 mc ms cells slots (pc + 1) L (a :: b :: a :: b :: S) pr ad g) : V l G own cc nL ret rm Q0 mc ms cells slots pc L (a :: b :: S) pr ad g := V_pu (fun p e s m args below meth c H locs ls Q hx hb hl kk => lv_dup2_11 hx hb hdg ha hb2 kk) k
theorem V_if_eq {x : Int32} {off : Int} {tgt : Nat} (hdg : decode cc pc = .ok (.ifCond .eq off, 3)) (ht : (pc : Int) + off = (tgt : Int)) (kt : x = 0 → V l G own cc nL ret rm Q0 mc ms cells slots tgt L S pr ad g) (kf : ¬ (x = 0) → V l G own cc nL ret rm Q0 mc ms cells slots (pc + 3) L S pr ad g) : V l G own cc nL ret rm Q0 mc ms cells slots pc L (.int x :: S) pr ad g := V_br (P := x = 0) (fun p e s m args below meth c H locs ls Q hx hb kt kf => lv_if_eq hx hb hdg ht kt kf) kt kf
theorem V_if_ne {x : Int32} {off : Int} {tgt : Nat} (hdg : decode cc pc = .ok (.ifCond .ne off, 3)) (ht : (pc : Int) + off = (tgt : Int)) (kt : ¬ x = 0 → V l G own cc nL ret rm Q0 mc ms cells slots tgt L S pr ad g) (kf : x = 0 → V l G own cc nL ret rm Q0 mc ms cells slots (pc + 3) L S pr ad g) : V l G own cc nL ret rm Q0 mc ms cells slots pc L (.int x :: S) pr ad g := V_br (P := ¬ x = 0) (fun p e s m args below meth c H locs ls Q hx hb kt kf => lv_if_ne hx hb hdg ht kt (fun h => kf (fun q => q h))) kt (fun h => kf (Decidable.not_not.mp h))
theorem V_if_lt {x : Int32} {off : Int} {tgt : Nat} (hdg : decode cc pc = .ok (.ifCond .lt off, 3)) (ht : (pc : Int) + off = (tgt : Int)) (kt : x < 0 → V l G own cc nL ret rm Q0 mc ms cells slots tgt L S pr ad g) (kf : ¬ (x < 0) → V l G own cc nL ret rm Q0 mc ms cells slots (pc + 3) L S pr ad g) : V l G own cc nL ret rm Q0 mc ms cells slots pc L (.int x :: S) pr ad g := V_br (P := x < 0) (fun p e s m args below meth c H locs ls Q hx hb kt kf => lv_if_lt hx hb hdg ht kt kf) kt kf
theorem V_if_ge {x : Int32} {off : Int} {tgt : Nat} (hdg : decode cc pc = .ok (.ifCond .ge off, 3)) (ht : (pc : Int) + off = (tgt : Int)) (kt : 0 ≤ x → V l G own cc nL ret rm Q0 mc ms cells slots tgt L S pr ad g) (kf : ¬ (0 ≤ x) → V l G own cc nL ret rm Q0 mc ms cells slots (pc + 3) L S pr ad g) : V l G own cc nL ret rm Q0 mc ms cells slots pc L (.int x :: S) pr ad g := V_br (P := 0 ≤ x) (fun p e s m args below meth c H locs ls Q hx hb kt kf => lv_if_ge hx hb hdg ht kt kf) kt kf
theorem V_if_gt {x : Int32} {off : Int} {tgt : Nat} (hdg : decode cc pc = .ok (.ifCond .gt off, 3)) (ht : (pc : Int) + off = (tgt : Int)) (kt : 0 < x → V l G own cc nL ret rm Q0 mc ms cells slots tgt L S pr ad g) (kf : ¬ (0 < x) → V l G own cc nL ret rm Q0 mc ms cells slots (pc + 3) L S pr ad g) : V l G own cc nL ret rm Q0 mc ms cells slots pc L (.int x :: S) pr ad g := V_br (P := 0 < x) (fun p e s m args below meth c H locs ls Q hx hb kt kf => lv_if_gt hx hb hdg ht kt kf) kt kf
theorem V_if_le {x : Int32} {off : Int} {tgt : Nat} (hdg : decode cc pc = .ok (.ifCond .le off, 3)) (ht : (pc : Int) + off = (tgt : Int)) (kt : x ≤ 0 → V l G own cc nL ret rm Q0 mc ms cells slots tgt L S pr ad g) (kf : ¬ (x ≤ 0) → V l G own cc nL ret rm Q0 mc ms cells slots (pc + 3) L S pr ad g) : V l G own cc nL ret rm Q0 mc ms cells slots pc L (.int x :: S) pr ad g := V_br (P := x ≤ 0) (fun p e s m args below meth c H locs ls Q hx hb kt kf => lv_if_le hx hb hdg ht kt kf) kt kf
theorem V_ic_eq {x y : Int32} {off : Int} {tgt : Nat} (hdg : decode cc pc = .ok (.if_icmp .eq off, 3)) (ht : (pc : Int) + off = (tgt : Int)) (kt : x = y → V l G own cc nL ret rm Q0 mc ms cells slots tgt L S pr ad g) (kf : ¬ (x = y) → V l G own cc nL ret rm Q0 mc ms cells slots (pc + 3) L S pr ad g) : V l G own cc nL ret rm Q0 mc ms cells slots pc L (.int y :: .int x :: S) pr ad g := V_br (P := x = y) (fun p e s m args below meth c H locs ls Q hx hb kt kf => lv_icmp_eq hx hb hdg ht kt kf) kt kf
theorem V_ic_ne {x y : Int32} {off : Int} {tgt : Nat} (hdg : decode cc pc = .ok (.if_icmp .ne off, 3)) (ht : (pc : Int) + off = (tgt : Int)) (kt : ¬ x = y → V l G own cc nL ret rm Q0 mc ms cells slots tgt L S pr ad g) (kf : x = y → V l G own cc nL ret rm Q0 mc ms cells slots (pc + 3) L S pr ad g) : V l G own cc nL ret rm Q0 mc ms cells slots pc L (.int y :: .int x :: S) pr ad g := V_br (P := ¬ x = y) (fun p e s m args below meth c H locs ls Q hx hb kt kf => lv_icmp_ne hx hb hdg ht kt (fun h => kf (fun q => q h))) kt (fun h => kf (Decidable.not_not.mp h))
theorem V_ic_lt {x y : Int32} {off : Int} {tgt : Nat} (hdg : decode cc pc = .ok (.if_icmp .lt off, 3)) (ht : (pc : Int) + off = (tgt : Int)) (kt : x < y → V l G own cc nL ret rm Q0 mc ms cells slots tgt L S pr ad g) (kf : ¬ (x < y) → V l G own cc nL ret rm Q0 mc ms cells slots (pc + 3) L S pr ad g) : V l G own cc nL ret rm Q0 mc ms cells slots pc L (.int y :: .int x :: S) pr ad g := V_br (P := x < y) (fun p e s m args below meth c H locs ls Q hx hb kt kf => lv_icmp_lt hx hb hdg ht kt kf) kt kf
theorem V_ic_ge {x y : Int32} {off : Int} {tgt : Nat} (hdg : decode cc pc = .ok (.if_icmp .ge off, 3)) (ht : (pc : Int) + off = (tgt : Int)) (kt : y ≤ x → V l G own cc nL ret rm Q0 mc ms cells slots tgt L S pr ad g) (kf : ¬ (y ≤ x) → V l G own cc nL ret rm Q0 mc ms cells slots (pc + 3) L S pr ad g) : V l G own cc nL ret rm Q0 mc ms cells slots pc L (.int y :: .int x :: S) pr ad g := V_br (P := y ≤ x) (fun p e s m args below meth c H locs ls Q hx hb kt kf => lv_icmp_ge hx hb hdg ht kt kf) kt kf
theorem V_ic_gt {x y : Int32} {off : Int} {tgt : Nat} (hdg : decode cc pc = .ok (.if_icmp .gt off, 3)) (ht : (pc : Int) + off = (tgt : Int)) (kt : y < x → V l G own cc nL ret rm Q0 mc ms cells slots tgt L S pr ad g) (kf : ¬ (y < x) → V l G own cc nL ret rm Q0 mc ms cells slots (pc + 3) L S pr ad g) : V l G own cc nL ret rm Q0 mc ms cells slots pc L (.int y :: .int x :: S) pr ad g := V_br (P := y < x) (fun p e s m args below meth c H locs ls Q hx hb kt kf => lv_icmp_gt hx hb hdg ht kt kf) kt kf
theorem V_ic_le {x y : Int32} {off : Int} {tgt : Nat} (hdg : decode cc pc = .ok (.if_icmp .le off, 3)) (ht : (pc : Int) + off = (tgt : Int)) (kt : x ≤ y → V l G own cc nL ret rm Q0 mc ms cells slots tgt L S pr ad g) (kf : ¬ (x ≤ y) → V l G own cc nL ret rm Q0 mc ms cells slots (pc + 3) L S pr ad g) : V l G own cc nL ret rm Q0 mc ms cells slots pc L (.int y :: .int x :: S) pr ad g := V_br (P := x ≤ y) (fun p e s m args below meth c H locs ls Q hx hb kt kf => lv_icmp_le hx hb hdg ht kt kf) kt kf
theorem V_goto {off : Int} {tgt : Nat} (hdg : decode cc pc = .ok (.goto off, 3)) (ht : (pc : Int) + off = (tgt : Int)) (k : V l G own cc nL ret rm Q0 mc ms cells slots tgt L S pr ad g) : V l G own cc nL ret rm Q0 mc ms cells slots pc L S pr ad g := V_pu (fun p e s m args below meth c H locs ls Q hx hb hl kk => lv_goto hx hb hdg ht kk) k
theorem V_tabI {dflt lo hi : Int} {offs : Array Int} {len : Nat} {x v : Int32} {off : Int} {tgt : Nat} (hdg : decode cc pc = .ok (.tableswitch dflt lo hi offs, len)) (hx2 : x = v) (h1 : ¬ v.toInt < lo) (h2 : ¬ hi < v.toInt) (ho : offs[(v.toInt - lo).toNat]? = some off) (ht : (pc : Int) + off = (tgt : Int)) (k : V l G own cc nL ret rm Q0 mc ms cells slots tgt L S pr ad g) : V l G own cc nL ret rm Q0 mc ms cells slots pc L (.int x :: S) pr ad g := V_pu (fun p e s m args below meth c H locs ls Q hx hb hl kk => lv_tableIn hx hb hdg (hx2 ▸ h1) (hx2 ▸ h2) (hx2 ▸ ho) ht kk) k
theorem V_tabO {dflt lo hi : Int} {offs : Array Int} {len : Nat} {x : Int32} {tgt : Nat} (hdg : decode cc pc = .ok (.tableswitch dflt lo hi offs, len)) (h : x.toInt < lo ∨ hi < x.toInt) (ht : (pc : Int) + dflt = (tgt : Int)) (k : V l G own cc nL ret rm Q0 mc ms cells slots tgt L S pr ad g) : V l G own cc nL ret rm Q0 mc ms cells slots pc L (.int x :: S) pr ad g := V_pu (fun p e s m args below meth c H locs ls Q hx hb hl kk => lv_tableOut hx hb hdg h ht kk) k
theorem V_look {dflt : Int} {ps : Array (Int × Int)} {len : Nat} {x : Int32} {off : Int} {tgt : Nat} (hdg : decode cc pc = .ok (.lookupswitch dflt ps, len)) (hp : (ps.toList.zip (ps.toList.drop 1)).all (fun (a, next) => a.1 < next.1) = true) (ho : Op.lookupswitch.offset ps.toList dflt x.toInt = off) (ht : (pc : Int) + off = (tgt : Int)) (k : V l G own cc nL ret rm Q0 mc ms cells slots tgt L S pr ad g) : V l G own cc nL ret rm Q0 mc ms cells slots pc L (.int x :: S) pr ad g := V_pu (fun p e s m args below meth c H locs ls Q hx hb hl kk => lv_lookup hx hb hdg hp ho ht kk) k
theorem V_nnR {x : Nat} {off : Int} {tgt : Nat} (hdg : decode cc pc = .ok (.ifnonnull off, 3)) (ht : (pc : Int) + off = (tgt : Int)) (k : V l G own cc nL ret rm Q0 mc ms cells slots tgt L S pr ad g) : V l G own cc nL ret rm Q0 mc ms cells slots pc L (.ref x :: S) pr ad g := V_pu (fun p e s m args below meth c H locs ls Q hx hb hl kk => lv_ifnonnull hx hb hdg ht kk) k
theorem V_nnN {off : Int} (hdg : decode cc pc = .ok (.ifnonnull off, 3)) (k : V l G own cc nL ret rm Q0 mc ms cells slots (pc + 3) L S pr ad g) : V l G own cc nL ret rm Q0 mc ms cells slots pc L (.null :: S) pr ad g := V_pu (fun p e s m args below meth c H locs ls Q hx hb hl kk => lv_ifnonnullN hx hb hdg kk) k
theorem V_aldN {j : Fin 4} (hdg : decode cc pc = .ok (.aload_n j, 1)) (i : Nat) (hi : L[i]? = some ((j : Nat), .null)) (k : V l G own cc nL ret rm Q0 mc ms cells slots (pc + 1) L (.null :: S) pr ad g) : V l G own cc nL ret rm Q0 mc ms cells slots pc L S pr ad g := V_pu (fun p e s m args below meth c H locs ls Q hx hb hl kk => lv_aload_nN hx hb hdg rfl (lv_at hl i hi) kk) k
theorem V_astN {j : Fin 4} {L2 : List (Nat × Value)} (hdg : decode cc pc = .ok (.astore_n j, 1)) (hn : (j : Nat) < nL) (h2 : ((j : Nat), Value.null) :: L.filter (fun q => !(q.1 == (j : Nat)) && !(q.1 + 1 == (j : Nat) && q.2.category == 2)) = L2) (k : V l G own cc nL ret rm Q0 mc ms cells slots (pc + 1) L2 S pr ad g) : V l G own cc nL ret rm Q0 mc ms cells slots pc L (.null :: S) pr ad g := V_st (fun p e s m args below meth c H locs ls Q hx hb hl kk => lv_astore_nN hx hb hdg rfl hl hn h2 kk) k
theorem V_ldc {idx : Nat} {v : Int32} (hq : Cond.constant own idx v ∈ wsL_law) (hdg : decode cc pc = .ok (.ldc idx, 2)) (k : V l G own cc nL ret rm Q0 mc ms cells slots (pc + 2) L (.int v :: S) pr ad g) : V l G own cc nL ret rm Q0 mc ms cells slots pc L S pr ad g := fun p e s m args below meth c H locs A ls hC hR hS hl => lv_ldc hC.1 hC.2.1 hC.2.2.2.2.2.1 (hC.2.2.2.2.2.2.1 _ hq) hdg (k p e s m args below meth c H locs A ls hC hR hS hl)
theorem V_ldcw {idx : Nat} {v : Int32} (hq : Cond.constant own idx v ∈ wsL_law) (hdg : decode cc pc = .ok (.ldc_w idx, 3)) (k : V l G own cc nL ret rm Q0 mc ms cells slots (pc + 3) L (.int v :: S) pr ad g) : V l G own cc nL ret rm Q0 mc ms cells slots pc L S pr ad g := fun p e s m args below meth c H locs A ls hC hR hS hl => lv_ldcw hC.1 hC.2.1 hC.2.2.2.2.2.1 (hC.2.2.2.2.2.2.1 _ hq) hdg (k p e s m args below meth c H locs A ls hC hR hS hl)
theorem V_ldc2 {idx : Nat} {v : Int64} (hq : Cond.constantLong own idx v ∈ wsL_law) (hdg : decode cc pc = .ok (.ldc2_w idx, 3)) (k : V l G own cc nL ret rm Q0 mc ms cells slots (pc + 3) L (.long v :: S) pr ad g) : V l G own cc nL ret rm Q0 mc ms cells slots pc L S pr ad g := fun p e s m args below meth c H locs A ls hC hR hS hl => lv_ldc2 hC.1 hC.2.1 hC.2.2.2.2.2.1 (hC.2.2.2.2.2.2.1 _ hq) hdg (k p e s m args below meth c H locs A ls hC hR hS hl)
theorem V_iret {x : Int32} (hdg : decode cc pc = .ok (.ireturn, 1)) (hr : ret = some .int) (hq : Q0 (some (.int x)) pr ad g) : V l G own cc nL ret rm Q0 mc ms mc ms pc L [.int x] pr ad g := fun p e s m args below meth c H locs A ls hC hR hS hl => W.iret (hlocks := hC.2.2.2.2.1) hC.1 hC.2.1 (by rw [hC.2.2.2.1]; exact hr) (fun t ht hW => ⟨⟨some (.int x), pr, ad, g, rfl, hq, by rw [ht]; exact hR⟩, hS.F ht⟩) hS.2.2 hdg
theorem V_zret {x : Int32} (hdg : decode cc pc = .ok (.ireturn, 1)) (hr : ret = some .boolean) (hn : narrow .boolean (.int x) = .int x) (hq : Q0 (some (.int x)) pr ad g) : V l G own cc nL ret rm Q0 mc ms mc ms pc L [.int x] pr ad g := fun p e s m args below meth c H locs A ls hC hR hS hl => W.zret (hlocks := hC.2.2.2.2.1) hC.1 hC.2.1 (by rw [hC.2.2.2.1]; exact hr) hn (fun t ht hW => ⟨⟨some (.int x), pr, ad, g, rfl, hq, by rw [ht]; exact hR⟩, hS.F ht⟩) hS.2.2 hdg
theorem V_lret {x : Int64} (hdg : decode cc pc = .ok (.lreturn, 1)) (hr : ret = some .long) (hq : Q0 (some (.long x)) pr ad g) : V l G own cc nL ret rm Q0 mc ms mc ms pc L [.long x] pr ad g := fun p e s m args below meth c H locs A ls hC hR hS hl => W.lret (hlocks := hC.2.2.2.2.1) hC.1 hC.2.1 (by rw [hC.2.2.2.1]; exact hr) (fun t ht hW => ⟨⟨some (.long x), pr, ad, g, rfl, hq, by rw [ht]; exact hR⟩, hS.F ht⟩) hS.2.2 hdg
theorem V_aret {x : Nat} {C : String} (hdg : decode cc pc = .ok (.areturn, 1)) (hr : ret = some (.object C)) (hq : Q0 (some (.ref x)) pr ad g) : V l G own cc nL ret rm Q0 mc ms mc ms pc L [.ref x] pr ad g := fun p e s m args below meth c H locs A ls hC hR hS hl => W.aret (hlocks := hC.2.2.2.2.1) hC.1 hC.2.1 (by rw [hC.2.2.2.1]; exact hr) (Or.inl ⟨_, rfl⟩) (Or.inr ⟨_, rfl⟩) (fun t ht hW => ⟨⟨some (.ref x), pr, ad, g, rfl, hq, by rw [ht]; exact hR⟩, hS.F ht⟩) hS.2.2 hdg
theorem V_vret (hdg : decode cc pc = .ok (.return_, 1)) (hr : ret = none) (hq : Q0 none pr ad g) : V l G own cc nL ret rm Q0 mc ms mc ms pc L [] pr ad g := fun p e s m args below meth c H locs A ls hC hR hS hl => W.vret (hlocks := hC.2.2.2.2.1) hC.1 hC.2.1 (by rw [hC.2.2.2.1]; exact hr) (fun t ht hW => ⟨⟨none, pr, ad, g, rfl, hq, by rw [ht]; exact hR⟩, hS.F ht⟩) hS.2.2 hdg
theorem V_get {t k i idx : Nat} {C : String} {T : u_T} {N : Nat} {fs : List Value} {v : Value} (hin : ∀ w ∈ u_ws C T N, w ∈ wsL_law) (hc : vwCl[t]? = some (C, T, N)) (hp : pr t k) (he : mm_ent G ad g t k 0 = some (.inr (t, fs))) (hi : i < N) (hq : Cond.fieldLink own idx (T i).1 (T i).2.1 (T i).2.2.1 ∈ wsL_law) (hv : fs[i]? = some v) (hdg : decode cc pc = .ok (.getfield idx, 3)) (kk : V l G own cc nL ret rm Q0 mc ms cells slots (pc + 3) L (v :: S) pr ad g) : V l G own cc nL ret rm Q0 mc ms cells slots pc L (.ref (ad t k 0) :: S) pr ad g := by
  intro p e s m args below meth c H locs A ls hC hR hS hl
  obtain ⟨Ls, f, hP, hD, hL, hJ⟩ := id hR
  obtain ⟨hm, hf⟩ := hL.1 t k 0 _ hp he
  obtain ⟨q0, hq0⟩ := va_pl_get (X := []) (f := f) hm
  rw [hf] at hq0
  exact va_get hC.1 hC.2.1 hC.2.2.2.2.2.2.1 hin hC.2.2.2.2.2.1 hC.2.2.2.2.2.2.2.1.1 hP q0 hq0 hc i hi (hC.2.2.2.2.2.2.1 _ hq) (fun x h => h) hv hdg (kk p e s m args below meth c H locs A ls hC hR hS hl)
theorem V_getN {t k i idx : Nat} {C : String} {T : u_T} {N : Nat} {fs : List Value} {v : Value} (hin : ∀ w ∈ u_ws C T N, w ∈ wsL_law) (hc : vwCl[t]? = some (C, T, N)) (hp : pr t k) (he : mm_ent G ad g t k 0 = some (.inr (t, fs))) (hi : i < N) (hq : (own, idx, (T i).1, (T i).2.1, (T i).2.2.1) ∈ mm_nF) (hv : fs[i]? = some v) (hdg : decode cc pc = .ok (.getfield idx, 3)) (kk : V l G own cc nL ret rm Q0 mc ms cells slots (pc + 3) L (v :: S) pr ad g) : V l G own cc nL ret rm Q0 mc ms cells slots pc L (.ref (ad t k 0) :: S) pr ad g := by
  intro p e s m args below meth c H locs A ls hC hR hS hl
  obtain ⟨Ls, f, hP, hD, hL, hJ⟩ := id hR
  obtain ⟨hm, hf⟩ := hL.1 t k 0 _ hp he
  obtain ⟨q0, hq0⟩ := va_pl_get (X := []) (f := f) hm
  rw [hf] at hq0
  exact va_getN hC.1 hC.2.1 hC.2.2.2.2.2.2.1 hin hC.2.2.2.2.2.1 hC.2.2.2.2.2.2.2.1.1 hP q0 hq0 hc i hi (va_Nw.use rfl (hC.2.2.2.2.2.2.2.1.2.1 _ hq)) (fun x h => h) hv hdg (kk p e s m args below meth c H locs A ls hC hR hS hl)
theorem V_put {t k i idx : Nat} {C : String} {T : u_T} {N : Nat} {ty0 : Nat → FieldType} {fs : List Value} {v : Value} {ty : FieldType} {g' : Nat → Nat → Nat → Int32} (hin : ∀ w ∈ u_ws C T N, w ∈ wsL_law) (hc : vwCl[t]? = some (C, T, N)) (hty : ∀ k, k < N → parseFieldDescriptor (T k).2.2.1 = some (ty0 k)) (hnm : ∀ a, a < N → ∀ b, b < N → a ≠ b → (T a).2.1 ≠ (T b).2.1) (hp : pr t k) (he : mm_ent G ad g t k 0 = some (.inr (t, fs))) (hi : i < N) (hq : Cond.fieldLink own idx (T i).1 (T i).2.1 (T i).2.2.1 ∈ wsL_law) (hfin : (T i).2.2.2 = false) (hd : parseFieldDescriptor (T i).2.2.1 = some ty) (hn : narrow ty v = v) (hfit : fits ty v = true) (hlen : i < fs.length) (he' : mm_ent G ad g' t k 0 = some (.inr (t, fs.set i v))) (ho : ∀ t' k' c' : Nat, (t' ≠ 2 → k' = 0) → ¬ (t' = t ∧ k' = k ∧ c' = 0) → mm_ent G ad g' t' k' c' = mm_ent G ad g t' k' c') (hdg : decode cc pc = .ok (.putfield idx, 3)) (kk : V l G own cc nL ret rm Q0 mc ms cells slots (pc + 3) L S pr ad g') : V l G own cc nL ret rm Q0 mc ms cells slots pc L (v :: .ref (ad t k 0) :: S) pr ad g := by
  intro p e s m args below meth c H locs A ls hC hR hS hl
  obtain ⟨Ls, f, hP, hD, hL, hJ⟩ := hR
  obtain ⟨hm, hf⟩ := hL.1 t k 0 _ hp he
  obtain ⟨q0, hq0⟩ := va_pl_get (X := []) (f := f) hm
  have hset := fun e2 : va_E => va_pl_set (A := A) (X := []) (e := e2) hD hm hq0
  rw [hf] at hq0
  refine va_put hC.1 hC.2.1 hC.2.2.2.2.2.2.1 hin ty0 hty hnm hC.2.2.2.2.2.1 hC.2.2.2.2.2.2.2.1.1 hP hD hS q0 hq0 hc i hi (hC.2.2.2.2.2.2.1 _ hq) (fun x h => h) hfin hd hn hfit hlen hdg (fun H1 locs1 hP1 hD1 hS1 => ?_)
  have h3 := hset (.inr (t, fs.set i v))
  refine kk p e s m args below meth c H1 locs1 A ls hC (mm_upd hL hJ hp he he' (fun t' k' c' hp' h => ho t' k' c' (hJ.2 t' k' hp') h) ?_ ?_) hS1 hl
  · have h4 := hP1
    rw [show (va_pl Ls f).set q0 _ = _ from h3] at h4
    exact h4
  · have h4 := hD1
    rw [show (va_pl Ls f).set q0 _ = _ from h3] at h4
    exact h4
theorem V_ild {t k c0 n : Nat} {cA : ClassId} {F : Nat → Int32} {x : Int32} (hp : pr t k) (he : mm_ent G ad g t k c0 = some (.inl (cA, n, .inl F))) (hty : (mm_ty G)[0]? = some (cA, .int)) (hin : vp_in x n) (hdg : decode cc pc = .ok (.iaload, 1)) (kk : V l G own cc nL ret rm Q0 mc ms cells slots (pc + 1) L (.int (F x.toNatClampNeg) :: S) pr ad g) : V l G own cc nL ret rm Q0 mc ms cells slots pc L (.int x :: .ref (ad t k c0) :: S) pr ad g := by
  intro p e s m args below meth c H locs A ls hC hR hS hl
  obtain ⟨Ls, f, hP, hD, hL, hJ⟩ := id hR
  obtain ⟨hm, hf⟩ := hL.1 t k c0 _ hp he
  obtain ⟨q0, hq0⟩ := va_pl_get (X := []) (f := f) hm
  rw [hf] at hq0
  exact va_iald hC.1 hC.2.1 hC.2.2.2.2.2.2.2.1.1 hP q0 0 hq0 hty hin hdg (kk p e s m args below meth c H locs A ls hC hR hS hl)
theorem V_ist {t k c0 n : Nat} {cA : ClassId} {F : Nat → Int32} {x y : Int32} {g' : Nat → Nat → Nat → Int32} (hp : pr t k) (he : mm_ent G ad g t k c0 = some (.inl (cA, n, .inl F))) (hty : (mm_ty G)[0]? = some (cA, .int)) (hin : vp_in x n) (he' : mm_ent G ad g' t k c0 = some (.inl (cA, n, .inl (upd F x.toNatClampNeg y)))) (ho : ∀ t' k' c' : Nat, (t' ≠ 2 → k' = 0) → ¬ (t' = t ∧ k' = k ∧ c' = c0) → mm_ent G ad g' t' k' c' = mm_ent G ad g t' k' c') (hdg : decode cc pc = .ok (.iastore, 1)) (kk : V l G own cc nL ret rm Q0 mc ms cells slots (pc + 1) L S pr ad g') : V l G own cc nL ret rm Q0 mc ms cells slots pc L (.int y :: .int x :: .ref (ad t k c0) :: S) pr ad g := by
  intro p e s m args below meth c H locs A ls hC hR hS hl
  obtain ⟨Ls, f, hP, hD, hL, hJ⟩ := hR
  obtain ⟨hm, hf⟩ := hL.1 t k c0 _ hp he
  obtain ⟨q0, hq0⟩ := va_pl_get (X := []) (f := f) hm
  have hset := fun e2 : va_E => va_pl_set (A := A) (X := []) (e := e2) hD hm hq0
  rw [hf] at hq0
  refine va_iast hC.1 hC.2.1 hC.2.2.2.2.2.2.2.1.1 hP hD hS q0 0 hq0 hty hin hdg (fun H1 locs1 hP1 hD1 hS1 => ?_)
  have h3 := hset (.inl (cA, n, .inl (upd F x.toNatClampNeg y)))
  refine kk p e s m args below meth c H1 locs1 A ls hC (mm_upd hL hJ hp he he' (fun t' k' c' hp' h => ho t' k' c' (hJ.2 t' k' hp') h) ?_ ?_) hS1 hl
  · have h4 := hP1
    rw [show (va_pl Ls f).set q0 _ = _ from h3] at h4
    exact h4
  · have h4 := hD1
    rw [show (va_pl Ls f).set q0 _ = _ from h3] at h4
    exact h4
theorem V_zld {t k c0 n : Nat} {cA : ClassId} {F : Nat → Int32} {x : Int32} (hp : pr t k) (he : mm_ent G ad g t k c0 = some (.inl (cA, n, .inl F))) (hty : (mm_ty G)[1]? = some (cA, .boolean)) (hin : vp_in x n) (hdg : decode cc pc = .ok (.baload, 1)) (kk : V l G own cc nL ret rm Q0 mc ms cells slots (pc + 1) L (.int (F x.toNatClampNeg) :: S) pr ad g) : V l G own cc nL ret rm Q0 mc ms cells slots pc L (.int x :: .ref (ad t k c0) :: S) pr ad g := by
  intro p e s m args below meth c H locs A ls hC hR hS hl
  obtain ⟨Ls, f, hP, hD, hL, hJ⟩ := id hR
  obtain ⟨hm, hf⟩ := hL.1 t k c0 _ hp he
  obtain ⟨q0, hq0⟩ := va_pl_get (X := []) (f := f) hm
  rw [hf] at hq0
  exact va_zald hC.1 hC.2.1 hC.2.2.2.2.2.2.2.1.1 hP q0 1 hq0 hty hin hdg (kk p e s m args below meth c H locs A ls hC hR hS hl)
theorem V_zst {t k c0 n : Nat} {cA : ClassId} {F : Nat → Int32} {x y : Int32} {g' : Nat → Nat → Nat → Int32} (hp : pr t k) (he : mm_ent G ad g t k c0 = some (.inl (cA, n, .inl F))) (hty : (mm_ty G)[1]? = some (cA, .boolean)) (hin : vp_in x n) (he' : mm_ent G ad g' t k c0 = some (.inl (cA, n, .inl (upd F x.toNatClampNeg (vp_nar .boolean y))))) (ho : ∀ t' k' c' : Nat, (t' ≠ 2 → k' = 0) → ¬ (t' = t ∧ k' = k ∧ c' = c0) → mm_ent G ad g' t' k' c' = mm_ent G ad g t' k' c') (hdg : decode cc pc = .ok (.bastore, 1)) (kk : V l G own cc nL ret rm Q0 mc ms cells slots (pc + 1) L S pr ad g') : V l G own cc nL ret rm Q0 mc ms cells slots pc L (.int y :: .int x :: .ref (ad t k c0) :: S) pr ad g := by
  intro p e s m args below meth c H locs A ls hC hR hS hl
  obtain ⟨Ls, f, hP, hD, hL, hJ⟩ := hR
  obtain ⟨hm, hf⟩ := hL.1 t k c0 _ hp he
  obtain ⟨q0, hq0⟩ := va_pl_get (X := []) (f := f) hm
  have hset := fun e2 : va_E => va_pl_set (A := A) (X := []) (e := e2) hD hm hq0
  rw [hf] at hq0
  refine va_zast hC.1 hC.2.1 hC.2.2.2.2.2.2.2.1.1 hP hD hS q0 1 hq0 hty hin hdg (fun H1 locs1 hP1 hD1 hS1 => ?_)
  have h3 := hset (.inl (cA, n, .inl (upd F x.toNatClampNeg (vp_nar .boolean y))))
  refine kk p e s m args below meth c H1 locs1 A ls hC (mm_upd hL hJ hp he he' (fun t' k' c' hp' h => ho t' k' c' (hJ.2 t' k' hp') h) ?_ ?_) hS1 hl
  · have h4 := hP1
    rw [show (va_pl Ls f).set q0 _ = _ from h3] at h4
    exact h4
  · have h4 := hD1
    rw [show (va_pl Ls f).set q0 _ = _ from h3] at h4
    exact h4
theorem V_ald {t k c0 n : Nat} {cA : ClassId} {F : Nat → Option Nat} {x : Int32} (hp : pr t k) (he : mm_ent G ad g t k c0 = some (.inl (cA, n, .inr (.inr (.inr (.inr F)))))) (hty : (mm_ty G)[2]? = some (cA, .object RX2)) (hin : vp_in x n) (hdg : decode cc pc = .ok (.aaload, 1)) (kk : V l G own cc nL ret rm Q0 mc ms cells slots (pc + 1) L (va_rf (F x.toNatClampNeg) :: S) pr ad g) : V l G own cc nL ret rm Q0 mc ms cells slots pc L (.int x :: .ref (ad t k c0) :: S) pr ad g := by
  intro p e s m args below meth c H locs A ls hC hR hS hl
  obtain ⟨Ls, f, hP, hD, hL, hJ⟩ := id hR
  obtain ⟨hm, hf⟩ := hL.1 t k c0 _ hp he
  obtain ⟨q0, hq0⟩ := va_pl_get (X := []) (f := f) hm
  rw [hf] at hq0
  exact va_aldq hC.1 hC.2.1 hC.2.2.2.2.2.2.2.1.1 hP q0 2 hq0 hty hin hdg (kk p e s m args below meth c H locs A ls hC hR hS hl)
theorem V_ast {t k c0 n t2 k2 : Nat} {cA : ClassId} {F : Nat → Option Nat} {x : Int32} {vs : List Value} {g' : Nat → Nat → Nat → Int32} (hp : pr t k) (he : mm_ent G ad g t k c0 = some (.inl (cA, n, .inr (.inr (.inr (.inr F)))))) (hty : (mm_ty G)[2]? = some (cA, .object RX2)) (hp2 : pr 2 k2) (he2 : mm_ent G ad g 2 k2 0 = some (.inr (2, vs))) (hin : vp_in x n) (he' : mm_ent G ad g' t k c0 = some (.inl (cA, n, .inr (.inr (.inr (.inr (va_up F x.toNatClampNeg (some (ad 2 k2 0))))))))) (ho : ∀ t' k' c' : Nat, (t' ≠ 2 → k' = 0) → ¬ (t' = t ∧ k' = k ∧ c' = c0) → mm_ent G ad g' t' k' c' = mm_ent G ad g t' k' c') (hdg : decode cc pc = .ok (.aastore, 1)) (kk : V l G own cc nL ret rm Q0 mc ms cells slots (pc + 1) L S pr ad g') : V l G own cc nL ret rm Q0 mc ms cells slots pc L (.ref (ad 2 k2 0) :: .int x :: .ref (ad t k c0) :: S) pr ad g := by
  intro p e s m args below meth c H locs A ls hC hR hS hl
  obtain ⟨Ls, f, hP, hD, hL, hJ⟩ := hR
  obtain ⟨hm, hf⟩ := hL.1 t k c0 _ hp he
  obtain ⟨hm2, hf2⟩ := hL.1 2 k2 0 _ hp2 he2
  obtain ⟨q0, hq0⟩ := va_pl_get (X := []) (f := f) hm
  obtain ⟨q2, hq2⟩ := va_pl_get (X := []) (f := f) hm2
  have hset := fun e2 : va_E => va_pl_set (A := A) (X := []) (e := e2) hD hm hq0
  rw [hf] at hq0
  rw [hf2] at hq2
  refine va_astq hC.1 hC.2.1 hC.2.2.2.2.2.2.2.1.1 hP hD hS q0 2 q2 2 (r := (RX2, TX2, 10)) hq0 hty hq2 rfl hin hdg (fun H1 locs1 hP1 hD1 hS1 => ?_)
  have h3 := hset (.inl (cA, n, .inr (.inr (.inr (.inr (va_up F x.toNatClampNeg (some (ad 2 k2 0))))))))
  refine kk p e s m args below meth c H1 locs1 A ls hC (mm_upd hL hJ hp he he' (fun t' k' c' hp' h => ho t' k' c' (hJ.2 t' k' hp') h) ?_ ?_) hS1 hl
  · have h4 := hP1
    rw [show (va_pl Ls f).set q0 _ = _ from h3] at h4
    exact h4
  · have h4 := hD1
    rw [show (va_pl Ls f).set q0 _ = _ from h3] at h4
    exact h4
theorem V_acp {t k c0 n t1 k1 c1 n1 idx : Nat} {F F1 : Nat → Int32} {sp dp x : Int32} {g' : Nat → Nat → Nat → Int32} (hq : Cond.methodLink own idx arraycopyName ∈ wsL_law) (hq1 : Cond.native arraycopyName ∈ wsL_law) (hq2 : Cond.static arraycopyName ∈ wsL_law) (hq3 : Cond.initialized "java/lang/System" ∈ wsL_law) (hp : pr t k) (he : mm_ent G ad g t k c0 = some (.inl (G.2.1, n, .inl F))) (hp1 : pr t1 k1) (he1 : mm_ent G ad g t1 k1 c1 = some (.inl (G.2.1, n1, .inl F1))) (h1 : ¬ sp < 0) (h2 : ¬ dp < 0) (h3 : ¬ x < 0) (h4 : sp.toNatClampNeg + x.toNatClampNeg ≤ n) (h5 : dp.toNatClampNeg + x.toNatClampNeg ≤ n1) (he' : mm_ent G ad g' t1 k1 c1 = some (.inl (G.2.1, n1, .inl (va_cpy F F1 sp.toNatClampNeg dp.toNatClampNeg x.toNatClampNeg)))) (ho : ∀ t' k' c' : Nat, (t' ≠ 2 → k' = 0) → ¬ (t' = t1 ∧ k' = k1 ∧ c' = c1) → mm_ent G ad g' t' k' c' = mm_ent G ad g t' k' c') (hfr : 1 ≤ rm.frames) (hlo : (S.map fun v => v.category).sum + (nativeFrameWords "java/lang/System" "arraycopy" 5 + 11) ≤ rm.locals) (hdg : decode cc pc = .ok (.invokestatic idx, 3)) (kk : V l G own cc nL ret rm Q0 mc ms cells slots (pc + 3) L S pr ad g') : V l G own cc nL ret rm Q0 mc ms cells slots pc L (.int x :: .int dp :: .ref (ad t1 k1 c1) :: .int sp :: .ref (ad t k c0) :: S) pr ad g := by
  intro p e s m args below meth c H locs A ls hC hR hS hl
  obtain ⟨Ls, f, hP, hD, hL, hJ⟩ := hR
  obtain ⟨hm, hf⟩ := hL.1 t k c0 _ hp he
  obtain ⟨hm1, hf1⟩ := hL.1 t1 k1 c1 _ hp1 he1
  obtain ⟨q0, hq0⟩ := va_pl_get (X := []) (f := f) hm
  obtain ⟨q1, hq1x⟩ := va_pl_get (X := []) (f := f) hm1
  have hset := fun e2 : va_E => va_pl_set (A := A) (X := []) (e := e2) hD hm1 hq1x
  rw [hf] at hq0
  rw [hf1] at hq1x
  refine va_copyi hC.1 hC.2.1 (hC.2.2.1.trans hl.1.symm) hC.2.2.2.2.2.1 (hC.2.2.2.2.2.2.1 _ hq) (hC.2.2.2.2.2.2.1 _ hq1) (hC.2.2.2.2.2.2.1 _ hq2) (hC.2.2.2.2.2.2.1 _ hq3) hC.2.2.2.2.2.2.2.1.1 hP hD hS q0 q1 0 0 hq0 hq1x (ty := .int) rfl rfl rfl h1 h2 h3 h4 h5 (fun i _ => rfl) hfr hlo hdg (fun H1 locs1 hP1 hD1 hS1 => ?_)
  have h3 := hset (.inl (G.2.1, n1, .inl (va_cpy F F1 sp.toNatClampNeg dp.toNatClampNeg x.toNatClampNeg)))
  refine kk p e s m args below meth c H1 locs1 A ls hC (mm_upd hL hJ hp1 he1 he' (fun t' k' c' hp' h => ho t' k' c' (hJ.2 t' k' hp') h) ?_ ?_) hS1 hl
  · have h4 := hP1
    rw [show (va_pl Ls f).set q1 _ = _ from h3] at h4
    exact h4
  · have h4 := hD1
    rw [show (va_pl Ls f).set q1 _ = _ from h3] at h4
    exact h4
theorem V_mmin {x y : Int32} {idx : Nat} (hq : Cond.methodLink own idx Lib.Math.min.name ∈ wsL_law) (hq1 : Cond.static Lib.Math.min.name ∈ wsL_law) (hq2 : Cond.initialized "java/lang/Math" ∈ wsL_law) (hq3 : Cond.code Lib.Math.min.name Lib.Math.min.code 2 (some .int) ∈ wsL_law) (hfr : 1 ≤ rm.frames) (hlo : (S.map fun v => v.category).sum + 13 ≤ rm.locals) (hc : cells ≤ rm.cells) (hs : slots ≤ rm.slots) (hdg : decode cc pc = .ok (.invokestatic idx, 3)) (k : V l G own cc nL ret rm Q0 mc ms cells slots (pc + 3) L (.int (if y < x then y else x) :: S) pr ad g) : V l G own cc nL ret rm Q0 mc ms cells slots pc L (.int y :: .int x :: S) pr ad g := fun p e s m args below meth c H locs A ls hC hR hS hl => va_mmin hC.1 hC.2.1 (hC.2.2.1.trans hl.1.symm) hC.2.2.2.2.2.1 (hC.2.2.2.2.2.2.1 _ hq) (hC.2.2.2.2.2.2.1 _ hq1) (hC.2.2.2.2.2.2.1 _ hq2) (hC.2.2.2.2.2.2.1 _ hq3) hfr hlo hc hs hdg (k p e s m args below meth c H locs A ls hC hR hS hl)
theorem V_mmax {x y : Int32} {idx : Nat} (hq : Cond.methodLink own idx Lib.Math.max.name ∈ wsL_law) (hq1 : Cond.static Lib.Math.max.name ∈ wsL_law) (hq2 : Cond.initialized "java/lang/Math" ∈ wsL_law) (hq3 : Cond.code Lib.Math.max.name Lib.Math.max.code 2 (some .int) ∈ wsL_law) (hfr : 1 ≤ rm.frames) (hlo : (S.map fun v => v.category).sum + 13 ≤ rm.locals) (hc : cells ≤ rm.cells) (hs : slots ≤ rm.slots) (hdg : decode cc pc = .ok (.invokestatic idx, 3)) (k : V l G own cc nL ret rm Q0 mc ms cells slots (pc + 3) L (.int (if x < y then y else x) :: S) pr ad g) : V l G own cc nL ret rm Q0 mc ms cells slots pc L (.int y :: .int x :: S) pr ad g := fun p e s m args below meth c H locs A ls hC hR hS hl => va_mmax hC.1 hC.2.1 (hC.2.2.1.trans hl.1.symm) hC.2.2.2.2.2.1 (hC.2.2.2.2.2.2.1 _ hq) (hC.2.2.2.2.2.2.1 _ hq1) (hC.2.2.2.2.2.2.1 _ hq2) (hC.2.2.2.2.2.2.1 _ hq3) hfr hlo hc hs hdg (k p e s m args below meth c H locs A ls hC hR hS hl)
theorem V_mabs {x : Int32} {idx : Nat} (hq : Cond.methodLink own idx Lib.Math.abs.name ∈ wsL_law) (hq1 : Cond.static Lib.Math.abs.name ∈ wsL_law) (hq2 : Cond.initialized "java/lang/Math" ∈ wsL_law) (hq3 : Cond.code Lib.Math.abs.name Lib.Math.abs.code 1 (some .int) ∈ wsL_law) (hfr : 1 ≤ rm.frames) (hlo : (S.map fun v => v.category).sum + 13 ≤ rm.locals) (hc : cells ≤ rm.cells) (hs : slots ≤ rm.slots) (hdg : decode cc pc = .ok (.invokestatic idx, 3)) (k : V l G own cc nL ret rm Q0 mc ms cells slots (pc + 3) L (.int (if 0 ≤ x then x else 0 - x) :: S) pr ad g) : V l G own cc nL ret rm Q0 mc ms cells slots pc L (.int x :: S) pr ad g := fun p e s m args below meth c H locs A ls hC hR hS hl => va_mabs hC.1 hC.2.1 (hC.2.2.1.trans hl.1.symm) hC.2.2.2.2.2.1 (hC.2.2.2.2.2.2.1 _ hq) (hC.2.2.2.2.2.2.1 _ hq1) (hC.2.2.2.2.2.2.1 _ hq2) (hC.2.2.2.2.2.2.1 _ hq3) hfr hlo hc hs hdg (k p e s m args below meth c H locs A ls hC hR hS hl)
theorem V_gs0 {idx : Nat} (hq : Cond.fieldLink own idx RX1 "PARENTS" "[I" ∈ wsL_law) (hdg : decode cc pc = .ok (.getstatic idx, 3)) (k : V l G own cc nL ret rm Q0 mc ms cells slots (pc + 3) L (.ref G.2.2.2.2.1 :: S) pr ad g) : V l G own cc nL ret rm Q0 mc ms cells slots pc L S pr ad g := fun p e s m args below meth c H locs A ls hC hR hS hl => va_gets hC.1 hC.2.1 (hC.2.2.2.2.2.2.2.2.1.1).1 hS hC.2.2.2.2.2.1 (hC.2.2.2.2.2.2.1 _ hq) (fun x h => h) hdg (k p e s m args below meth c H locs A ls hC hR hS hl)
theorem V_ts0 {x : Int32} (hin : vp_in x 6) (hdg : decode cc pc = .ok (.iaload, 1)) (k : V l G own cc nL ret rm Q0 mc ms cells slots (pc + 1) L (.int (mm_t0 x.toNatClampNeg) :: S) pr ad g) : V l G own cc nL ret rm Q0 mc ms cells slots pc L (.int x :: .ref G.2.2.2.2.1 :: S) pr ad g := fun p e s m args below meth c H locs A ls hC hR hS hl => va_ti hC.1 hC.2.1 (hC.2.2.2.2.2.2.2.2.1.1).2 hS hin rfl hdg (k p e s m args below meth c H locs A ls hC hR hS hl)
theorem V_gs1 {idx : Nat} (hq : Cond.fieldLink own idx RX1 "SIZE_BODIES" "[I" ∈ wsL_law) (hdg : decode cc pc = .ok (.getstatic idx, 3)) (k : V l G own cc nL ret rm Q0 mc ms cells slots (pc + 3) L (.ref G.2.2.2.2.2.1 :: S) pr ad g) : V l G own cc nL ret rm Q0 mc ms cells slots pc L S pr ad g := fun p e s m args below meth c H locs A ls hC hR hS hl => va_gets hC.1 hC.2.1 (hC.2.2.2.2.2.2.2.2.1.2.1).1 hS hC.2.2.2.2.2.1 (hC.2.2.2.2.2.2.1 _ hq) (fun x h => h) hdg (k p e s m args below meth c H locs A ls hC hR hS hl)
theorem V_ts1 {x : Int32} (hin : vp_in x 6) (hdg : decode cc pc = .ok (.iaload, 1)) (k : V l G own cc nL ret rm Q0 mc ms cells slots (pc + 1) L (.int (mm_t1 x.toNatClampNeg) :: S) pr ad g) : V l G own cc nL ret rm Q0 mc ms cells slots pc L (.int x :: .ref G.2.2.2.2.2.1 :: S) pr ad g := fun p e s m args below meth c H locs A ls hC hR hS hl => va_ti hC.1 hC.2.1 (hC.2.2.2.2.2.2.2.2.1.2.1).2 hS hin rfl hdg (k p e s m args below meth c H locs A ls hC hR hS hl)
theorem V_gs2 {idx : Nat} (hq : Cond.fieldLink own idx RX1 "MARK_BODIES" "[I" ∈ wsL_law) (hdg : decode cc pc = .ok (.getstatic idx, 3)) (k : V l G own cc nL ret rm Q0 mc ms cells slots (pc + 3) L (.ref G.2.2.2.2.2.2 :: S) pr ad g) : V l G own cc nL ret rm Q0 mc ms cells slots pc L S pr ad g := fun p e s m args below meth c H locs A ls hC hR hS hl => va_gets hC.1 hC.2.1 (hC.2.2.2.2.2.2.2.2.1.2.2).1 hS hC.2.2.2.2.2.1 (hC.2.2.2.2.2.2.1 _ hq) (fun x h => h) hdg (k p e s m args below meth c H locs A ls hC hR hS hl)
theorem V_ts2 {x : Int32} (hin : vp_in x 6) (hdg : decode cc pc = .ok (.iaload, 1)) (k : V l G own cc nL ret rm Q0 mc ms cells slots (pc + 1) L (.int (mm_t2 x.toNatClampNeg) :: S) pr ad g) : V l G own cc nL ret rm Q0 mc ms cells slots pc L (.int x :: .ref G.2.2.2.2.2.2 :: S) pr ad g := fun p e s m args below meth c H locs A ls hC hR hS hl => va_ti hC.1 hC.2.1 (hC.2.2.2.2.2.2.2.2.1.2.2).2 hS hin rfl hdg (k p e s m args below meth c H locs A ls hC hR hS hl)
end RUL
end
section
/-- what the tables say of a method -/
def mm_Y (y : MethodName) (cc : ByteArray) (nL : Nat) (ret : Option FieldType) (n : Nat) : Prop := (y.cls ≠ "java/lang/invoke/MethodHandle" ∧ y.cls ≠ "java/lang/invoke/VarHandle" ∧ (parseMethodDescriptor y.desc).map (fun d => d.parameters.length) = some n) ∧ Cond.code y cc nL ret ∈ wsL_law ∧ Cond.initialized y.cls ∈ wsL_law
theorem mm_gw {w : Cond} (h : w ∈ wsL_law) : w ∈ wsL_law ∧ ((w.onTables && w.keeps) = true ∨ ∃ ty, w = .arrayClass ty) := ⟨h, good_of_word (List.all_eq_true.mp wsL_good w h)⟩
theorem mm_gc {w : Cond} (h : w ∈ wsL_law) : GoodIn wsL_law (w :: wsL_law) := fun x hx => by
  rcases List.mem_cons.mp hx with q | q
  · rw [q]; exact mm_gw h
  · exact mm_gw q
theorem mm_gv {own C : String} {idx : Nat} {y : MethodName} {w : Cond} (h1 : Cond.methodLink own idx y ∈ wsL_law) (h2 : Cond.instanceMethod y ∈ wsL_law) (h3 : Cond.selects C y y ∈ wsL_law) (h4 : Cond.initialized C ∈ wsL_law) (h : w ∈ wsL_law) : GoodIn wsL_law (wsV own idx C y (w :: wsL_law)) := fun x hx => by
  unfold wsV at hx
  rcases List.mem_append.mp hx with q | q
  · have q2 := List.mem_cons.mp q
    rcases q2 with rfl | q
    · exact mm_gw h1
    rcases List.mem_cons.mp q with rfl | q
    · exact mm_gw h2
    rcases List.mem_cons.mp q with rfl | q
    · exact mm_gw h3
    rcases List.mem_cons.mp q with rfl | q
    · exact mm_gw h4
    · cases q
  · exact mm_gc h x q
theorem mm_gs {own : String} {idx : Nat} {y : MethodName} {w : Cond} (h1 : Cond.methodLink own idx y ∈ wsL_law) (h2 : Cond.static y ∈ wsL_law) (h4 : Cond.initialized y.cls ∈ wsL_law) (h : w ∈ wsL_law) : GoodIn wsL_law (va_wsS own idx y (w :: wsL_law)) := fun x hx => by
  unfold va_wsS at hx
  rcases List.mem_append.mp hx with q | q
  · rcases List.mem_cons.mp q with rfl | q
    · exact mm_gw h1
    rcases List.mem_cons.mp q with rfl | q
    · exact mm_gw h2
    rcases List.mem_cons.mp q with rfl | q
    · exact mm_gw h4
    · cases q
  · exact mm_gc h x q
section CAL
variable {l : Launch} {G : mm_G} {own : String} {cc : ByteArray} {nL : Nat} {ret : Option FieldType} {rm : Room} {Q0 : mm_T} {mc ms cells slots pc : Nat} {L : List (Nat × Value)} {S S0 : List Value} {pr : Nat → Nat → Prop} {ad : Nat → Nat → Nat → Nat} {g : Nat → Nat → Nat → Int32}
/-- a contract's start is blind for the frame -/
theorem mm_bl {args : List Value} {B : Nat → Prop} {sz : Nat} : FrameBlind (va_Pc args (fun U => U.heap.size = sz ∧ mm_R G pr ad g (fun _ => True) U.heap ∧ mm_K G U ∧ mm_S G B U U.heap)) := fun a U h mk q => ⟨q.1, q.2.1, q.2.2.1, q.2.2.2.1.same (u := U) (U := U.calling h mk a) rfl, q.2.2.2.2.on (u := U) (U := U.calling h mk a) (fun _ _ _ => rfl) (fun _ z => z) (Vm.Alike.refl U.vm)⟩
/-- .. and holds where the caller stands -/
theorem mm_st {p : Program} {s : State} {m : MethodId} {args : Array Value} {meth : Method} {c : Code} {H : Heap} {locs : List Loc} {A : Nat → Prop} (hC : mm_C G own cc nL ret p s m args meth c A) (hR : mm_R G pr ad g A H) (hS : va_S A s.heap H locs) {As : List Value} : ∀ U : State, U.heap = H → s.WarmedH U.vm → va_Pc As (fun U => U.heap.size = H.size ∧ mm_R G pr ad g (fun _ => True) U.heap ∧ mm_K G U ∧ mm_S G (mm_A pr ad H.size) U U.heap) As.toArray U := by
  intro U hU hW
  refine ⟨rfl, by rw [hU], by rw [hU]; exact hR.to (fun _ _ => trivial), hC.2.2.2.2.2.2.2.1.warm hW, ?_⟩
  rw [hU]
  refine hC.2.2.2.2.2.2.2.2.1.on hS.2.1 (fun q hq => ?_) hW.alike
  rcases hq with h | h
  · exact hR.inA h
  · exact hC.2.2.2.2.2.2.2.2.2 q (Nat.le_trans hS.1 h)
/-- behind a call -/
theorem V_run {a : Array Value} {Q1 : mm_T} {mc1 ms1 : Nat}
    (hr : ∀ (p : Program) (e : Env) (s : State) (m : MethodId) (args : Array Value) (below : List Frame) (meth : Method) (c : Code) (H : Heap) (locs : List Loc) (A : Nat → Prop) (ls : Array Slot), mm_C G own cc nL ret p s m args meth c A → mm_R G pr ad g A H → va_S A s.heap H locs → lv_has ls nL L → va_Run p l e rm s m args below meth c H locs cells slots mc1 ms1 (F0 m pc ls S0) S (mm_Q G Q1 (mm_A pr ad H.size) a) (mm_A pr ad H.size))
    (kk : ∀ (r : Option Value) (pr1 : Nat → Nat → Prop) (ad1 : Nat → Nat → Nat → Nat) (g1 : Nat → Nat → Nat → Int32), Q1 r pr1 ad1 g1 → V l G own cc nL ret rm Q0 mc ms (cells + mc1) (slots + ms1) (pc + 3) L (r.toList ++ S) pr1 ad1 g1) : V l G own cc nL ret rm Q0 mc ms cells slots pc L S0 pr ad g := by
  intro p e s m args below meth c H locs A ls hC hR hS hl T hT X
  obtain ⟨v, st0, t, T', Lc, h0, X', hLc, e1, e2, ⟨⟨r, pr1, ad1, g1, hv, hq, hR1⟩, hz, hk⟩, st⟩ := hr p e s m args below meth c H locs A ls hC hR hS hl T hT X
  cases hv
  rw [h0] at hz hk
  have hA : ∀ q, mm_A pr ad H.size q → A q := fun q hq => by
    rcases hq with h | h
    · exact hR.inA h
    · exact hC.2.2.2.2.2.2.2.2.2 q (Nat.le_trans hS.1 h)
  obtain ⟨t2, a1, b1⟩ := kk v pr1 ad1 g1 hq p e s m args below meth c T'.heap (locs ++ Lc) A ls hC (by rw [e1]; exact hR1.to (fun q h => hA q (hR1.inA h)))
    ⟨Nat.le_trans hS.1 (by rw [e1]; exact hz), fun q h1 h2 => by rw [e1, hk q (Nat.lt_of_lt_of_le h1 hS.1) (fun z => h2 (hA q z))]; exact hS.2.1 q h1 h2, fun q hq => by
      rcases List.mem_append.mp hq with h | h
      · exact hS.2.2 q h
      · exact hA _ (hLc q h)⟩ hl T' rfl X'
  exact ⟨t2, st t2 a1, b1⟩
theorem V_cV {t k idx n nL1 mc1 ms1 : Nat} {y : MethodName} {bb : ByteArray} {ret1 : Option FieldType} {rm1 : Room} {As fs : List Value} {q : vw_C} {Q1 : mm_T} (hM : Mt l G y bb nL1 ret1 rm1 (.ref (ad t k 0) :: As) pr ad g Q1 mc1 ms1) (hY : mm_Y y bb nL1 ret1 n) (hi : Cond.instanceMethod y ∈ wsL_law) (hs : Cond.selects y.cls y y ∈ wsL_law) (hq : Cond.methodLink own idx y ∈ wsL_law) (hc : vwCl[t]? = some q) (hyc : y.cls = q.1) (hp : pr t k) (he : mm_ent G ad g t k 0 = some (.inr (t, fs))) (hn : As.length = n) (hst : S0 = As.reverse ++ .ref (ad t k 0) :: S)
    (h1 : rm1.cells = mc1) (h2 : rm1.slots = ms1) (hR : rm1.frames + 1 ≤ rm.frames ∧ 8 + (nL1 + 11) + rm1.locals ≤ rm.locals) (hW : (S.map fun v => v.category).sum ≤ 8) (hf : cells + mc1 ≤ rm.cells ∧ slots + ms1 ≤ rm.slots) (hdg : decode cc pc = .ok (.invokevirtual idx, 3))
    (kk : ∀ (r : Option Value) (pr1 : Nat → Nat → Prop) (ad1 : Nat → Nat → Nat → Nat) (g1 : Nat → Nat → Nat → Int32), Q1 r pr1 ad1 g1 → V l G own cc nL ret rm Q0 mc ms (cells + mc1) (slots + ms1) (pc + 3) L (r.toList ++ S) pr1 ad1 g1) : V l G own cc nL ret rm Q0 mc ms cells slots pc L S0 pr ad g := by
  refine V_run (a := (Value.ref (ad t k 0) :: As).toArray) (fun p e s m args below meth c H locs A ls hC hR0 hS hl => ?_) kk
  subst hst
  refine va_runV (cc := cc) (nL := nL) (own := own) (Ts := wsL_law) (C := y.cls) (b := ad t k 0) (As := As) (rest := S) ⟨hC.1, hC.2.1, hC.2.2.1, hC.2.2.2.2.2.1, hC.2.2.2.2.2.2.1⟩ (hM H.size) (cwV n hC.2.2.2.2.2.2.1 (mm_gv hq hi hs hY.2.2 hY.2.1) rfl h1 h2 ⟨rfl, hY.1⟩ hR) ⟨mm_bl, ?_, mm_st hC hR0 hS⟩ rfl hn hl.1 rfl (lv_room hW) hdg hf
  obtain ⟨Ls, f, hP, hD, hL, hJ⟩ := hR0
  obtain ⟨hm, hf1⟩ := hL.1 t k 0 _ hp he
  obtain ⟨q0, hq0⟩ := va_pl_get (X := []) (f := f) hm
  rw [hf1] at hq0
  rw [hyc]
  exact va_recv hC.2.2.2.2.2.2.2.1.1 hP hc hq0
theorem V_cS {idx n nL1 mc1 ms1 : Nat} {y : MethodName} {bb : ByteArray} {ret1 : Option FieldType} {rm1 : Room} {As : List Value} {Q1 : mm_T} (hM : Mt l G y bb nL1 ret1 rm1 As pr ad g Q1 mc1 ms1) (hY : mm_Y y bb nL1 ret1 n) (hi : Cond.static y ∈ wsL_law) (hq : Cond.methodLink own idx y ∈ wsL_law) (hn : As.length = n) (hst : S0 = As.reverse ++ S)
    (h1 : rm1.cells = mc1) (h2 : rm1.slots = ms1) (hR : rm1.frames + 1 ≤ rm.frames ∧ 8 + (nL1 + 11) + rm1.locals ≤ rm.locals) (hW : (S.map fun v => v.category).sum ≤ 8) (hf : cells + mc1 ≤ rm.cells ∧ slots + ms1 ≤ rm.slots) (hdg : decode cc pc = .ok (.invokestatic idx, 3))
    (kk : ∀ (r : Option Value) (pr1 : Nat → Nat → Prop) (ad1 : Nat → Nat → Nat → Nat) (g1 : Nat → Nat → Nat → Int32), Q1 r pr1 ad1 g1 → V l G own cc nL ret rm Q0 mc ms (cells + mc1) (slots + ms1) (pc + 3) L (r.toList ++ S) pr1 ad1 g1) : V l G own cc nL ret rm Q0 mc ms cells slots pc L S0 pr ad g := by
  refine V_run (a := As.toArray) (fun p e s m args below meth c H locs A ls hC hR0 hS hl => ?_) kk
  subst hst
  exact va_runS (cc := cc) (nL := nL) (own := own) (Ts := wsL_law) (As := As) (rest := S) ⟨hC.1, hC.2.1, hC.2.2.1, hC.2.2.2.2.2.1, hC.2.2.2.2.2.2.1⟩ (hM H.size) (va_cwS n hC.2.2.2.2.2.2.1 (mm_gs hq hi hY.2.2 hY.2.1) rfl h1 h2 hY.1 hR) ⟨mm_bl, mm_st hC hR0 hS⟩ rfl hn hl.1 rfl (lv_room hW) hdg hf
theorem V_cSN {idx n nL1 mc1 ms1 : Nat} {y : MethodName} {bb : ByteArray} {ret1 : Option FieldType} {rm1 : Room} {As : List Value} {Q1 : mm_T} (hM : Mt l G y bb nL1 ret1 rm1 As pr ad g Q1 mc1 ms1) (hY : mm_Y y bb nL1 ret1 n) (hi : Cond.static y ∈ wsL_law) (hq : (own, idx, y) ∈ mm_nM) (hn : As.length = n) (hst : S0 = As.reverse ++ S)
    (h1 : rm1.cells = mc1) (h2 : rm1.slots = ms1) (hR : rm1.frames + 1 ≤ rm.frames ∧ 8 + (nL1 + 11) + rm1.locals ≤ rm.locals) (hW : (S.map fun v => v.category).sum ≤ 8) (hf : cells + mc1 ≤ rm.cells ∧ slots + ms1 ≤ rm.slots) (hdg : decode cc pc = .ok (.invokestatic idx, 3))
    (kk : ∀ (r : Option Value) (pr1 : Nat → Nat → Prop) (ad1 : Nat → Nat → Nat → Nat) (g1 : Nat → Nat → Nat → Int32), Q1 r pr1 ad1 g1 → V l G own cc nL ret rm Q0 mc ms (cells + mc1) (slots + ms1) (pc + 3) L (r.toList ++ S) pr1 ad1 g1) : V l G own cc nL ret rm Q0 mc ms cells slots pc L S0 pr ad g := by
  refine V_run (a := As.toArray) (fun p e s m args below meth c H locs A ls hC hR0 hS hl => ?_) kk
  subst hst
  exact va_runSN (cc := cc) (nL := nL) (own := own) (Ts := wsL_law) (As := As) (rest := S) ⟨hC.1, hC.2.1, hC.2.2.1, hC.2.2.2.2.2.1, hC.2.2.2.2.2.2.1⟩ (hM H.size) ⟨va_cnB n hC.2.2.2.2.2.2.1 (mm_gc hY.2.1) rfl h1 h2 (hC.2.2.2.2.2.2.2.1.2.2 _ hq) (hC.2.2.2.2.2.2.1 _ hY.2.2) hY.1 hR, hC.2.2.2.2.2.2.1 _ hi, trivial⟩ ⟨mm_bl, mm_st hC hR0 hS⟩ rfl hn hl.1 rfl (lv_room hW) hdg hf
/-- a call whose answer and memory are told -/
theorem V_kd {r0 : Option Value} {pr0 : Nat → Nat → Prop} {ad0 : Nat → Nat → Nat → Nat} {g0 : Nat → Nat → Nat → Int32} {mc1 ms1 : Nat} (k : V l G own cc nL ret rm Q0 mc ms (cells + mc1) (slots + ms1) (pc + 3) L (r0.toList ++ S) pr0 ad0 g0) : ∀ (r : Option Value) (pr1 : Nat → Nat → Prop) (ad1 : Nat → Nat → Nat → Nat) (g1 : Nat → Nat → Nat → Int32), mm_D r0 pr0 ad0 g0 r pr1 ad1 g1 → V l G own cc nL ret rm Q0 mc ms (cells + mc1) (slots + ms1) (pc + 3) L (r.toList ++ S) pr1 ad1 g1 := by
  rintro r pr1 ad1 g1 ⟨rfl, rfl, rfl, rfl⟩
  exact k
end CAL
theorem hy_X6_init : mm_Y yX6_init cX6_init 1 none 0 := ⟨⟨by decide +kernel, by decide +kernel, by decide +kernel⟩, q_8, q_2⟩
theorem hi_X6_init : Cond.instanceMethod yX6_init ∈ wsL_law := q_7
theorem hy_X4_init : mm_Y yX4_init cX4_init 2 none 0 := ⟨⟨by decide +kernel, by decide +kernel, by decide +kernel⟩, q_41, q_14⟩
theorem hi_X4_init : Cond.instanceMethod yX4_init ∈ wsL_law := q_40
theorem hy_X5_init : mm_Y yX5_init cX5_init 1 none 0 := ⟨⟨by decide +kernel, by decide +kernel, by decide +kernel⟩, q_48, q_18⟩
theorem hi_X5_init : Cond.instanceMethod yX5_init ∈ wsL_law := q_47
theorem hy_X2_init : mm_Y yX2_init cX2_init 1 none 0 := ⟨⟨by decide +kernel, by decide +kernel, by decide +kernel⟩, q_55, q_22⟩
theorem hi_X2_init : Cond.instanceMethod yX2_init ∈ wsL_law := q_54
theorem hy_X0_init : mm_Y yX0_init cX0_init 1 none 0 := ⟨⟨by decide +kernel, by decide +kernel, by decide +kernel⟩, q_68, q_26⟩
theorem hi_X0_init : Cond.instanceMethod yX0_init ∈ wsL_law := q_67
theorem hy_X3_init : mm_Y yX3_init cX3_init 1 none 0 := ⟨⟨by decide +kernel, by decide +kernel, by decide +kernel⟩, q_75, q_31⟩
theorem hi_X3_init : Cond.instanceMethod yX3_init ∈ wsL_law := q_74
theorem hy_X1_init : mm_Y yX1_init cX1_init 1 none 0 := ⟨⟨by decide +kernel, by decide +kernel, by decide +kernel⟩, q_83, q_35⟩
theorem hi_X1_init : Cond.instanceMethod yX1_init ∈ wsL_law := q_82
theorem hy_X7_init : mm_Y yX7_init cX7_init 2 none 0 := ⟨⟨by decide +kernel, by decide +kernel, by decide +kernel⟩, q_89, q_5⟩
theorem hi_X7_init : Cond.instanceMethod yX7_init ∈ wsL_law := q_88
theorem hy_X6_row : mm_Y yX6_row cX6_row 4 (some .int) 3 := ⟨⟨by decide +kernel, by decide +kernel, by decide +kernel⟩, q_107, q_2⟩
theorem hi_X6_row : Cond.instanceMethod yX6_row ∈ wsL_law := q_105
theorem hs_X6_row : Cond.selects yX6_row.cls yX6_row yX6_row ∈ wsL_law := q_106
theorem hy_X6_within : mm_Y yX6_within cX6_within 3 (some .boolean) 3 := ⟨⟨by decide +kernel, by decide +kernel, by decide +kernel⟩, q_111, q_2⟩
theorem hz_X6_within : Cond.static yX6_within ∈ wsL_law := q_110
theorem hy_X6_found : mm_Y yX6_found cX6_found 2 (some .int) 1 := ⟨⟨by decide +kernel, by decide +kernel, by decide +kernel⟩, q_115, q_2⟩
theorem hi_X6_found : Cond.instanceMethod yX6_found ∈ wsL_law := q_113
theorem hs_X6_found : Cond.selects yX6_found.cls yX6_found yX6_found ∈ wsL_law := q_114
theorem hy_X4_make : mm_Y yX4_make cX4_make 5 none 3 := ⟨⟨by decide +kernel, by decide +kernel, by decide +kernel⟩, q_120, q_14⟩
theorem hi_X4_make : Cond.instanceMethod yX4_make ∈ wsL_law := q_118
theorem hs_X4_make : Cond.selects yX4_make.cls yX4_make yX4_make ∈ wsL_law := q_119
theorem hy_X6_unfound : mm_Y yX6_unfound cX6_unfound 2 (some .int) 1 := ⟨⟨by decide +kernel, by decide +kernel, by decide +kernel⟩, q_124, q_2⟩
theorem hi_X6_unfound : Cond.instanceMethod yX6_unfound ∈ wsL_law := q_122
theorem hs_X6_unfound : Cond.selects yX6_unfound.cls yX6_unfound yX6_unfound ∈ wsL_law := q_123
theorem hy_X7_row : mm_Y yX7_row cX7_row 5 (some .int) 3 := ⟨⟨by decide +kernel, by decide +kernel, by decide +kernel⟩, q_128, q_5⟩
theorem hi_X7_row : Cond.instanceMethod yX7_row ∈ wsL_law := q_126
theorem hs_X7_row : Cond.selects yX7_row.cls yX7_row yX7_row ∈ wsL_law := q_127
theorem hy_X7_isRow : mm_Y yX7_isRow cX7_isRow 1 (some .boolean) 1 := ⟨⟨by decide +kernel, by decide +kernel, by decide +kernel⟩, q_133, q_5⟩
theorem hz_X7_isRow : Cond.static yX7_isRow ∈ wsL_law := q_132
theorem hy_X7_in : mm_Y yX7_in cX7_in 6 (some .boolean) 3 := ⟨⟨by decide +kernel, by decide +kernel, by decide +kernel⟩, q_137, q_5⟩
theorem hz_X7_in : Cond.static yX7_in ∈ wsL_law := q_136
theorem hy_X7_find : mm_Y yX7_find cX7_find 2 (some .int) 1 := ⟨⟨by decide +kernel, by decide +kernel, by decide +kernel⟩, q_141, q_5⟩
theorem hi_X7_find : Cond.instanceMethod yX7_find ∈ wsL_law := q_139
theorem hs_X7_find : Cond.selects yX7_find.cls yX7_find yX7_find ∈ wsL_law := q_140
theorem hy_X7_well : mm_Y yX7_well cX7_well 2 (some .int) 1 := ⟨⟨by decide +kernel, by decide +kernel, by decide +kernel⟩, q_147, q_5⟩
theorem hi_X7_well : Cond.instanceMethod yX7_well ∈ wsL_law := q_145
theorem hs_X7_well : Cond.selects yX7_well.cls yX7_well yX7_well ∈ wsL_law := q_146
theorem hy_X6_set : mm_Y yX6_set cX6_set 4 (some .int) 3 := ⟨⟨by decide +kernel, by decide +kernel, by decide +kernel⟩, q_151, q_2⟩
theorem hi_X6_set : Cond.instanceMethod yX6_set ∈ wsL_law := q_149
theorem hs_X6_set : Cond.selects yX6_set.cls yX6_set yX6_set ∈ wsL_law := q_150
theorem hy_X4_isMissing : mm_Y yX4_isMissing cX4_isMissing 2 (some .boolean) 1 := ⟨⟨by decide +kernel, by decide +kernel, by decide +kernel⟩, q_155, q_14⟩
theorem hi_X4_isMissing : Cond.instanceMethod yX4_isMissing ∈ wsL_law := q_153
theorem hs_X4_isMissing : Cond.selects yX4_isMissing.cls yX4_isMissing yX4_isMissing ∈ wsL_law := q_154
theorem hy_X4_holds : mm_Y yX4_holds cX4_holds 4 (some .boolean) 3 := ⟨⟨by decide +kernel, by decide +kernel, by decide +kernel⟩, q_159, q_14⟩
theorem hi_X4_holds : Cond.instanceMethod yX4_holds ∈ wsL_law := q_157
theorem hs_X4_holds : Cond.selects yX4_holds.cls yX4_holds yX4_holds ∈ wsL_law := q_158
theorem hy_X4_put : mm_Y yX4_put cX4_put 5 (some .int) 3 := ⟨⟨by decide +kernel, by decide +kernel, by decide +kernel⟩, q_164, q_14⟩
theorem hi_X4_put : Cond.instanceMethod yX4_put ∈ wsL_law := q_162
theorem hs_X4_put : Cond.selects yX4_put.cls yX4_put yX4_put ∈ wsL_law := q_163
theorem hy_X4_inLane : mm_Y yX4_inLane cX4_inLane 2 (some .int) 2 := ⟨⟨by decide +kernel, by decide +kernel, by decide +kernel⟩, q_168, q_14⟩
theorem hz_X4_inLane : Cond.static yX4_inLane ∈ wsL_law := q_167
theorem hy_X7_set : mm_Y yX7_set cX7_set 4 (some .int) 3 := ⟨⟨by decide +kernel, by decide +kernel, by decide +kernel⟩, q_172, q_5⟩
theorem hi_X7_set : Cond.instanceMethod yX7_set ∈ wsL_law := q_170
theorem hs_X7_set : Cond.selects yX7_set.cls yX7_set yX7_set ∈ wsL_law := q_171
theorem hy_X7_asLane : mm_Y yX7_asLane cX7_asLane 2 (some .int) 2 := ⟨⟨by decide +kernel, by decide +kernel, by decide +kernel⟩, q_175, q_5⟩
theorem hz_X7_asLane : Cond.static yX7_asLane ∈ wsL_law := q_174
theorem hy_X6_copy : mm_Y yX6_copy cX6_copy 6 (some .int) 5 := ⟨⟨by decide +kernel, by decide +kernel, by decide +kernel⟩, q_179, q_2⟩
theorem hi_X6_copy : Cond.instanceMethod yX6_copy ∈ wsL_law := q_177
theorem hs_X6_copy : Cond.selects yX6_copy.cls yX6_copy yX6_copy ∈ wsL_law := q_178
theorem hy_X4_laneOf : mm_Y yX4_laneOf cX4_laneOf 2 (some .int) 1 := ⟨⟨by decide +kernel, by decide +kernel, by decide +kernel⟩, q_183, q_14⟩
theorem hi_X4_laneOf : Cond.instanceMethod yX4_laneOf ∈ wsL_law := q_181
theorem hs_X4_laneOf : Cond.selects yX4_laneOf.cls yX4_laneOf yX4_laneOf ∈ wsL_law := q_182
theorem hy_X4_carry : mm_Y yX4_carry cX4_carry 6 none 5 := ⟨⟨by decide +kernel, by decide +kernel, by decide +kernel⟩, q_187, q_14⟩
theorem hi_X4_carry : Cond.instanceMethod yX4_carry ∈ wsL_law := q_185
theorem hs_X4_carry : Cond.selects yX4_carry.cls yX4_carry yX4_carry ∈ wsL_law := q_186
theorem hy_X7_copy : mm_Y yX7_copy cX7_copy 7 (some .int) 5 := ⟨⟨by decide +kernel, by decide +kernel, by decide +kernel⟩, q_195, q_5⟩
theorem hi_X7_copy : Cond.instanceMethod yX7_copy ∈ wsL_law := q_193
theorem hs_X7_copy : Cond.selects yX7_copy.cls yX7_copy yX7_copy ∈ wsL_law := q_194
theorem hy_X6_drop : mm_Y yX6_drop cX6_drop 2 (some .int) 1 := ⟨⟨by decide +kernel, by decide +kernel, by decide +kernel⟩, q_199, q_2⟩
theorem hi_X6_drop : Cond.instanceMethod yX6_drop ∈ wsL_law := q_197
theorem hs_X6_drop : Cond.selects yX6_drop.cls yX6_drop yX6_drop ∈ wsL_law := q_198
theorem hy_X4_lose : mm_Y yX4_lose cX4_lose 3 (some .int) 1 := ⟨⟨by decide +kernel, by decide +kernel, by decide +kernel⟩, q_203, q_14⟩
theorem hi_X4_lose : Cond.instanceMethod yX4_lose ∈ wsL_law := q_201
theorem hs_X4_lose : Cond.selects yX4_lose.cls yX4_lose yX4_lose ∈ wsL_law := q_202
theorem hy_X7_drop : mm_Y yX7_drop cX7_drop 3 (some .int) 1 := ⟨⟨by decide +kernel, by decide +kernel, by decide +kernel⟩, q_207, q_5⟩
theorem hi_X7_drop : Cond.instanceMethod yX7_drop ∈ wsL_law := q_205
theorem hs_X7_drop : Cond.selects yX7_drop.cls yX7_drop yX7_drop ∈ wsL_law := q_206
theorem hy_X6_feed : mm_Y yX6_feed cX6_feed 2 (some .int) 1 := ⟨⟨by decide +kernel, by decide +kernel, by decide +kernel⟩, q_211, q_2⟩
theorem hi_X6_feed : Cond.instanceMethod yX6_feed ∈ wsL_law := q_209
theorem hs_X6_feed : Cond.selects yX6_feed.cls yX6_feed yX6_feed ∈ wsL_law := q_210
theorem hy_X5_length : mm_Y yX5_length cX5_length 1 (some .int) 0 := ⟨⟨by decide +kernel, by decide +kernel, by decide +kernel⟩, q_216, q_18⟩
theorem hi_X5_length : Cond.instanceMethod yX5_length ∈ wsL_law := q_214
theorem hs_X5_length : Cond.selects yX5_length.cls yX5_length yX5_length ∈ wsL_law := q_215
theorem hy_X5_append : mm_Y yX5_append cX5_append 2 (some .int) 1 := ⟨⟨by decide +kernel, by decide +kernel, by decide +kernel⟩, q_220, q_18⟩
theorem hi_X5_append : Cond.instanceMethod yX5_append ∈ wsL_law := q_218
theorem hs_X5_append : Cond.selects yX5_append.cls yX5_append yX5_append ∈ wsL_law := q_219
theorem hy_X7_feed : mm_Y yX7_feed cX7_feed 2 (some .int) 1 := ⟨⟨by decide +kernel, by decide +kernel, by decide +kernel⟩, q_224, q_5⟩
theorem hi_X7_feed : Cond.instanceMethod yX7_feed ∈ wsL_law := q_222
theorem hs_X7_feed : Cond.selects yX7_feed.cls yX7_feed yX7_feed ∈ wsL_law := q_223
theorem hy_X6_flat : mm_Y yX6_flat cX6_flat 3 (some .int) 0 := ⟨⟨by decide +kernel, by decide +kernel, by decide +kernel⟩, q_231, q_2⟩
theorem hi_X6_flat : Cond.instanceMethod yX6_flat ∈ wsL_law := q_229
theorem hs_X6_flat : Cond.selects yX6_flat.cls yX6_flat yX6_flat ∈ wsL_law := q_230
theorem hy_X3_scratch : mm_Y yX3_scratch cX3_scratch 1 (some (.object "CockleSquires$Flat")) 0 := ⟨⟨by decide +kernel, by decide +kernel, by decide +kernel⟩, q_236, q_31⟩
theorem hi_X3_scratch : Cond.instanceMethod yX3_scratch ∈ wsL_law := q_234
theorem hs_X3_scratch : Cond.selects yX3_scratch.cls yX3_scratch yX3_scratch ∈ wsL_law := q_235
theorem hy_X5_readInto : mm_Y yX5_readInto cX5_readInto 2 (some .int) 1 := ⟨⟨by decide +kernel, by decide +kernel, by decide +kernel⟩, q_240, q_18⟩
theorem hi_X5_readInto : Cond.instanceMethod yX5_readInto ∈ wsL_law := q_238
theorem hs_X5_readInto : Cond.selects yX5_readInto.cls yX5_readInto yX5_readInto ∈ wsL_law := q_239
theorem hy_X5_readLaw : mm_Y yX5_readLaw cX5_readLaw 5 (some .boolean) 1 := ⟨⟨by decide +kernel, by decide +kernel, by decide +kernel⟩, q_244, q_18⟩
theorem hi_X5_readLaw : Cond.instanceMethod yX5_readLaw ∈ wsL_law := q_242
theorem hs_X5_readLaw : Cond.selects yX5_readLaw.cls yX5_readLaw yX5_readLaw ∈ wsL_law := q_243
theorem hy_X5_takes : mm_Y yX5_takes cX5_takes 2 (some .boolean) 1 := ⟨⟨by decide +kernel, by decide +kernel, by decide +kernel⟩, q_248, q_18⟩
theorem hi_X5_takes : Cond.instanceMethod yX5_takes ∈ wsL_law := q_246
theorem hs_X5_takes : Cond.selects yX5_takes.cls yX5_takes yX5_takes ∈ wsL_law := q_247
theorem hy_X5_letterAt : mm_Y yX5_letterAt cX5_letterAt 2 (some .int) 1 := ⟨⟨by decide +kernel, by decide +kernel, by decide +kernel⟩, q_252, q_18⟩
theorem hi_X5_letterAt : Cond.instanceMethod yX5_letterAt ∈ wsL_law := q_250
theorem hs_X5_letterAt : Cond.selects yX5_letterAt.cls yX5_letterAt yX5_letterAt ∈ wsL_law := q_251
theorem hy_X5_fails : mm_Y yX5_fails cX5_fails 2 (some .boolean) 1 := ⟨⟨by decide +kernel, by decide +kernel, by decide +kernel⟩, q_256, q_18⟩
theorem hi_X5_fails : Cond.instanceMethod yX5_fails ∈ wsL_law := q_254
theorem hs_X5_fails : Cond.selects yX5_fails.cls yX5_fails yX5_fails ∈ wsL_law := q_255
theorem hy_X5_number : mm_Y yX5_number cX5_number 6 (some .int) 2 := ⟨⟨by decide +kernel, by decide +kernel, by decide +kernel⟩, q_260, q_18⟩
theorem hi_X5_number : Cond.instanceMethod yX5_number ∈ wsL_law := q_258
theorem hs_X5_number : Cond.selects yX5_number.cls yX5_number yX5_number ∈ wsL_law := q_259
theorem hy_X5_figuresAhead : mm_Y yX5_figuresAhead cX5_figuresAhead 2 (some .int) 0 := ⟨⟨by decide +kernel, by decide +kernel, by decide +kernel⟩, q_264, q_18⟩
theorem hi_X5_figuresAhead : Cond.instanceMethod yX5_figuresAhead ∈ wsL_law := q_262
theorem hs_X5_figuresAhead : Cond.selects yX5_figuresAhead.cls yX5_figuresAhead yX5_figuresAhead ∈ wsL_law := q_263
theorem hy_X2_begin : mm_Y yX2_begin cX2_begin 5 none 3 := ⟨⟨by decide +kernel, by decide +kernel, by decide +kernel⟩, q_268, q_22⟩
theorem hi_X2_begin : Cond.instanceMethod yX2_begin ∈ wsL_law := q_266
theorem hs_X2_begin : Cond.selects yX2_begin.cls yX2_begin yX2_begin ∈ wsL_law := q_267
theorem hy_X5_readBeds : mm_Y yX5_readBeds cX5_readBeds 3 none 1 := ⟨⟨by decide +kernel, by decide +kernel, by decide +kernel⟩, q_272, q_18⟩
theorem hi_X5_readBeds : Cond.instanceMethod yX5_readBeds ∈ wsL_law := q_270
theorem hs_X5_readBeds : Cond.selects yX5_readBeds.cls yX5_readBeds yX5_readBeds ∈ wsL_law := q_271
theorem hy_X5_readBed : mm_Y yX5_readBed cX5_readBed 5 (some .boolean) 1 := ⟨⟨by decide +kernel, by decide +kernel, by decide +kernel⟩, q_276, q_18⟩
theorem hi_X5_readBed : Cond.instanceMethod yX5_readBed ∈ wsL_law := q_274
theorem hs_X5_readBed : Cond.selects yX5_readBed.cls yX5_readBed yX5_readBed ∈ wsL_law := q_275
theorem hy_X5_kindNamed : mm_Y yX5_kindNamed cX5_kindNamed 1 (some .int) 1 := ⟨⟨by decide +kernel, by decide +kernel, by decide +kernel⟩, q_279, q_18⟩
theorem hz_X5_kindNamed : Cond.static yX5_kindNamed ∈ wsL_law := q_278
theorem hy_X2_add : mm_Y yX2_add cX2_add 4 none 3 := ⟨⟨by decide +kernel, by decide +kernel, by decide +kernel⟩, q_283, q_22⟩
theorem hi_X2_add : Cond.instanceMethod yX2_add ∈ wsL_law := q_281
theorem hs_X2_add : Cond.selects yX2_add.cls yX2_add yX2_add ∈ wsL_law := q_282
theorem hy_X5_clear : mm_Y yX5_clear cX5_clear 1 none 0 := ⟨⟨by decide +kernel, by decide +kernel, by decide +kernel⟩, q_287, q_18⟩
theorem hi_X5_clear : Cond.instanceMethod yX5_clear ∈ wsL_law := q_285
theorem hs_X5_clear : Cond.selects yX5_clear.cls yX5_clear yX5_clear ∈ wsL_law := q_286
theorem hy_X5_readTo : mm_Y yX5_readTo cX5_readTo 1 (some .int) 0 := ⟨⟨by decide +kernel, by decide +kernel, by decide +kernel⟩, q_291, q_18⟩
theorem hi_X5_readTo : Cond.instanceMethod yX5_readTo ∈ wsL_law := q_289
theorem hs_X5_readTo : Cond.selects yX5_readTo.cls yX5_readTo yX5_readTo ∈ wsL_law := q_290
theorem hy_X2_become : mm_Y yX2_become cX2_become 2 none 1 := ⟨⟨by decide +kernel, by decide +kernel, by decide +kernel⟩, q_295, q_22⟩
theorem hi_X2_become : Cond.instanceMethod yX2_become ∈ wsL_law := q_293
theorem hs_X2_become : Cond.selects yX2_become.cls yX2_become yX2_become ∈ wsL_law := q_294
theorem hy_X0_forget : mm_Y yX0_forget cX0_forget 1 none 0 := ⟨⟨by decide +kernel, by decide +kernel, by decide +kernel⟩, q_300, q_26⟩
theorem hi_X0_forget : Cond.instanceMethod yX0_forget ∈ wsL_law := q_298
theorem hs_X0_forget : Cond.selects yX0_forget.cls yX0_forget yX0_forget ∈ wsL_law := q_299
theorem hy_X7_flat : mm_Y yX7_flat cX7_flat 3 (some .int) 0 := ⟨⟨by decide +kernel, by decide +kernel, by decide +kernel⟩, q_304, q_5⟩
theorem hi_X7_flat : Cond.instanceMethod yX7_flat ∈ wsL_law := q_302
theorem hs_X7_flat : Cond.selects yX7_flat.cls yX7_flat yX7_flat ∈ wsL_law := q_303
theorem hy_X7_readFlat : mm_Y yX7_readFlat cX7_readFlat 2 (some .boolean) 0 := ⟨⟨by decide +kernel, by decide +kernel, by decide +kernel⟩, q_314, q_5⟩
theorem hi_X7_readFlat : Cond.instanceMethod yX7_readFlat ∈ wsL_law := q_312
theorem hs_X7_readFlat : Cond.selects yX7_readFlat.cls yX7_readFlat yX7_readFlat ∈ wsL_law := q_313
theorem hy_X7_nextToken : mm_Y yX7_nextToken cX7_nextToken 1 none 0 := ⟨⟨by decide +kernel, by decide +kernel, by decide +kernel⟩, q_320, q_5⟩
theorem hi_X7_nextToken : Cond.instanceMethod yX7_nextToken ∈ wsL_law := q_318
theorem hs_X7_nextToken : Cond.selects yX7_nextToken.cls yX7_nextToken yX7_nextToken ∈ wsL_law := q_319
theorem hy_X7_takes : mm_Y yX7_takes cX7_takes 2 (some .boolean) 1 := ⟨⟨by decide +kernel, by decide +kernel, by decide +kernel⟩, q_329, q_5⟩
theorem hi_X7_takes : Cond.instanceMethod yX7_takes ∈ wsL_law := q_327
theorem hs_X7_takes : Cond.selects yX7_takes.cls yX7_takes yX7_takes ∈ wsL_law := q_328
theorem hy_X7_faults : mm_Y yX7_faults cX7_faults 2 (some .boolean) 1 := ⟨⟨by decide +kernel, by decide +kernel, by decide +kernel⟩, q_333, q_5⟩
theorem hi_X7_faults : Cond.instanceMethod yX7_faults ∈ wsL_law := q_331
theorem hs_X7_faults : Cond.selects yX7_faults.cls yX7_faults yX7_faults ∈ wsL_law := q_332
theorem hy_X7_takesNumber : mm_Y yX7_takesNumber cX7_takesNumber 5 (some .boolean) 4 := ⟨⟨by decide +kernel, by decide +kernel, by decide +kernel⟩, q_337, q_5⟩
theorem hi_X7_takesNumber : Cond.instanceMethod yX7_takesNumber ∈ wsL_law := q_335
theorem hs_X7_takesNumber : Cond.selects yX7_takesNumber.cls yX7_takesNumber yX7_takesNumber ∈ wsL_law := q_336
theorem hy_X7_readBed : mm_Y yX7_readBed cX7_readBed 3 (some .boolean) 0 := ⟨⟨by decide +kernel, by decide +kernel, by decide +kernel⟩, q_341, q_5⟩
theorem hi_X7_readBed : Cond.instanceMethod yX7_readBed ∈ wsL_law := q_339
theorem hs_X7_readBed : Cond.selects yX7_readBed.cls yX7_readBed yX7_readBed ∈ wsL_law := q_340
theorem hy_X7_kindBy : mm_Y yX7_kindBy cX7_kindBy 1 (some .int) 1 := ⟨⟨by decide +kernel, by decide +kernel, by decide +kernel⟩, q_344, q_5⟩
theorem hz_X7_kindBy : Cond.static yX7_kindBy ∈ wsL_law := q_343
theorem hy_X6_fault : mm_Y yX6_fault cX6_fault 1 (some .int) 0 := ⟨⟨by decide +kernel, by decide +kernel, by decide +kernel⟩, q_348, q_2⟩
theorem hi_X6_fault : Cond.instanceMethod yX6_fault ∈ wsL_law := q_346
theorem hs_X6_fault : Cond.selects yX6_fault.cls yX6_fault yX6_fault ∈ wsL_law := q_347
theorem hy_X7_fault : mm_Y yX7_fault cX7_fault 1 (some .int) 0 := ⟨⟨by decide +kernel, by decide +kernel, by decide +kernel⟩, q_352, q_5⟩
theorem hi_X7_fault : Cond.instanceMethod yX7_fault ∈ wsL_law := q_350
theorem hs_X7_fault : Cond.selects yX7_fault.cls yX7_fault yX7_fault ∈ wsL_law := q_351
theorem hy_X6_undo : mm_Y yX6_undo cX6_undo 1 (some .int) 0 := ⟨⟨by decide +kernel, by decide +kernel, by decide +kernel⟩, q_356, q_2⟩
theorem hi_X6_undo : Cond.instanceMethod yX6_undo ∈ wsL_law := q_354
theorem hs_X6_undo : Cond.selects yX6_undo.cls yX6_undo yX6_undo ∈ wsL_law := q_355
theorem hy_X0_takeBack : mm_Y yX0_takeBack cX0_takeBack 4 (some .boolean) 1 := ⟨⟨by decide +kernel, by decide +kernel, by decide +kernel⟩, q_361, q_26⟩
theorem hi_X0_takeBack : Cond.instanceMethod yX0_takeBack ∈ wsL_law := q_359
theorem hs_X0_takeBack : Cond.selects yX0_takeBack.cls yX0_takeBack yX0_takeBack ∈ wsL_law := q_360
theorem hy_X0_kept : mm_Y yX0_kept cX0_kept 1 (some .int) 0 := ⟨⟨by decide +kernel, by decide +kernel, by decide +kernel⟩, q_366, q_26⟩
theorem hi_X0_kept : Cond.instanceMethod yX0_kept ∈ wsL_law := q_364
theorem hs_X0_kept : Cond.selects yX0_kept.cls yX0_kept yX0_kept ∈ wsL_law := q_365
theorem hy_X7_undo : mm_Y yX7_undo cX7_undo 2 (some .int) 0 := ⟨⟨by decide +kernel, by decide +kernel, by decide +kernel⟩, q_370, q_5⟩
theorem hi_X7_undo : Cond.instanceMethod yX7_undo ∈ wsL_law := q_368
theorem hs_X7_undo : Cond.selects yX7_undo.cls yX7_undo yX7_undo ∈ wsL_law := q_369
theorem hy_X6_tides : mm_Y yX6_tides cX6_tides 3 (some .int) 1 := ⟨⟨by decide +kernel, by decide +kernel, by decide +kernel⟩, q_375, q_2⟩
theorem hi_X6_tides : Cond.instanceMethod yX6_tides ∈ wsL_law := q_373
theorem hs_X6_tides : Cond.selects yX6_tides.cls yX6_tides yX6_tides ∈ wsL_law := q_374
theorem hy_X2_isNone : mm_Y yX2_isNone cX2_isNone 1 (some .boolean) 0 := ⟨⟨by decide +kernel, by decide +kernel, by decide +kernel⟩, q_379, q_22⟩
theorem hi_X2_isNone : Cond.instanceMethod yX2_isNone ∈ wsL_law := q_377
theorem hs_X2_isNone : Cond.selects yX2_isNone.cls yX2_isNone yX2_isNone ∈ wsL_law := q_378
theorem hy_X0_keep : mm_Y yX0_keep cX0_keep 3 none 1 := ⟨⟨by decide +kernel, by decide +kernel, by decide +kernel⟩, q_383, q_26⟩
theorem hi_X0_keep : Cond.instanceMethod yX0_keep ∈ wsL_law := q_381
theorem hs_X0_keep : Cond.selects yX0_keep.cls yX0_keep yX0_keep ∈ wsL_law := q_382
theorem hy_X2_flow : mm_Y yX2_flow cX2_flow 2 none 0 := ⟨⟨by decide +kernel, by decide +kernel, by decide +kernel⟩, q_391, q_22⟩
theorem hi_X2_flow : Cond.instanceMethod yX2_flow ∈ wsL_law := q_389
theorem hs_X2_flow : Cond.selects yX2_flow.cls yX2_flow yX2_flow ∈ wsL_law := q_390
theorem hy_X2_swell : mm_Y yX2_swell cX2_swell 3 none 1 := ⟨⟨by decide +kernel, by decide +kernel, by decide +kernel⟩, q_395, q_22⟩
theorem hi_X2_swell : Cond.instanceMethod yX2_swell ∈ wsL_law := q_393
theorem hs_X2_swell : Cond.selects yX2_swell.cls yX2_swell yX2_swell ∈ wsL_law := q_394
theorem hy_X2_has : mm_Y yX2_has cX2_has 2 (some .boolean) 1 := ⟨⟨by decide +kernel, by decide +kernel, by decide +kernel⟩, q_403, q_22⟩
theorem hi_X2_has : Cond.instanceMethod yX2_has ∈ wsL_law := q_401
theorem hs_X2_has : Cond.selects yX2_has.cls yX2_has yX2_has ∈ wsL_law := q_402
theorem hy_X2_lying : mm_Y yX2_lying cX2_lying 2 (some .int) 1 := ⟨⟨by decide +kernel, by decide +kernel, by decide +kernel⟩, q_407, q_22⟩
theorem hi_X2_lying : Cond.instanceMethod yX2_lying ∈ wsL_law := q_405
theorem hs_X2_lying : Cond.selects yX2_lying.cls yX2_lying yX2_lying ∈ wsL_law := q_406
theorem hy_X2_nearerBy : mm_Y yX2_nearerBy cX2_nearerBy 4 (some .int) 2 := ⟨⟨by decide +kernel, by decide +kernel, by decide +kernel⟩, q_411, q_22⟩
theorem hi_X2_nearerBy : Cond.instanceMethod yX2_nearerBy ∈ wsL_law := q_409
theorem hs_X2_nearerBy : Cond.selects yX2_nearerBy.cls yX2_nearerBy yX2_nearerBy ∈ wsL_law := q_410
theorem hy_X2_otherOne : mm_Y yX2_otherOne cX2_otherOne 1 (some .int) 1 := ⟨⟨by decide +kernel, by decide +kernel, by decide +kernel⟩, q_417, q_22⟩
theorem hz_X2_otherOne : Cond.static yX2_otherOne ∈ wsL_law := q_416
theorem hy_X2_byWarmth : mm_Y yX2_byWarmth cX2_byWarmth 1 (some .int) 1 := ⟨⟨by decide +kernel, by decide +kernel, by decide +kernel⟩, q_420, q_22⟩
theorem hz_X2_byWarmth : Cond.static yX2_byWarmth ∈ wsL_law := q_419
theorem hy_X2_allStock : mm_Y yX2_allStock cX2_allStock 3 (some .int) 0 := ⟨⟨by decide +kernel, by decide +kernel, by decide +kernel⟩, q_424, q_22⟩
theorem hi_X2_allStock : Cond.instanceMethod yX2_allStock ∈ wsL_law := q_422
theorem hs_X2_allStock : Cond.selects yX2_allStock.cls yX2_allStock yX2_allStock ∈ wsL_law := q_423
theorem hy_X2_stockOf : mm_Y yX2_stockOf cX2_stockOf 2 (some .int) 1 := ⟨⟨by decide +kernel, by decide +kernel, by decide +kernel⟩, q_428, q_22⟩
theorem hi_X2_stockOf : Cond.instanceMethod yX2_stockOf ∈ wsL_law := q_426
theorem hs_X2_stockOf : Cond.selects yX2_stockOf.cls yX2_stockOf yX2_stockOf ∈ wsL_law := q_427
theorem hy_X7_tides : mm_Y yX7_tides cX7_tides 3 (some .int) 1 := ⟨⟨by decide +kernel, by decide +kernel, by decide +kernel⟩, q_432, q_5⟩
theorem hi_X7_tides : Cond.instanceMethod yX7_tides ∈ wsL_law := q_430
theorem hs_X7_tides : Cond.selects yX7_tides.cls yX7_tides yX7_tides ∈ wsL_law := q_431
theorem hy_X7_note : mm_Y yX7_note cX7_note 2 none 0 := ⟨⟨by decide +kernel, by decide +kernel, by decide +kernel⟩, q_437, q_5⟩
theorem hi_X7_note : Cond.instanceMethod yX7_note ∈ wsL_law := q_435
theorem hs_X7_note : Cond.selects yX7_note.cls yX7_note yX7_note ∈ wsL_law := q_436
theorem hy_X7_oneTide : mm_Y yX7_oneTide cX7_oneTide 4 none 0 := ⟨⟨by decide +kernel, by decide +kernel, by decide +kernel⟩, q_441, q_5⟩
theorem hi_X7_oneTide : Cond.instanceMethod yX7_oneTide ∈ wsL_law := q_439
theorem hs_X7_oneTide : Cond.selects yX7_oneTide.cls yX7_oneTide yX7_oneTide ∈ wsL_law := q_440
theorem hy_X7_lies : mm_Y yX7_lies cX7_lies 4 (some .int) 1 := ⟨⟨by decide +kernel, by decide +kernel, by decide +kernel⟩, q_445, q_5⟩
theorem hi_X7_lies : Cond.instanceMethod yX7_lies ∈ wsL_law := q_443
theorem hs_X7_lies : Cond.selects yX7_lies.cls yX7_lies yX7_lies ∈ wsL_law := q_444
theorem hy_X7_nearer : mm_Y yX7_nearer cX7_nearer 4 (some .int) 2 := ⟨⟨by decide +kernel, by decide +kernel, by decide +kernel⟩, q_449, q_5⟩
theorem hi_X7_nearer : Cond.instanceMethod yX7_nearer ∈ wsL_law := q_447
theorem hs_X7_nearer : Cond.selects yX7_nearer.cls yX7_nearer yX7_nearer ∈ wsL_law := q_448
theorem hy_X7_off : mm_Y yX7_off cX7_off 4 (some .int) 2 := ⟨⟨by decide +kernel, by decide +kernel, by decide +kernel⟩, q_453, q_5⟩
theorem hi_X7_off : Cond.instanceMethod yX7_off ∈ wsL_law := q_451
theorem hs_X7_off : Cond.selects yX7_off.cls yX7_off yX7_off ∈ wsL_law := q_452
theorem hy_X7_allSizes : mm_Y yX7_allSizes cX7_allSizes 3 (some .int) 0 := ⟨⟨by decide +kernel, by decide +kernel, by decide +kernel⟩, q_457, q_5⟩
theorem hi_X7_allSizes : Cond.instanceMethod yX7_allSizes ∈ wsL_law := q_455
theorem hs_X7_allSizes : Cond.selects yX7_allSizes.cls yX7_allSizes yX7_allSizes ∈ wsL_law := q_456
theorem hy_X6_rake : mm_Y yX6_rake cX6_rake 3 (some .int) 2 := ⟨⟨by decide +kernel, by decide +kernel, by decide +kernel⟩, q_461, q_2⟩
theorem hi_X6_rake : Cond.instanceMethod yX6_rake ∈ wsL_law := q_459
theorem hs_X6_rake : Cond.selects yX6_rake.cls yX6_rake yX6_rake ∈ wsL_law := q_460
theorem hy_X2_hasVeto : mm_Y yX2_hasVeto cX2_hasVeto 2 (some .boolean) 1 := ⟨⟨by decide +kernel, by decide +kernel, by decide +kernel⟩, q_466, q_22⟩
theorem hi_X2_hasVeto : Cond.instanceMethod yX2_hasVeto ∈ wsL_law := q_464
theorem hs_X2_hasVeto : Cond.selects yX2_hasVeto.cls yX2_hasVeto yX2_hasVeto ∈ wsL_law := q_465
theorem hy_X2_rakeUp : mm_Y yX2_rakeUp cX2_rakeUp 5 (some .int) 2 := ⟨⟨by decide +kernel, by decide +kernel, by decide +kernel⟩, q_471, q_22⟩
theorem hi_X2_rakeUp : Cond.instanceMethod yX2_rakeUp ∈ wsL_law := q_469
theorem hs_X2_rakeUp : Cond.selects yX2_rakeUp.cls yX2_rakeUp yX2_rakeUp ∈ wsL_law := q_470
theorem hy_X2_sieved : mm_Y yX2_sieved cX2_sieved 1 (some .int) 1 := ⟨⟨by decide +kernel, by decide +kernel, by decide +kernel⟩, q_474, q_22⟩
theorem hz_X2_sieved : Cond.static yX2_sieved ∈ wsL_law := q_473
theorem hy_X7_rake : mm_Y yX7_rake cX7_rake 3 (some .int) 2 := ⟨⟨by decide +kernel, by decide +kernel, by decide +kernel⟩, q_478, q_5⟩
theorem hi_X7_rake : Cond.instanceMethod yX7_rake ∈ wsL_law := q_476
theorem hs_X7_rake : Cond.selects yX7_rake.cls yX7_rake yX7_rake ∈ wsL_law := q_477
theorem hy_X7_isBed : mm_Y yX7_isBed cX7_isBed 2 (some .boolean) 1 := ⟨⟨by decide +kernel, by decide +kernel, by decide +kernel⟩, q_483, q_5⟩
theorem hi_X7_isBed : Cond.instanceMethod yX7_isBed ∈ wsL_law := q_481
theorem hs_X7_isBed : Cond.selects yX7_isBed.cls yX7_isBed yX7_isBed ∈ wsL_law := q_482
theorem hy_X7_hasVeto : mm_Y yX7_hasVeto cX7_hasVeto 2 (some .boolean) 1 := ⟨⟨by decide +kernel, by decide +kernel, by decide +kernel⟩, q_487, q_5⟩
theorem hi_X7_hasVeto : Cond.instanceMethod yX7_hasVeto ∈ wsL_law := q_485
theorem hs_X7_hasVeto : Cond.selects yX7_hasVeto.cls yX7_hasVeto yX7_hasVeto ∈ wsL_law := q_486
theorem hy_X7_has : mm_Y yX7_has cX7_has 2 (some .boolean) 2 := ⟨⟨by decide +kernel, by decide +kernel, by decide +kernel⟩, q_490, q_5⟩
theorem hz_X7_has : Cond.static yX7_has ∈ wsL_law := q_489
theorem hy_X7_rakeBy : mm_Y yX7_rakeBy cX7_rakeBy 4 none 2 := ⟨⟨by decide +kernel, by decide +kernel, by decide +kernel⟩, q_494, q_5⟩
theorem hi_X7_rakeBy : Cond.instanceMethod yX7_rakeBy ∈ wsL_law := q_492
theorem hs_X7_rakeBy : Cond.selects yX7_rakeBy.cls yX7_rakeBy yX7_rakeBy ∈ wsL_law := q_493
theorem hy_X6_rain : mm_Y yX6_rain cX6_rain 4 (some .int) 2 := ⟨⟨by decide +kernel, by decide +kernel, by decide +kernel⟩, q_498, q_2⟩
theorem hi_X6_rain : Cond.instanceMethod yX6_rain ∈ wsL_law := q_496
theorem hs_X6_rain : Cond.selects yX6_rain.cls yX6_rain yX6_rain ∈ wsL_law := q_497
theorem hy_X2_warmOf : mm_Y yX2_warmOf cX2_warmOf 2 (some .int) 1 := ⟨⟨by decide +kernel, by decide +kernel, by decide +kernel⟩, q_502, q_22⟩
theorem hi_X2_warmOf : Cond.instanceMethod yX2_warmOf ∈ wsL_law := q_500
theorem hs_X2_warmOf : Cond.selects yX2_warmOf.cls yX2_warmOf yX2_warmOf ∈ wsL_law := q_501
theorem hy_X2_warmTo : mm_Y yX2_warmTo cX2_warmTo 3 none 2 := ⟨⟨by decide +kernel, by decide +kernel, by decide +kernel⟩, q_506, q_22⟩
theorem hi_X2_warmTo : Cond.instanceMethod yX2_warmTo ∈ wsL_law := q_504
theorem hs_X2_warmTo : Cond.selects yX2_warmTo.cls yX2_warmTo yX2_warmTo ∈ wsL_law := q_505
theorem hy_X7_rain : mm_Y yX7_rain cX7_rain 4 (some .int) 2 := ⟨⟨by decide +kernel, by decide +kernel, by decide +kernel⟩, q_510, q_5⟩
theorem hi_X7_rain : Cond.instanceMethod yX7_rain ∈ wsL_law := q_508
theorem hs_X7_rain : Cond.selects yX7_rain.cls yX7_rain yX7_rain ∈ wsL_law := q_509
theorem hy_X6_veto : mm_Y yX6_veto cX6_veto 3 (some .int) 2 := ⟨⟨by decide +kernel, by decide +kernel, by decide +kernel⟩, q_515, q_2⟩
theorem hi_X6_veto : Cond.instanceMethod yX6_veto ∈ wsL_law := q_513
theorem hs_X6_veto : Cond.selects yX6_veto.cls yX6_veto yX6_veto ∈ wsL_law := q_514
theorem hy_X2_turnVeto : mm_Y yX2_turnVeto cX2_turnVeto 2 none 1 := ⟨⟨by decide +kernel, by decide +kernel, by decide +kernel⟩, q_519, q_22⟩
theorem hi_X2_turnVeto : Cond.instanceMethod yX2_turnVeto ∈ wsL_law := q_517
theorem hs_X2_turnVeto : Cond.selects yX2_turnVeto.cls yX2_turnVeto yX2_turnVeto ∈ wsL_law := q_518
theorem hy_X7_veto : mm_Y yX7_veto cX7_veto 3 (some .int) 2 := ⟨⟨by decide +kernel, by decide +kernel, by decide +kernel⟩, q_523, q_5⟩
theorem hi_X7_veto : Cond.instanceMethod yX7_veto ∈ wsL_law := q_521
theorem hs_X7_veto : Cond.selects yX7_veto.cls yX7_veto yX7_veto ∈ wsL_law := q_522
theorem hy_X6_stand : mm_Y yX6_stand cX6_stand 4 (some .int) 2 := ⟨⟨by decide +kernel, by decide +kernel, by decide +kernel⟩, q_527, q_2⟩
theorem hi_X6_stand : Cond.instanceMethod yX6_stand ∈ wsL_law := q_525
theorem hs_X6_stand : Cond.selects yX6_stand.cls yX6_stand yX6_stand ∈ wsL_law := q_526
theorem hy_X6_isOne : mm_Y yX6_isOne cX6_isOne 1 (some .boolean) 1 := ⟨⟨by decide +kernel, by decide +kernel, by decide +kernel⟩, q_530, q_2⟩
theorem hz_X6_isOne : Cond.static yX6_isOne ∈ wsL_law := q_529
theorem hy_X2_standIn : mm_Y yX2_standIn cX2_standIn 3 none 2 := ⟨⟨by decide +kernel, by decide +kernel, by decide +kernel⟩, q_534, q_22⟩
theorem hi_X2_standIn : Cond.instanceMethod yX2_standIn ∈ wsL_law := q_532
theorem hs_X2_standIn : Cond.selects yX2_standIn.cls yX2_standIn yX2_standIn ∈ wsL_law := q_533
theorem hy_X7_stand : mm_Y yX7_stand cX7_stand 4 (some .int) 2 := ⟨⟨by decide +kernel, by decide +kernel, by decide +kernel⟩, q_538, q_5⟩
theorem hi_X7_stand : Cond.instanceMethod yX7_stand ∈ wsL_law := q_536
theorem hs_X7_stand : Cond.selects yX7_stand.cls yX7_stand yX7_stand ∈ wsL_law := q_537
theorem hy_X7_isWho : mm_Y yX7_isWho cX7_isWho 1 (some .boolean) 1 := ⟨⟨by decide +kernel, by decide +kernel, by decide +kernel⟩, q_542, q_5⟩
theorem hz_X7_isWho : Cond.static yX7_isWho ∈ wsL_law := q_541
theorem hy_X6_bed : mm_Y yX6_bed cX6_bed 3 (some .int) 2 := ⟨⟨by decide +kernel, by decide +kernel, by decide +kernel⟩, q_546, q_2⟩
theorem hi_X6_bed : Cond.instanceMethod yX6_bed ∈ wsL_law := q_544
theorem hs_X6_bed : Cond.selects yX6_bed.cls yX6_bed yX6_bed ∈ wsL_law := q_545
theorem hy_X2_tellOf : mm_Y yX2_tellOf cX2_tellOf 3 (some .int) 2 := ⟨⟨by decide +kernel, by decide +kernel, by decide +kernel⟩, q_550, q_22⟩
theorem hi_X2_tellOf : Cond.instanceMethod yX2_tellOf ∈ wsL_law := q_548
theorem hs_X2_tellOf : Cond.selects yX2_tellOf.cls yX2_tellOf yX2_tellOf ∈ wsL_law := q_549
theorem hy_X7_bed : mm_Y yX7_bed cX7_bed 3 (some .int) 2 := ⟨⟨by decide +kernel, by decide +kernel, by decide +kernel⟩, q_555, q_5⟩
theorem hi_X7_bed : Cond.instanceMethod yX7_bed ∈ wsL_law := q_553
theorem hs_X7_bed : Cond.selects yX7_bed.cls yX7_bed yX7_bed ∈ wsL_law := q_554
theorem hy_X7_toldOf : mm_Y yX7_toldOf cX7_toldOf 3 (some .int) 2 := ⟨⟨by decide +kernel, by decide +kernel, by decide +kernel⟩, q_560, q_5⟩
theorem hi_X7_toldOf : Cond.instanceMethod yX7_toldOf ∈ wsL_law := q_558
theorem hs_X7_toldOf : Cond.selects yX7_toldOf.cls yX7_toldOf yX7_toldOf ∈ wsL_law := q_559
theorem hy_X6_board : mm_Y yX6_board cX6_board 2 (some .int) 1 := ⟨⟨by decide +kernel, by decide +kernel, by decide +kernel⟩, q_564, q_2⟩
theorem hi_X6_board : Cond.instanceMethod yX6_board ∈ wsL_law := q_562
theorem hs_X6_board : Cond.selects yX6_board.cls yX6_board yX6_board ∈ wsL_law := q_563
theorem hy_X2_countedFor : mm_Y yX2_countedFor cX2_countedFor 2 (some .int) 1 := ⟨⟨by decide +kernel, by decide +kernel, by decide +kernel⟩, q_568, q_22⟩
theorem hi_X2_countedFor : Cond.instanceMethod yX2_countedFor ∈ wsL_law := q_566
theorem hs_X2_countedFor : Cond.selects yX2_countedFor.cls yX2_countedFor yX2_countedFor ∈ wsL_law := q_567
theorem hy_X7_board : mm_Y yX7_board cX7_board 2 (some .int) 1 := ⟨⟨by decide +kernel, by decide +kernel, by decide +kernel⟩, q_572, q_5⟩
theorem hi_X7_board : Cond.instanceMethod yX7_board ∈ wsL_law := q_570
theorem hs_X7_board : Cond.selects yX7_board.cls yX7_board yX7_board ∈ wsL_law := q_571
theorem hy_X6_ahead : mm_Y yX6_ahead cX6_ahead 4 (some .int) 3 := ⟨⟨by decide +kernel, by decide +kernel, by decide +kernel⟩, q_577, q_2⟩
theorem hi_X6_ahead : Cond.instanceMethod yX6_ahead ∈ wsL_law := q_575
theorem hs_X6_ahead : Cond.selects yX6_ahead.cls yX6_ahead yX6_ahead ∈ wsL_law := q_576
theorem hy_X3_after : mm_Y yX3_after cX3_after 4 (some (.object "CockleSquires$Flat")) 2 := ⟨⟨by decide +kernel, by decide +kernel, by decide +kernel⟩, q_581, q_31⟩
theorem hi_X3_after : Cond.instanceMethod yX3_after ∈ wsL_law := q_579
theorem hs_X3_after : Cond.selects yX3_after.cls yX3_after yX3_after ∈ wsL_law := q_580
theorem hy_X7_ahead : mm_Y yX7_ahead cX7_ahead 5 (some .int) 3 := ⟨⟨by decide +kernel, by decide +kernel, by decide +kernel⟩, q_587, q_5⟩
theorem hi_X7_ahead : Cond.instanceMethod yX7_ahead ∈ wsL_law := q_585
theorem hs_X7_ahead : Cond.selects yX7_ahead.cls yX7_ahead yX7_ahead ∈ wsL_law := q_586
theorem hy_X7_putAside : mm_Y yX7_putAside cX7_putAside 2 none 0 := ⟨⟨by decide +kernel, by decide +kernel, by decide +kernel⟩, q_592, q_5⟩
theorem hi_X7_putAside : Cond.instanceMethod yX7_putAside ∈ wsL_law := q_590
theorem hs_X7_putAside : Cond.selects yX7_putAside.cls yX7_putAside yX7_putAside ∈ wsL_law := q_591
theorem hy_X7_goOn : mm_Y yX7_goOn cX7_goOn 3 none 1 := ⟨⟨by decide +kernel, by decide +kernel, by decide +kernel⟩, q_596, q_5⟩
theorem hi_X7_goOn : Cond.instanceMethod yX7_goOn ∈ wsL_law := q_594
theorem hs_X7_goOn : Cond.selects yX7_goOn.cls yX7_goOn yX7_goOn ∈ wsL_law := q_595
theorem hy_X7_takeBack : mm_Y yX7_takeBack cX7_takeBack 2 none 0 := ⟨⟨by decide +kernel, by decide +kernel, by decide +kernel⟩, q_600, q_5⟩
theorem hi_X7_takeBack : Cond.instanceMethod yX7_takeBack ∈ wsL_law := q_598
theorem hs_X7_takeBack : Cond.selects yX7_takeBack.cls yX7_takeBack yX7_takeBack ∈ wsL_law := q_599
theorem hy_X6_tally : mm_Y yX6_tally cX6_tally 3 (some .int) 2 := ⟨⟨by decide +kernel, by decide +kernel, by decide +kernel⟩, q_604, q_2⟩
theorem hi_X6_tally : Cond.instanceMethod yX6_tally ∈ wsL_law := q_602
theorem hs_X6_tally : Cond.selects yX6_tally.cls yX6_tally yX6_tally ∈ wsL_law := q_603
theorem hy_X2_tallyFor : mm_Y yX2_tallyFor cX2_tallyFor 4 (some .int) 1 := ⟨⟨by decide +kernel, by decide +kernel, by decide +kernel⟩, q_608, q_22⟩
theorem hi_X2_tallyFor : Cond.instanceMethod yX2_tallyFor ∈ wsL_law := q_606
theorem hs_X2_tallyFor : Cond.selects yX2_tallyFor.cls yX2_tallyFor yX2_tallyFor ∈ wsL_law := q_607
theorem hy_X7_tally : mm_Y yX7_tally cX7_tally 4 (some .int) 2 := ⟨⟨by decide +kernel, by decide +kernel, by decide +kernel⟩, q_614, q_5⟩
theorem hi_X7_tally : Cond.instanceMethod yX7_tally ∈ wsL_law := q_612
theorem hs_X7_tally : Cond.selects yX7_tally.cls yX7_tally yX7_tally ∈ wsL_law := q_613
theorem hy_X7_tallyOf : mm_Y yX7_tallyOf cX7_tallyOf 2 (some .int) 1 := ⟨⟨by decide +kernel, by decide +kernel, by decide +kernel⟩, q_618, q_5⟩
theorem hi_X7_tallyOf : Cond.instanceMethod yX7_tallyOf ∈ wsL_law := q_616
theorem hs_X7_tallyOf : Cond.selects yX7_tallyOf.cls yX7_tallyOf yX7_tallyOf ∈ wsL_law := q_617
theorem hy_X7_bringFor : mm_Y yX7_bringFor cX7_bringFor 5 (some .int) 2 := ⟨⟨by decide +kernel, by decide +kernel, by decide +kernel⟩, q_622, q_5⟩
theorem hi_X7_bringFor : Cond.instanceMethod yX7_bringFor ∈ wsL_law := q_620
theorem hs_X7_bringFor : Cond.selects yX7_bringFor.cls yX7_bringFor yX7_bringFor ∈ wsL_law := q_621
theorem hy_X6_when : mm_Y yX6_when cX6_when 3 (some .int) 2 := ⟨⟨by decide +kernel, by decide +kernel, by decide +kernel⟩, q_626, q_2⟩
theorem hi_X6_when : Cond.instanceMethod yX6_when ∈ wsL_law := q_624
theorem hs_X6_when : Cond.selects yX6_when.cls yX6_when yX6_when ∈ wsL_law := q_625
theorem hy_X3_firstLying : mm_Y yX3_firstLying cX3_firstLying 5 (some .int) 3 := ⟨⟨by decide +kernel, by decide +kernel, by decide +kernel⟩, q_630, q_31⟩
theorem hi_X3_firstLying : Cond.instanceMethod yX3_firstLying ∈ wsL_law := q_628
theorem hs_X3_firstLying : Cond.selects yX3_firstLying.cls yX3_firstLying yX3_firstLying ∈ wsL_law := q_629
theorem hy_X7_when : mm_Y yX7_when cX7_when 5 (some .int) 2 := ⟨⟨by decide +kernel, by decide +kernel, by decide +kernel⟩, q_636, q_5⟩
theorem hi_X7_when : Cond.instanceMethod yX7_when ∈ wsL_law := q_634
theorem hs_X7_when : Cond.selects yX7_when.cls yX7_when yX7_when ∈ wsL_law := q_635
theorem hy_X6_place : mm_Y yX6_place cX6_place 4 (some .int) 2 := ⟨⟨by decide +kernel, by decide +kernel, by decide +kernel⟩, q_641, q_2⟩
theorem hi_X6_place : Cond.instanceMethod yX6_place ∈ wsL_law := q_639
theorem hs_X6_place : Cond.selects yX6_place.cls yX6_place yX6_place ∈ wsL_law := q_640
theorem hy_X3_bestCell : mm_Y yX3_bestCell cX3_bestCell 7 (some .int) 2 := ⟨⟨by decide +kernel, by decide +kernel, by decide +kernel⟩, q_645, q_31⟩
theorem hi_X3_bestCell : Cond.instanceMethod yX3_bestCell ∈ wsL_law := q_643
theorem hs_X3_bestCell : Cond.selects yX3_bestCell.cls yX3_bestCell yX3_bestCell ∈ wsL_law := q_644
theorem hy_X3_leadFrom : mm_Y yX3_leadFrom cX3_leadFrom 4 (some .int) 3 := ⟨⟨by decide +kernel, by decide +kernel, by decide +kernel⟩, q_649, q_31⟩
theorem hi_X3_leadFrom : Cond.instanceMethod yX3_leadFrom ∈ wsL_law := q_647
theorem hs_X3_leadFrom : Cond.selects yX3_leadFrom.cls yX3_leadFrom yX3_leadFrom ∈ wsL_law := q_648
theorem hy_X2_leadOf : mm_Y yX2_leadOf cX2_leadOf 4 (some .int) 1 := ⟨⟨by decide +kernel, by decide +kernel, by decide +kernel⟩, q_654, q_22⟩
theorem hi_X2_leadOf : Cond.instanceMethod yX2_leadOf ∈ wsL_law := q_652
theorem hs_X2_leadOf : Cond.selects yX2_leadOf.cls yX2_leadOf yX2_leadOf ∈ wsL_law := q_653
theorem hy_X2_countedLead : mm_Y yX2_countedLead cX2_countedLead 3 (some .int) 1 := ⟨⟨by decide +kernel, by decide +kernel, by decide +kernel⟩, q_658, q_22⟩
theorem hi_X2_countedLead : Cond.instanceMethod yX2_countedLead ∈ wsL_law := q_656
theorem hs_X2_countedLead : Cond.selects yX2_countedLead.cls yX2_countedLead yX2_countedLead ∈ wsL_law := q_657
theorem hy_X2_gainBy : mm_Y yX2_gainBy cX2_gainBy 5 (some .int) 2 := ⟨⟨by decide +kernel, by decide +kernel, by decide +kernel⟩, q_662, q_22⟩
theorem hi_X2_gainBy : Cond.instanceMethod yX2_gainBy ∈ wsL_law := q_660
theorem hs_X2_gainBy : Cond.selects yX2_gainBy.cls yX2_gainBy yX2_gainBy ∈ wsL_law := q_661
theorem hy_X7_place : mm_Y yX7_place cX7_place 4 (some .int) 2 := ⟨⟨by decide +kernel, by decide +kernel, by decide +kernel⟩, q_667, q_5⟩
theorem hi_X7_place : Cond.instanceMethod yX7_place ∈ wsL_law := q_665
theorem hs_X7_place : Cond.selects yX7_place.cls yX7_place yX7_place ∈ wsL_law := q_666
theorem hy_X7_isWhat : mm_Y yX7_isWhat cX7_isWhat 1 (some .boolean) 1 := ⟨⟨by decide +kernel, by decide +kernel, by decide +kernel⟩, q_670, q_5⟩
theorem hz_X7_isWhat : Cond.static yX7_isWhat ∈ wsL_law := q_669
theorem hy_X7_bestCell : mm_Y yX7_bestCell cX7_bestCell 7 (some .int) 1 := ⟨⟨by decide +kernel, by decide +kernel, by decide +kernel⟩, q_674, q_5⟩
theorem hi_X7_bestCell : Cond.instanceMethod yX7_bestCell ∈ wsL_law := q_672
theorem hs_X7_bestCell : Cond.selects yX7_bestCell.cls yX7_bestCell yX7_bestCell ∈ wsL_law := q_673
theorem hy_X7_leadOf : mm_Y yX7_leadOf cX7_leadOf 2 (some .int) 1 := ⟨⟨by decide +kernel, by decide +kernel, by decide +kernel⟩, q_678, q_5⟩
theorem hi_X7_leadOf : Cond.instanceMethod yX7_leadOf ∈ wsL_law := q_676
theorem hs_X7_leadOf : Cond.selects yX7_leadOf.cls yX7_leadOf yX7_leadOf ∈ wsL_law := q_677
theorem hy_X7_leadFrom : mm_Y yX7_leadFrom cX7_leadFrom 5 (some .int) 2 := ⟨⟨by decide +kernel, by decide +kernel, by decide +kernel⟩, q_682, q_5⟩
theorem hi_X7_leadFrom : Cond.instanceMethod yX7_leadFrom ∈ wsL_law := q_680
theorem hs_X7_leadFrom : Cond.selects yX7_leadFrom.cls yX7_leadFrom yX7_leadFrom ∈ wsL_law := q_681
theorem hy_X6_rests : mm_Y yX6_rests cX6_rests 2 (some .int) 1 := ⟨⟨by decide +kernel, by decide +kernel, by decide +kernel⟩, q_686, q_2⟩
theorem hi_X6_rests : Cond.instanceMethod yX6_rests ∈ wsL_law := q_684
theorem hs_X6_rests : Cond.selects yX6_rests.cls yX6_rests yX6_rests ∈ wsL_law := q_685
theorem hy_X3_weighPairs : mm_Y yX3_weighPairs cX3_weighPairs 4 none 1 := ⟨⟨by decide +kernel, by decide +kernel, by decide +kernel⟩, q_690, q_31⟩
theorem hi_X3_weighPairs : Cond.instanceMethod yX3_weighPairs ∈ wsL_law := q_688
theorem hs_X3_weighPairs : Cond.selects yX3_weighPairs.cls yX3_weighPairs yX3_weighPairs ∈ wsL_law := q_689
theorem hy_X3_restingPairs : mm_Y yX3_restingPairs cX3_restingPairs 4 (some .int) 0 := ⟨⟨by decide +kernel, by decide +kernel, by decide +kernel⟩, q_694, q_31⟩
theorem hi_X3_restingPairs : Cond.instanceMethod yX3_restingPairs ∈ wsL_law := q_692
theorem hs_X3_restingPairs : Cond.selects yX3_restingPairs.cls yX3_restingPairs yX3_restingPairs ∈ wsL_law := q_693
theorem hy_X3_isResting : mm_Y yX3_isResting cX3_isResting 5 (some .boolean) 2 := ⟨⟨by decide +kernel, by decide +kernel, by decide +kernel⟩, q_698, q_31⟩
theorem hi_X3_isResting : Cond.instanceMethod yX3_isResting ∈ wsL_law := q_696
theorem hs_X3_isResting : Cond.selects yX3_isResting.cls yX3_isResting yX3_isResting ∈ wsL_law := q_697
theorem hy_X3_firstResting : mm_Y yX3_firstResting cX3_firstResting 3 (some .int) 0 := ⟨⟨by decide +kernel, by decide +kernel, by decide +kernel⟩, q_702, q_31⟩
theorem hi_X3_firstResting : Cond.instanceMethod yX3_firstResting ∈ wsL_law := q_700
theorem hs_X3_firstResting : Cond.selects yX3_firstResting.cls yX3_firstResting yX3_firstResting ∈ wsL_law := q_701
theorem hy_X7_rests : mm_Y yX7_rests cX7_rests 6 (some .int) 1 := ⟨⟨by decide +kernel, by decide +kernel, by decide +kernel⟩, q_706, q_5⟩
theorem hi_X7_rests : Cond.instanceMethod yX7_rests ∈ wsL_law := q_704
theorem hs_X7_rests : Cond.selects yX7_rests.cls yX7_rests yX7_rests ∈ wsL_law := q_705
theorem hy_X6_rakes : mm_Y yX6_rakes cX6_rakes 4 (some .int) 2 := ⟨⟨by decide +kernel, by decide +kernel, by decide +kernel⟩, q_710, q_2⟩
theorem hi_X6_rakes : Cond.instanceMethod yX6_rakes ∈ wsL_law := q_708
theorem hs_X6_rakes : Cond.selects yX6_rakes.cls yX6_rakes yX6_rakes ∈ wsL_law := q_709
theorem hy_X3_fewestRaked : mm_Y yX3_fewestRaked cX3_fewestRaked 7 (some .int) 2 := ⟨⟨by decide +kernel, by decide +kernel, by decide +kernel⟩, q_715, q_31⟩
theorem hi_X3_fewestRaked : Cond.instanceMethod yX3_fewestRaked ∈ wsL_law := q_713
theorem hs_X3_fewestRaked : Cond.selects yX3_fewestRaked.cls yX3_fewestRaked yX3_fewestRaked ∈ wsL_law := q_714
theorem hy_X3_weighBeds : mm_Y yX3_weighBeds cX3_weighBeds 4 none 2 := ⟨⟨by decide +kernel, by decide +kernel, by decide +kernel⟩, q_719, q_31⟩
theorem hi_X3_weighBeds : Cond.instanceMethod yX3_weighBeds ∈ wsL_law := q_717
theorem hs_X3_weighBeds : Cond.selects yX3_weighBeds.cls yX3_weighBeds yX3_weighBeds ∈ wsL_law := q_718
theorem hy_J6_bitCount_0f7a4 : mm_Y yJ6_bitCount_0f7a4 cJ6_bitCount_0f7a4 1 (some .int) 1 := ⟨⟨by decide +kernel, by decide +kernel, by decide +kernel⟩, q_727, q_726⟩
theorem hz_J6_bitCount_0f7a4 : Cond.static yJ6_bitCount_0f7a4 ∈ wsL_law := q_725
theorem hy_X3_gainOfAll : mm_Y yX3_gainOfAll cX3_gainOfAll 4 (some .int) 1 := ⟨⟨by decide +kernel, by decide +kernel, by decide +kernel⟩, q_734, q_31⟩
theorem hi_X3_gainOfAll : Cond.instanceMethod yX3_gainOfAll ∈ wsL_law := q_732
theorem hs_X3_gainOfAll : Cond.selects yX3_gainOfAll.cls yX3_gainOfAll yX3_gainOfAll ∈ wsL_law := q_733
theorem hy_X7_rakes : mm_Y yX7_rakes cX7_rakes 7 (some .int) 2 := ⟨⟨by decide +kernel, by decide +kernel, by decide +kernel⟩, q_739, q_5⟩
theorem hi_X7_rakes : Cond.instanceMethod yX7_rakes ∈ wsL_law := q_737
theorem hs_X7_rakes : Cond.selects yX7_rakes.cls yX7_rakes yX7_rakes ∈ wsL_law := q_738
theorem hy_X7_ones : mm_Y yX7_ones cX7_ones 3 (some .int) 1 := ⟨⟨by decide +kernel, by decide +kernel, by decide +kernel⟩, q_742, q_5⟩
theorem hz_X7_ones : Cond.static yX7_ones ∈ wsL_law := q_741
theorem hy_X6_wards : mm_Y yX6_wards cX6_wards 5 (some .int) 3 := ⟨⟨by decide +kernel, by decide +kernel, by decide +kernel⟩, q_746, q_2⟩
theorem hi_X6_wards : Cond.instanceMethod yX6_wards ∈ wsL_law := q_744
theorem hs_X6_wards : Cond.selects yX6_wards.cls yX6_wards yX6_wards ∈ wsL_law := q_745
theorem hy_X3_bestCut : mm_Y yX3_bestCut cX3_bestCut 8 (some .int) 3 := ⟨⟨by decide +kernel, by decide +kernel, by decide +kernel⟩, q_750, q_31⟩
theorem hi_X3_bestCut : Cond.instanceMethod yX3_bestCut ∈ wsL_law := q_748
theorem hs_X3_bestCut : Cond.selects yX3_bestCut.cls yX3_bestCut yX3_bestCut ∈ wsL_law := q_749
theorem hy_X3_wardsOf : mm_Y yX3_wardsOf cX3_wardsOf 4 (some .int) 2 := ⟨⟨by decide +kernel, by decide +kernel, by decide +kernel⟩, q_753, q_31⟩
theorem hz_X3_wardsOf : Cond.static yX3_wardsOf ∈ wsL_law := q_752
theorem hy_X3_wardsLed : mm_Y yX3_wardsLed cX3_wardsLed 8 (some .int) 2 := ⟨⟨by decide +kernel, by decide +kernel, by decide +kernel⟩, q_757, q_31⟩
theorem hi_X3_wardsLed : Cond.instanceMethod yX3_wardsLed ∈ wsL_law := q_755
theorem hs_X3_wardsLed : Cond.selects yX3_wardsLed.cls yX3_wardsLed yX3_wardsLed ∈ wsL_law := q_756
theorem hy_X3_gainBetween : mm_Y yX3_gainBetween cX3_gainBetween 5 (some .int) 2 := ⟨⟨by decide +kernel, by decide +kernel, by decide +kernel⟩, q_761, q_31⟩
theorem hi_X3_gainBetween : Cond.instanceMethod yX3_gainBetween ∈ wsL_law := q_759
theorem hs_X3_gainBetween : Cond.selects yX3_gainBetween.cls yX3_gainBetween yX3_gainBetween ∈ wsL_law := q_760
theorem hy_X7_wards : mm_Y yX7_wards cX7_wards 10 (some .int) 3 := ⟨⟨by decide +kernel, by decide +kernel, by decide +kernel⟩, q_766, q_5⟩
theorem hi_X7_wards : Cond.instanceMethod yX7_wards ∈ wsL_law := q_764
theorem hs_X7_wards : Cond.selects yX7_wards.cls yX7_wards yX7_wards ∈ wsL_law := q_765
theorem hy_X7_ledBy : mm_Y yX7_ledBy cX7_ledBy 5 (some .int) 3 := ⟨⟨by decide +kernel, by decide +kernel, by decide +kernel⟩, q_770, q_5⟩
theorem hi_X7_ledBy : Cond.instanceMethod yX7_ledBy ∈ wsL_law := q_768
theorem hs_X7_ledBy : Cond.selects yX7_ledBy.cls yX7_ledBy yX7_ledBy ∈ wsL_law := q_769
theorem hy_X6_decide : mm_Y yX6_decide cX6_decide 1 (some .int) 0 := ⟨⟨by decide +kernel, by decide +kernel, by decide +kernel⟩, q_774, q_2⟩
theorem hi_X6_decide : Cond.instanceMethod yX6_decide ∈ wsL_law := q_772
theorem hs_X6_decide : Cond.selects yX6_decide.cls yX6_decide yX6_decide ∈ wsL_law := q_773
theorem hy_X2_deciding : mm_Y yX2_deciding cX2_deciding 6 (some .int) 0 := ⟨⟨by decide +kernel, by decide +kernel, by decide +kernel⟩, q_778, q_22⟩
theorem hi_X2_deciding : Cond.instanceMethod yX2_deciding ∈ wsL_law := q_776
theorem hs_X2_deciding : Cond.selects yX2_deciding.cls yX2_deciding yX2_deciding ∈ wsL_law := q_777
theorem hy_X2_leader : mm_Y yX2_leader cX2_leader 1 (some .int) 1 := ⟨⟨by decide +kernel, by decide +kernel, by decide +kernel⟩, q_782, q_22⟩
theorem hz_X2_leader : Cond.static yX2_leader ∈ wsL_law := q_781
theorem hy_X7_decide : mm_Y yX7_decide cX7_decide 4 (some .int) 0 := ⟨⟨by decide +kernel, by decide +kernel, by decide +kernel⟩, q_786, q_5⟩
theorem hi_X7_decide : Cond.instanceMethod yX7_decide ∈ wsL_law := q_784
theorem hs_X7_decide : Cond.selects yX7_decide.cls yX7_decide yX7_decide ∈ wsL_law := q_785
theorem hy_X7_sign : mm_Y yX7_sign cX7_sign 1 (some .int) 1 := ⟨⟨by decide +kernel, by decide +kernel, by decide +kernel⟩, q_789, q_5⟩
theorem hz_X7_sign : Cond.static yX7_sign ∈ wsL_law := q_788
theorem hy_X6_grown : mm_Y yX6_grown cX6_grown 6 (some .int) 5 := ⟨⟨by decide +kernel, by decide +kernel, by decide +kernel⟩, q_793, q_2⟩
theorem hi_X6_grown : Cond.instanceMethod yX6_grown ∈ wsL_law := q_791
theorem hs_X6_grown : Cond.selects yX6_grown.cls yX6_grown yX6_grown ∈ wsL_law := q_792
theorem hy_X3_hear : mm_Y yX3_hear cX3_hear 6 none 4 := ⟨⟨by decide +kernel, by decide +kernel, by decide +kernel⟩, q_797, q_31⟩
theorem hi_X3_hear : Cond.instanceMethod yX3_hear ∈ wsL_law := q_795
theorem hs_X3_hear : Cond.selects yX3_hear.cls yX3_hear yX3_hear ∈ wsL_law := q_796
theorem hy_X4_itemOf : mm_Y yX4_itemOf cX4_itemOf 3 (some .int) 2 := ⟨⟨by decide +kernel, by decide +kernel, by decide +kernel⟩, q_801, q_14⟩
theorem hi_X4_itemOf : Cond.instanceMethod yX4_itemOf ∈ wsL_law := q_799
theorem hs_X4_itemOf : Cond.selects yX4_itemOf.cls yX4_itemOf yX4_itemOf ∈ wsL_law := q_800
theorem hy_X3_grownBy : mm_Y yX3_grownBy cX3_grownBy 9 (some .int) 4 := ⟨⟨by decide +kernel, by decide +kernel, by decide +kernel⟩, q_805, q_31⟩
theorem hi_X3_grownBy : Cond.instanceMethod yX3_grownBy ∈ wsL_law := q_803
theorem hs_X3_grownBy : Cond.selects yX3_grownBy.cls yX3_grownBy yX3_grownBy ∈ wsL_law := q_804
theorem hy_X2_kindTo : mm_Y yX2_kindTo cX2_kindTo 3 none 2 := ⟨⟨by decide +kernel, by decide +kernel, by decide +kernel⟩, q_809, q_22⟩
theorem hi_X2_kindTo : Cond.instanceMethod yX2_kindTo ∈ wsL_law := q_807
theorem hs_X2_kindTo : Cond.selects yX2_kindTo.cls yX2_kindTo yX2_kindTo ∈ wsL_law := q_808
theorem hy_X2_lotTo : mm_Y yX2_lotTo cX2_lotTo 2 none 1 := ⟨⟨by decide +kernel, by decide +kernel, by decide +kernel⟩, q_814, q_22⟩
theorem hi_X2_lotTo : Cond.instanceMethod yX2_lotTo ∈ wsL_law := q_812
theorem hs_X2_lotTo : Cond.selects yX2_lotTo.cls yX2_lotTo yX2_lotTo ∈ wsL_law := q_813
theorem hy_X3_growsAsTold : mm_Y yX3_growsAsTold cX3_growsAsTold 4 (some .boolean) 2 := ⟨⟨by decide +kernel, by decide +kernel, by decide +kernel⟩, q_818, q_31⟩
theorem hi_X3_growsAsTold : Cond.instanceMethod yX3_growsAsTold ∈ wsL_law := q_816
theorem hs_X3_growsAsTold : Cond.selects yX3_growsAsTold.cls yX3_growsAsTold yX3_growsAsTold ∈ wsL_law := q_817
theorem hy_X7_grown : mm_Y yX7_grown cX7_grown 10 (some .int) 5 := ⟨⟨by decide +kernel, by decide +kernel, by decide +kernel⟩, q_823, q_5⟩
theorem hi_X7_grown : Cond.instanceMethod yX7_grown ∈ wsL_law := q_821
theorem hs_X7_grown : Cond.selects yX7_grown.cls yX7_grown yX7_grown ∈ wsL_law := q_822
theorem hy_X7_lacks : mm_Y yX7_lacks cX7_lacks 4 (some .int) 3 := ⟨⟨by decide +kernel, by decide +kernel, by decide +kernel⟩, q_828, q_5⟩
theorem hi_X7_lacks : Cond.instanceMethod yX7_lacks ∈ wsL_law := q_826
theorem hs_X7_lacks : Cond.selects yX7_lacks.cls yX7_lacks yX7_lacks ∈ wsL_law := q_827
theorem hy_X7_isSo : mm_Y yX7_isSo cX7_isSo 6 (some .boolean) 3 := ⟨⟨by decide +kernel, by decide +kernel, by decide +kernel⟩, q_832, q_5⟩
theorem hi_X7_isSo : Cond.instanceMethod yX7_isSo ∈ wsL_law := q_830
theorem hs_X7_isSo : Cond.selects yX7_isSo.cls yX7_isSo yX7_isSo ∈ wsL_law := q_831
theorem hy_X6_lain : mm_Y yX6_lain cX6_lain 4 (some .int) 3 := ⟨⟨by decide +kernel, by decide +kernel, by decide +kernel⟩, q_836, q_2⟩
theorem hi_X6_lain : Cond.instanceMethod yX6_lain ∈ wsL_law := q_834
theorem hs_X6_lain : Cond.selects yX6_lain.cls yX6_lain yX6_lain ∈ wsL_law := q_835
theorem hy_X3_lainBy : mm_Y yX3_lainBy cX3_lainBy 5 (some .int) 2 := ⟨⟨by decide +kernel, by decide +kernel, by decide +kernel⟩, q_840, q_31⟩
theorem hi_X3_lainBy : Cond.instanceMethod yX3_lainBy ∈ wsL_law := q_838
theorem hs_X3_lainBy : Cond.selects yX3_lainBy.cls yX3_lainBy yX3_lainBy ∈ wsL_law := q_839
theorem hy_X3_liesAsTold : mm_Y yX3_liesAsTold cX3_liesAsTold 2 (some .boolean) 0 := ⟨⟨by decide +kernel, by decide +kernel, by decide +kernel⟩, q_844, q_31⟩
theorem hi_X3_liesAsTold : Cond.instanceMethod yX3_liesAsTold ∈ wsL_law := q_842
theorem hs_X3_liesAsTold : Cond.selects yX3_liesAsTold.cls yX3_liesAsTold yX3_liesAsTold ∈ wsL_law := q_843
theorem hy_X7_lain : mm_Y yX7_lain cX7_lain 10 (some .int) 3 := ⟨⟨by decide +kernel, by decide +kernel, by decide +kernel⟩, q_848, q_5⟩
theorem hi_X7_lain : Cond.instanceMethod yX7_lain ∈ wsL_law := q_846
theorem hs_X7_lain : Cond.selects yX7_lain.cls yX7_lain yX7_lain ∈ wsL_law := q_847
theorem hy_X6_flood : mm_Y yX6_flood cX6_flood 10 (some .long) 3 := ⟨⟨by decide +kernel, by decide +kernel, by decide +kernel⟩, q_852, q_2⟩
theorem hi_X6_flood : Cond.instanceMethod yX6_flood ∈ wsL_law := q_850
theorem hs_X6_flood : Cond.selects yX6_flood.cls yX6_flood yX6_flood ∈ wsL_law := q_851
theorem hy_X3_casesLed : mm_Y yX3_casesLed cX3_casesLed 8 (some .long) 3 := ⟨⟨by decide +kernel, by decide +kernel, by decide +kernel⟩, q_858, q_31⟩
theorem hi_X3_casesLed : Cond.instanceMethod yX3_casesLed ∈ wsL_law := q_856
theorem hs_X3_casesLed : Cond.selects yX3_casesLed.cls yX3_casesLed yX3_casesLed ∈ wsL_law := q_857
theorem hy_X3_casesOf : mm_Y yX3_casesOf cX3_casesOf 6 (some .long) 3 := ⟨⟨by decide +kernel, by decide +kernel, by decide +kernel⟩, q_861, q_31⟩
theorem hz_X3_casesOf : Cond.static yX3_casesOf ∈ wsL_law := q_860
theorem hy_X3_allCases : mm_Y yX3_allCases cX3_allCases 5 (some .long) 1 := ⟨⟨by decide +kernel, by decide +kernel, by decide +kernel⟩, q_865, q_31⟩
theorem hi_X3_allCases : Cond.instanceMethod yX3_allCases ∈ wsL_law := q_863
theorem hs_X3_allCases : Cond.selects yX3_allCases.cls yX3_allCases yX3_allCases ∈ wsL_law := q_864
theorem hy_X6_commonDivisor : mm_Y yX6_commonDivisor cX6_commonDivisor 7 (some .long) 2 := ⟨⟨by decide +kernel, by decide +kernel, by decide +kernel⟩, q_869, q_2⟩
theorem hz_X6_commonDivisor : Cond.static yX6_commonDivisor ∈ wsL_law := q_868
theorem hy_X7_flood : mm_Y yX7_flood cX7_flood 15 (some .long) 3 := ⟨⟨by decide +kernel, by decide +kernel, by decide +kernel⟩, q_873, q_5⟩
theorem hi_X7_flood : Cond.instanceMethod yX7_flood ∈ wsL_law := q_871
theorem hs_X7_flood : Cond.selects yX7_flood.cls yX7_flood yX7_flood ∈ wsL_law := q_872
theorem hy_X6_drawn : mm_Y yX6_drawn cX6_drawn 4 (some .int) 3 := ⟨⟨by decide +kernel, by decide +kernel, by decide +kernel⟩, q_880, q_2⟩
theorem hi_X6_drawn : Cond.instanceMethod yX6_drawn ∈ wsL_law := q_878
theorem hs_X6_drawn : Cond.selects yX6_drawn.cls yX6_drawn yX6_drawn ∈ wsL_law := q_879
theorem hy_X3_afterYears : mm_Y yX3_afterYears cX3_afterYears 8 (some (.object "CockleSquires$Flat")) 3 := ⟨⟨by decide +kernel, by decide +kernel, by decide +kernel⟩, q_885, q_31⟩
theorem hi_X3_afterYears : Cond.instanceMethod yX3_afterYears ∈ wsL_law := q_883
theorem hs_X3_afterYears : Cond.selects yX3_afterYears.cls yX3_afterYears yX3_afterYears ∈ wsL_law := q_884
theorem hy_X7_drawn : mm_Y yX7_drawn cX7_drawn 8 (some .int) 3 := ⟨⟨by decide +kernel, by decide +kernel, by decide +kernel⟩, q_895, q_5⟩
theorem hi_X7_drawn : Cond.instanceMethod yX7_drawn ∈ wsL_law := q_893
theorem hs_X7_drawn : Cond.selects yX7_drawn.cls yX7_drawn yX7_drawn ∈ wsL_law := q_894
theorem hy_X6_image : mm_Y yX6_image cX6_image 3 (some .int) 1 := ⟨⟨by decide +kernel, by decide +kernel, by decide +kernel⟩, q_902, q_2⟩
theorem hi_X6_image : Cond.instanceMethod yX6_image ∈ wsL_law := q_900
theorem hs_X6_image : Cond.selects yX6_image.cls yX6_image yX6_image ∈ wsL_law := q_901
theorem hy_X7_image : mm_Y yX7_image cX7_image 3 (some .int) 1 := ⟨⟨by decide +kernel, by decide +kernel, by decide +kernel⟩, q_906, q_5⟩
theorem hi_X7_image : Cond.instanceMethod yX7_image ∈ wsL_law := q_904
theorem hs_X7_image : Cond.selects yX7_image.cls yX7_image yX7_image ∈ wsL_law := q_905
theorem hy_X6_restore : mm_Y yX6_restore cX6_restore 3 (some .int) 1 := ⟨⟨by decide +kernel, by decide +kernel, by decide +kernel⟩, q_910, q_2⟩
theorem hi_X6_restore : Cond.instanceMethod yX6_restore ∈ wsL_law := q_908
theorem hs_X6_restore : Cond.selects yX6_restore.cls yX6_restore yX6_restore ∈ wsL_law := q_909
theorem hy_X7_restore : mm_Y yX7_restore cX7_restore 3 (some .int) 1 := ⟨⟨by decide +kernel, by decide +kernel, by decide +kernel⟩, q_914, q_5⟩
theorem hi_X7_restore : Cond.instanceMethod yX7_restore ∈ wsL_law := q_912
theorem hs_X7_restore : Cond.selects yX7_restore.cls yX7_restore yX7_restore ∈ wsL_law := q_913
theorem hy_X6_kind : mm_Y yX6_kind cX6_kind 2 (some .int) 1 := ⟨⟨by decide +kernel, by decide +kernel, by decide +kernel⟩, q_918, q_2⟩
theorem hi_X6_kind : Cond.instanceMethod yX6_kind ∈ wsL_law := q_916
theorem hs_X6_kind : Cond.selects yX6_kind.cls yX6_kind yX6_kind ∈ wsL_law := q_917
theorem hy_X2_kindOf : mm_Y yX2_kindOf cX2_kindOf 2 (some .int) 1 := ⟨⟨by decide +kernel, by decide +kernel, by decide +kernel⟩, q_922, q_22⟩
theorem hi_X2_kindOf : Cond.instanceMethod yX2_kindOf ∈ wsL_law := q_920
theorem hs_X2_kindOf : Cond.selects yX2_kindOf.cls yX2_kindOf yX2_kindOf ∈ wsL_law := q_921
theorem hy_X7_kind : mm_Y yX7_kind cX7_kind 2 (some .int) 1 := ⟨⟨by decide +kernel, by decide +kernel, by decide +kernel⟩, q_926, q_5⟩
theorem hi_X7_kind : Cond.instanceMethod yX7_kind ∈ wsL_law := q_924
theorem hs_X7_kind : Cond.selects yX7_kind.cls yX7_kind yX7_kind ∈ wsL_law := q_925
theorem hy_X6_as : mm_Y yX6_as cX6_as 3 (some .int) 2 := ⟨⟨by decide +kernel, by decide +kernel, by decide +kernel⟩, q_930, q_2⟩
theorem hi_X6_as : Cond.instanceMethod yX6_as ∈ wsL_law := q_928
theorem hs_X6_as : Cond.selects yX6_as.cls yX6_as yX6_as ∈ wsL_law := q_929
theorem hy_X1_isSuch : mm_Y yX1_isSuch cX1_isSuch 4 (some .boolean) 2 := ⟨⟨by decide +kernel, by decide +kernel, by decide +kernel⟩, q_933, q_35⟩
theorem hz_X1_isSuch : Cond.static yX1_isSuch ∈ wsL_law := q_932
theorem hy_X7_as : mm_Y yX7_as cX7_as 3 (some .int) 2 := ⟨⟨by decide +kernel, by decide +kernel, by decide +kernel⟩, q_938, q_5⟩
theorem hi_X7_as : Cond.instanceMethod yX7_as ∈ wsL_law := q_936
theorem hs_X7_as : Cond.selects yX7_as.cls yX7_as yX7_as ∈ wsL_law := q_937
theorem hy_X7_isKind : mm_Y yX7_isKind cX7_isKind 2 (some .boolean) 2 := ⟨⟨by decide +kernel, by decide +kernel, by decide +kernel⟩, q_941, q_5⟩
theorem hz_X7_isKind : Cond.static yX7_isKind ∈ wsL_law := q_940
theorem hy_X6_ask : mm_Y yX6_ask cX6_ask 3 (some .int) 2 := ⟨⟨by decide +kernel, by decide +kernel, by decide +kernel⟩, q_945, q_2⟩
theorem hi_X6_ask : Cond.instanceMethod yX6_ask ∈ wsL_law := q_943
theorem hs_X6_ask : Cond.selects yX6_ask.cls yX6_ask yX6_ask ∈ wsL_law := q_944
theorem hy_X1_answer : mm_Y yX1_answer cX1_answer 5 (some .int) 3 := ⟨⟨by decide +kernel, by decide +kernel, by decide +kernel⟩, q_949, q_35⟩
theorem hi_X1_answer : Cond.instanceMethod yX1_answer ∈ wsL_law := q_947
theorem hs_X1_answer : Cond.selects yX1_answer.cls yX1_answer yX1_answer ∈ wsL_law := q_948
theorem hy_X1_sizeBody : mm_Y yX1_sizeBody cX1_sizeBody 1 (some .int) 1 := ⟨⟨by decide +kernel, by decide +kernel, by decide +kernel⟩, q_953, q_35⟩
theorem hz_X1_sizeBody : Cond.static yX1_sizeBody ∈ wsL_law := q_952
theorem hy_X1_markBody : mm_Y yX1_markBody cX1_markBody 1 (some .int) 1 := ⟨⟨by decide +kernel, by decide +kernel, by decide +kernel⟩, q_957, q_35⟩
theorem hz_X1_markBody : Cond.static yX1_markBody ∈ wsL_law := q_956
theorem hy_X1_give : mm_Y yX1_give cX1_give 7 (some .int) 5 := ⟨⟨by decide +kernel, by decide +kernel, by decide +kernel⟩, q_961, q_35⟩
theorem hz_X1_give : Cond.static yX1_give ∈ wsL_law := q_960
theorem hy_X1_leave : mm_Y yX1_leave cX1_leave 2 none 1 := ⟨⟨by decide +kernel, by decide +kernel, by decide +kernel⟩, q_965, q_35⟩
theorem hi_X1_leave : Cond.instanceMethod yX1_leave ∈ wsL_law := q_963
theorem hs_X1_leave : Cond.selects yX1_leave.cls yX1_leave yX1_leave ∈ wsL_law := q_964
theorem hy_X7_ask : mm_Y yX7_ask cX7_ask 3 (some .int) 2 := ⟨⟨by decide +kernel, by decide +kernel, by decide +kernel⟩, q_971, q_5⟩
theorem hi_X7_ask : Cond.instanceMethod yX7_ask ∈ wsL_law := q_969
theorem hs_X7_ask : Cond.selects yX7_ask.cls yX7_ask yX7_ask ∈ wsL_law := q_970
theorem hy_X7_sizeOf : mm_Y yX7_sizeOf cX7_sizeOf 3 (some .int) 1 := ⟨⟨by decide +kernel, by decide +kernel, by decide +kernel⟩, q_976, q_5⟩
theorem hi_X7_sizeOf : Cond.instanceMethod yX7_sizeOf ∈ wsL_law := q_974
theorem hs_X7_sizeOf : Cond.selects yX7_sizeOf.cls yX7_sizeOf yX7_sizeOf ∈ wsL_law := q_975
theorem hy_X7_begin : mm_Y yX7_begin cX7_begin 2 none 1 := ⟨⟨by decide +kernel, by decide +kernel, by decide +kernel⟩, q_980, q_5⟩
theorem hi_X7_begin : Cond.instanceMethod yX7_begin ∈ wsL_law := q_978
theorem hs_X7_begin : Cond.selects yX7_begin.cls yX7_begin yX7_begin ∈ wsL_law := q_979
theorem hy_X7_commonSize : mm_Y yX7_commonSize cX7_commonSize 3 (some .int) 1 := ⟨⟨by decide +kernel, by decide +kernel, by decide +kernel⟩, q_984, q_5⟩
theorem hi_X7_commonSize : Cond.instanceMethod yX7_commonSize ∈ wsL_law := q_982
theorem hs_X7_commonSize : Cond.selects yX7_commonSize.cls yX7_commonSize yX7_commonSize ∈ wsL_law := q_983
theorem hy_X7_lent : mm_Y yX7_lent cX7_lent 3 (some .int) 2 := ⟨⟨by decide +kernel, by decide +kernel, by decide +kernel⟩, q_988, q_5⟩
theorem hi_X7_lent : Cond.instanceMethod yX7_lent ∈ wsL_law := q_986
theorem hs_X7_lent : Cond.selects yX7_lent.cls yX7_lent yX7_lent ∈ wsL_law := q_987
theorem hy_X7_markOf : mm_Y yX7_markOf cX7_markOf 4 (some .int) 1 := ⟨⟨by decide +kernel, by decide +kernel, by decide +kernel⟩, q_992, q_5⟩
theorem hi_X7_markOf : Cond.instanceMethod yX7_markOf ∈ wsL_law := q_990
theorem hs_X7_markOf : Cond.selects yX7_markOf.cls yX7_markOf yX7_markOf ∈ wsL_law := q_991
theorem hy_X7_commonMark : mm_Y yX7_commonMark cX7_commonMark 2 (some .int) 1 := ⟨⟨by decide +kernel, by decide +kernel, by decide +kernel⟩, q_996, q_5⟩
theorem hi_X7_commonMark : Cond.instanceMethod yX7_commonMark ∈ wsL_law := q_994
theorem hs_X7_commonMark : Cond.selects yX7_commonMark.cls yX7_commonMark yX7_commonMark ∈ wsL_law := q_995
theorem hy_X7_sizeOfWarm : mm_Y yX7_sizeOfWarm cX7_sizeOfWarm 2 (some .int) 1 := ⟨⟨by decide +kernel, by decide +kernel, by decide +kernel⟩, q_1000, q_5⟩
theorem hi_X7_sizeOfWarm : Cond.instanceMethod yX7_sizeOfWarm ∈ wsL_law := q_998
theorem hs_X7_sizeOfWarm : Cond.selects yX7_sizeOfWarm.cls yX7_sizeOfWarm yX7_sizeOfWarm ∈ wsL_law := q_999
theorem hy_X7_warmSize : mm_Y yX7_warmSize cX7_warmSize 2 (some .int) 1 := ⟨⟨by decide +kernel, by decide +kernel, by decide +kernel⟩, q_1004, q_5⟩
theorem hi_X7_warmSize : Cond.instanceMethod yX7_warmSize ∈ wsL_law := q_1002
theorem hs_X7_warmSize : Cond.selects yX7_warmSize.cls yX7_warmSize yX7_warmSize ∈ wsL_law := q_1003
theorem hy_X6_trace : mm_Y yX6_trace cX6_trace 2 (some .int) 1 := ⟨⟨by decide +kernel, by decide +kernel, by decide +kernel⟩, q_1008, q_2⟩
theorem hi_X6_trace : Cond.instanceMethod yX6_trace ∈ wsL_law := q_1006
theorem hs_X6_trace : Cond.selects yX6_trace.cls yX6_trace yX6_trace ∈ wsL_law := q_1007
theorem hy_X1_traced : mm_Y yX1_traced cX1_traced 2 (some .int) 1 := ⟨⟨by decide +kernel, by decide +kernel, by decide +kernel⟩, q_1012, q_35⟩
theorem hi_X1_traced : Cond.instanceMethod yX1_traced ∈ wsL_law := q_1010
theorem hs_X1_traced : Cond.selects yX1_traced.cls yX1_traced yX1_traced ∈ wsL_law := q_1011
theorem hy_X7_trace : mm_Y yX7_trace cX7_trace 2 (some .int) 1 := ⟨⟨by decide +kernel, by decide +kernel, by decide +kernel⟩, q_1017, q_5⟩
theorem hi_X7_trace : Cond.instanceMethod yX7_trace ∈ wsL_law := q_1015
theorem hs_X7_trace : Cond.selects yX7_trace.cls yX7_trace yX7_trace ∈ wsL_law := q_1016
theorem hy_X6_count : mm_Y yX6_count cX6_count 2 (some .int) 1 := ⟨⟨by decide +kernel, by decide +kernel, by decide +kernel⟩, q_1021, q_2⟩
theorem hi_X6_count : Cond.instanceMethod yX6_count ∈ wsL_law := q_1019
theorem hs_X6_count : Cond.selects yX6_count.cls yX6_count yX6_count ∈ wsL_law := q_1020
theorem hy_X4_present : mm_Y yX4_present cX4_present 3 (some .int) 0 := ⟨⟨by decide +kernel, by decide +kernel, by decide +kernel⟩, q_1025, q_14⟩
theorem hi_X4_present : Cond.instanceMethod yX4_present ∈ wsL_law := q_1023
theorem hs_X4_present : Cond.selects yX4_present.cls yX4_present yX4_present ∈ wsL_law := q_1024
theorem hy_X2_allCounted : mm_Y yX2_allCounted cX2_allCounted 1 (some .int) 0 := ⟨⟨by decide +kernel, by decide +kernel, by decide +kernel⟩, q_1029, q_22⟩
theorem hi_X2_allCounted : Cond.instanceMethod yX2_allCounted ∈ wsL_law := q_1027
theorem hs_X2_allCounted : Cond.selects yX2_allCounted.cls yX2_allCounted yX2_allCounted ∈ wsL_law := q_1028
theorem hy_X7_count : mm_Y yX7_count cX7_count 4 (some .int) 1 := ⟨⟨by decide +kernel, by decide +kernel, by decide +kernel⟩, q_1033, q_5⟩
theorem hi_X7_count : Cond.instanceMethod yX7_count ∈ wsL_law := q_1031
theorem hs_X7_count : Cond.selects yX7_count.cls yX7_count yX7_count ∈ wsL_law := q_1032
theorem hy_X6_status : mm_Y yX6_status cX6_status 1 (some .int) 0 := ⟨⟨by decide +kernel, by decide +kernel, by decide +kernel⟩, q_1037, q_2⟩
theorem hi_X6_status : Cond.instanceMethod yX6_status ∈ wsL_law := q_1035
theorem hs_X6_status : Cond.selects yX6_status.cls yX6_status yX6_status ∈ wsL_law := q_1036
theorem hy_X7_status : mm_Y yX7_status cX7_status 1 (some .int) 0 := ⟨⟨by decide +kernel, by decide +kernel, by decide +kernel⟩, q_1041, q_5⟩
theorem hi_X7_status : Cond.instanceMethod yX7_status ∈ wsL_law := q_1039
theorem hs_X7_status : Cond.selects yX7_status.cls yX7_status yX7_status ∈ wsL_law := q_1040
end
section
section FLD
variable {l : Launch} {G : mm_G} {own : String} {cc : ByteArray} {nL : Nat} {ret : Option FieldType} {rm : Room} {Q0 : mm_T} {mc ms cells slots pc : Nat} {L : List (Nat × Value)} {S : List Value} {pr : Nat → Nat → Prop} {ad : Nat → Nat → Nat → Nat} {g : Nat → Nat → Nat → Int32}
theorem vp_lt {x : Int32} {n : Nat} (h : vp_in x n) : x.toNatClampNeg < n := Nat.not_le.mp fun q => h (Or.inr q)
theorem mm_ho {t c0 : Nat} (ht : t ≠ 2) (f : Nat → Int32) : ∀ t' k' c' : Nat, (t' ≠ 2 → k' = 0) → ¬ (t' = t ∧ k' = 0 ∧ c' = c0) → mm_ent G ad (mw g t c0 f) t' k' c' = mm_ent G ad g t' k' c' := fun t' k' c' h1 h2 => mm_oth G ad g ht f t' k' c' (fun q => h2 ⟨q.1, h1 (by rw [q.1]; exact ht), q.2⟩)
/-- a flat's content changes in one cell alone -/
theorem mm_hf {k c0 : Nat} (f : Nat → Int32) (h0 : c0 ≠ 0 → ∀ j, j < 6 → f j = g 2 k j) (h1 : c0 ≠ 1 → ∀ j, 6 ≤ j → j < 9 → f j = g 2 k j) (h2 : c0 ≠ 2 → ∀ j, 9 ≤ j → j < 18 → f j = g 2 k j) (h3 : c0 ≠ 3 → ∀ j, 18 ≤ j → j < 27 → f j = g 2 k j) (h4 : c0 ≠ 4 → ∀ j, 27 ≤ j → j < 36 → f j = g 2 k j) : ∀ t' k' c' : Nat, (t' ≠ 2 → k' = 0) → ¬ (t' = 2 ∧ k' = k ∧ c' = c0) → mm_ent G ad (mw g 2 k f) t' k' c' = mm_ent G ad g t' k' c' := by
  intro t' k' c' _ hne
  by_cases h : t' = 2 ∧ k' = k
  · obtain ⟨rfl, rfl⟩ := h
    have hc : c0 ≠ c' := fun q => hne ⟨rfl, rfl, q.symm⟩
    have key : ∀ (n a : Nat), (∀ j, a ≤ j → j < a + n → f j = g 2 k' j) → (fun i => if i < n then f (a + i) else 0) = (fun i => if i < n then g 2 k' (a + i) else 0) := by
      intro n a hh
      funext i
      by_cases hi : i < n
      · rw [if_pos hi, if_pos hi, hh (a + i) (by omega) (by omega)]
      · rw [if_neg hi, if_neg hi]
    match c', hc with
    | 0, hc => simp only [mm_ent, mm_cs, mw_s, List.getElem?_cons_zero, h0 hc 0 (by omega), h0 hc 1 (by omega), h0 hc 2 (by omega), h0 hc 3 (by omega), h0 hc 4 (by omega), h0 hc 5 (by omega)]
    | 1, hc => simp only [mm_ent, mm_cs, mw_s, List.getElem?_cons_zero, List.getElem?_cons_succ, key 3 6 (h1 hc)]
    | 2, hc => simp only [mm_ent, mm_cs, mw_s, List.getElem?_cons_zero, List.getElem?_cons_succ, key 9 9 (h2 hc)]
    | 3, hc => simp only [mm_ent, mm_cs, mw_s, List.getElem?_cons_zero, List.getElem?_cons_succ, key 9 18 (h3 hc)]
    | 4, hc => simp only [mm_ent, mm_cs, mw_s, List.getElem?_cons_zero, List.getElem?_cons_succ, key 9 27 (h4 hc)]
    | n + 5, hc => rfl
  · exact mm_othF G ad g f t' k' c' h
theorem P_0_1 {x : Int32} {idx : Nat} (hp : pr 0 0) (hq : Cond.fieldLink own idx (TX0 1).1 (TX0 1).2.1 (TX0 1).2.2.1 ∈ wsL_law) (hdg : decode cc pc = .ok (.putfield idx, 3)) (kk : V l G own cc nL ret rm Q0 mc ms cells slots (pc + 3) L (S) pr ad (mw g 0 0 (upd (g 0 0) 0 x))) : V l G own cc nL ret rm Q0 mc ms cells slots pc L (.int x :: .ref (ad 0 0 0) :: S) pr ad g := V_put (t := 0) (k := 0) (i := 1) (ty0 := tyX0) (ty := .int) (v := .int x) inlX0 rfl tyX0_ok nmX0 hp rfl (by decide) hq rfl (tyX0_ok 1 (by decide)) rfl rfl (by decide) (by simp [mm_ent, mm_cs, mw_s, upd]) (mm_ho (by decide) _) hdg kk
theorem P_0_2 {x : Int32} {idx : Nat} (hp : pr 0 0) (hq : Cond.fieldLink own idx (TX0 2).1 (TX0 2).2.1 (TX0 2).2.2.1 ∈ wsL_law) (hdg : decode cc pc = .ok (.putfield idx, 3)) (kk : V l G own cc nL ret rm Q0 mc ms cells slots (pc + 3) L (S) pr ad (mw g 0 0 (upd (g 0 0) 1 x))) : V l G own cc nL ret rm Q0 mc ms cells slots pc L (.int x :: .ref (ad 0 0 0) :: S) pr ad g := V_put (t := 0) (k := 0) (i := 2) (ty0 := tyX0) (ty := .int) (v := .int x) inlX0 rfl tyX0_ok nmX0 hp rfl (by decide) hq rfl (tyX0_ok 2 (by decide)) rfl rfl (by decide) (by simp [mm_ent, mm_cs, mw_s, upd]) (mm_ho (by decide) _) hdg kk
theorem P_1_1 {x : Int32} {idx : Nat} (hp : pr 1 0) (hq : Cond.fieldLink own idx (TX1 1).1 (TX1 1).2.1 (TX1 1).2.2.1 ∈ wsL_law) (hdg : decode cc pc = .ok (.putfield idx, 3)) (kk : V l G own cc nL ret rm Q0 mc ms cells slots (pc + 3) L (S) pr ad (mw g 1 0 (upd (g 1 0) 0 x))) : V l G own cc nL ret rm Q0 mc ms cells slots pc L (.int x :: .ref (ad 1 0 0) :: S) pr ad g := V_put (t := 1) (k := 0) (i := 1) (ty0 := tyX1) (ty := .int) (v := .int x) inlX1 rfl tyX1_ok nmX1 hp rfl (by decide) hq rfl (tyX1_ok 1 (by decide)) rfl rfl (by decide) (by simp [mm_ent, mm_cs, mw_s, upd]) (mm_ho (by decide) _) hdg kk
theorem P_5_1 {x : Int32} {idx : Nat} (hp : pr 5 0) (hq : Cond.fieldLink own idx (TX5 1).1 (TX5 1).2.1 (TX5 1).2.2.1 ∈ wsL_law) (hdg : decode cc pc = .ok (.putfield idx, 3)) (kk : V l G own cc nL ret rm Q0 mc ms cells slots (pc + 3) L (S) pr ad (mw g 5 0 (upd (g 5 0) 0 x))) : V l G own cc nL ret rm Q0 mc ms cells slots pc L (.int x :: .ref (ad 5 0 0) :: S) pr ad g := V_put (t := 5) (k := 0) (i := 1) (ty0 := tyX5) (ty := .int) (v := .int x) inlX5 rfl tyX5_ok nmX5 hp rfl (by decide) hq rfl (tyX5_ok 1 (by decide)) rfl rfl (by decide) (by simp [mm_ent, mm_cs, mw_s, upd]) (mm_ho (by decide) _) hdg kk
theorem P_5_2 {x : Int32} {idx : Nat} (hp : pr 5 0) (hq : Cond.fieldLink own idx (TX5 2).1 (TX5 2).2.1 (TX5 2).2.2.1 ∈ wsL_law) (hdg : decode cc pc = .ok (.putfield idx, 3)) (kk : V l G own cc nL ret rm Q0 mc ms cells slots (pc + 3) L (S) pr ad (mw g 5 0 (upd (g 5 0) 1 x))) : V l G own cc nL ret rm Q0 mc ms cells slots pc L (.int x :: .ref (ad 5 0 0) :: S) pr ad g := V_put (t := 5) (k := 0) (i := 2) (ty0 := tyX5) (ty := .int) (v := .int x) inlX5 rfl tyX5_ok nmX5 hp rfl (by decide) hq rfl (tyX5_ok 2 (by decide)) rfl rfl (by decide) (by simp [mm_ent, mm_cs, mw_s, upd]) (mm_ho (by decide) _) hdg kk
theorem P_5_3 {x : Int32} {idx : Nat} (hp : pr 5 0) (hq : Cond.fieldLink own idx (TX5 3).1 (TX5 3).2.1 (TX5 3).2.2.1 ∈ wsL_law) (hdg : decode cc pc = .ok (.putfield idx, 3)) (kk : V l G own cc nL ret rm Q0 mc ms cells slots (pc + 3) L (S) pr ad (mw g 5 0 (upd (g 5 0) 2 x))) : V l G own cc nL ret rm Q0 mc ms cells slots pc L (.int x :: .ref (ad 5 0 0) :: S) pr ad g := V_put (t := 5) (k := 0) (i := 3) (ty0 := tyX5) (ty := .int) (v := .int x) inlX5 rfl tyX5_ok nmX5 hp rfl (by decide) hq rfl (tyX5_ok 3 (by decide)) rfl rfl (by decide) (by simp [mm_ent, mm_cs, mw_s, upd]) (mm_ho (by decide) _) hdg kk
theorem P_6_7 {x : Int32} {idx : Nat} (hp : pr 6 0) (hq : Cond.fieldLink own idx (TX6 7).1 (TX6 7).2.1 (TX6 7).2.2.1 ∈ wsL_law) (hdg : decode cc pc = .ok (.putfield idx, 3)) (kk : V l G own cc nL ret rm Q0 mc ms cells slots (pc + 3) L (S) pr ad (mw g 6 0 (upd (g 6 0) 0 x))) : V l G own cc nL ret rm Q0 mc ms cells slots pc L (.int x :: .ref (ad 6 0 0) :: S) pr ad g := V_put (t := 6) (k := 0) (i := 7) (ty0 := tyX6) (ty := .int) (v := .int x) inlX6 rfl tyX6_ok nmX6 hp rfl (by decide) hq rfl (tyX6_ok 7 (by decide)) rfl rfl (by decide) (by simp [mm_ent, mm_cs, mw_s, upd]) (mm_ho (by decide) _) hdg kk
theorem P_6_8 {x : Int32} {idx : Nat} (hp : pr 6 0) (hq : Cond.fieldLink own idx (TX6 8).1 (TX6 8).2.1 (TX6 8).2.2.1 ∈ wsL_law) (hdg : decode cc pc = .ok (.putfield idx, 3)) (kk : V l G own cc nL ret rm Q0 mc ms cells slots (pc + 3) L (S) pr ad (mw g 6 0 (upd (g 6 0) 1 x))) : V l G own cc nL ret rm Q0 mc ms cells slots pc L (.int x :: .ref (ad 6 0 0) :: S) pr ad g := V_put (t := 6) (k := 0) (i := 8) (ty0 := tyX6) (ty := .int) (v := .int x) inlX6 rfl tyX6_ok nmX6 hp rfl (by decide) hq rfl (tyX6_ok 8 (by decide)) rfl rfl (by decide) (by simp [mm_ent, mm_cs, mw_s, upd]) (mm_ho (by decide) _) hdg kk
theorem P_7_3 {x : Int32} {idx : Nat} (hp : pr 7 0) (hq : Cond.fieldLink own idx (TX7 3).1 (TX7 3).2.1 (TX7 3).2.2.1 ∈ wsL_law) (hdg : decode cc pc = .ok (.putfield idx, 3)) (kk : V l G own cc nL ret rm Q0 mc ms cells slots (pc + 3) L (S) pr ad (mw g 7 0 (upd (g 7 0) 0 x))) : V l G own cc nL ret rm Q0 mc ms cells slots pc L (.int x :: .ref (ad 7 0 0) :: S) pr ad g := V_put (t := 7) (k := 0) (i := 3) (ty0 := tyX7) (ty := .int) (v := .int x) inlX7 rfl tyX7_ok nmX7 hp rfl (by decide) hq rfl (tyX7_ok 3 (by decide)) rfl rfl (by decide) (by simp [mm_ent, mm_cs, mw_s, upd]) (mm_ho (by decide) _) hdg kk
theorem P_7_8 {x : Int32} {idx : Nat} (hp : pr 7 0) (hq : Cond.fieldLink own idx (TX7 8).1 (TX7 8).2.1 (TX7 8).2.2.1 ∈ wsL_law) (hdg : decode cc pc = .ok (.putfield idx, 3)) (kk : V l G own cc nL ret rm Q0 mc ms cells slots (pc + 3) L (S) pr ad (mw g 7 0 (upd (g 7 0) 2 x))) : V l G own cc nL ret rm Q0 mc ms cells slots pc L (.int x :: .ref (ad 7 0 0) :: S) pr ad g := V_put (t := 7) (k := 0) (i := 8) (ty0 := tyX7) (ty := .int) (v := .int x) inlX7 rfl tyX7_ok nmX7 hp rfl (by decide) hq rfl (tyX7_ok 8 (by decide)) rfl rfl (by decide) (by simp [mm_ent, mm_cs, mw_s, upd]) (mm_ho (by decide) _) hdg kk
theorem P_7_9 {x : Int32} {idx : Nat} (hp : pr 7 0) (hq : Cond.fieldLink own idx (TX7 9).1 (TX7 9).2.1 (TX7 9).2.2.1 ∈ wsL_law) (hdg : decode cc pc = .ok (.putfield idx, 3)) (kk : V l G own cc nL ret rm Q0 mc ms cells slots (pc + 3) L (S) pr ad (mw g 7 0 (upd (g 7 0) 3 x))) : V l G own cc nL ret rm Q0 mc ms cells slots pc L (.int x :: .ref (ad 7 0 0) :: S) pr ad g := V_put (t := 7) (k := 0) (i := 9) (ty0 := tyX7) (ty := .int) (v := .int x) inlX7 rfl tyX7_ok nmX7 hp rfl (by decide) hq rfl (tyX7_ok 9 (by decide)) rfl rfl (by decide) (by simp [mm_ent, mm_cs, mw_s, upd]) (mm_ho (by decide) _) hdg kk
theorem P_7_10 {x : Int32} {idx : Nat} (hp : pr 7 0) (hq : Cond.fieldLink own idx (TX7 10).1 (TX7 10).2.1 (TX7 10).2.2.1 ∈ wsL_law) (hdg : decode cc pc = .ok (.putfield idx, 3)) (kk : V l G own cc nL ret rm Q0 mc ms cells slots (pc + 3) L (S) pr ad (mw g 7 0 (upd (g 7 0) 4 x))) : V l G own cc nL ret rm Q0 mc ms cells slots pc L (.int x :: .ref (ad 7 0 0) :: S) pr ad g := V_put (t := 7) (k := 0) (i := 10) (ty0 := tyX7) (ty := .int) (v := .int x) inlX7 rfl tyX7_ok nmX7 hp rfl (by decide) hq rfl (tyX7_ok 10 (by decide)) rfl rfl (by decide) (by simp [mm_ent, mm_cs, mw_s, upd]) (mm_ho (by decide) _) hdg kk
theorem P_7_11 {x : Int32} {idx : Nat} (hp : pr 7 0) (hq : Cond.fieldLink own idx (TX7 11).1 (TX7 11).2.1 (TX7 11).2.2.1 ∈ wsL_law) (hdg : decode cc pc = .ok (.putfield idx, 3)) (kk : V l G own cc nL ret rm Q0 mc ms cells slots (pc + 3) L (S) pr ad (mw g 7 0 (upd (g 7 0) 5 x))) : V l G own cc nL ret rm Q0 mc ms cells slots pc L (.int x :: .ref (ad 7 0 0) :: S) pr ad g := V_put (t := 7) (k := 0) (i := 11) (ty0 := tyX7) (ty := .int) (v := .int x) inlX7 rfl tyX7_ok nmX7 hp rfl (by decide) hq rfl (tyX7_ok 11 (by decide)) rfl rfl (by decide) (by simp [mm_ent, mm_cs, mw_s, upd]) (mm_ho (by decide) _) hdg kk
theorem P_7_12 {x : Int32} {idx : Nat} (hp : pr 7 0) (hq : Cond.fieldLink own idx (TX7 12).1 (TX7 12).2.1 (TX7 12).2.2.1 ∈ wsL_law) (hdg : decode cc pc = .ok (.putfield idx, 3)) (kk : V l G own cc nL ret rm Q0 mc ms cells slots (pc + 3) L (S) pr ad (mw g 7 0 (upd (g 7 0) 6 x))) : V l G own cc nL ret rm Q0 mc ms cells slots pc L (.int x :: .ref (ad 7 0 0) :: S) pr ad g := V_put (t := 7) (k := 0) (i := 12) (ty0 := tyX7) (ty := .int) (v := .int x) inlX7 rfl tyX7_ok nmX7 hp rfl (by decide) hq rfl (tyX7_ok 12 (by decide)) rfl rfl (by decide) (by simp [mm_ent, mm_cs, mw_s, upd]) (mm_ho (by decide) _) hdg kk
theorem P_7_13 {x : Int32} {idx : Nat} (hp : pr 7 0) (hq : Cond.fieldLink own idx (TX7 13).1 (TX7 13).2.1 (TX7 13).2.2.1 ∈ wsL_law) (hdg : decode cc pc = .ok (.putfield idx, 3)) (kk : V l G own cc nL ret rm Q0 mc ms cells slots (pc + 3) L (S) pr ad (mw g 7 0 (upd (g 7 0) 7 x))) : V l G own cc nL ret rm Q0 mc ms cells slots pc L (.int x :: .ref (ad 7 0 0) :: S) pr ad g := V_put (t := 7) (k := 0) (i := 13) (ty0 := tyX7) (ty := .int) (v := .int x) inlX7 rfl tyX7_ok nmX7 hp rfl (by decide) hq rfl (tyX7_ok 13 (by decide)) rfl rfl (by decide) (by simp [mm_ent, mm_cs, mw_s, upd]) (mm_ho (by decide) _) hdg kk
theorem P_7_14 {x : Int32} {idx : Nat} (hp : pr 7 0) (hq : Cond.fieldLink own idx (TX7 14).1 (TX7 14).2.1 (TX7 14).2.2.1 ∈ wsL_law) (hdg : decode cc pc = .ok (.putfield idx, 3)) (kk : V l G own cc nL ret rm Q0 mc ms cells slots (pc + 3) L (S) pr ad (mw g 7 0 (upd (g 7 0) 8 x))) : V l G own cc nL ret rm Q0 mc ms cells slots pc L (.int x :: .ref (ad 7 0 0) :: S) pr ad g := V_put (t := 7) (k := 0) (i := 14) (ty0 := tyX7) (ty := .int) (v := .int x) inlX7 rfl tyX7_ok nmX7 hp rfl (by decide) hq rfl (tyX7_ok 14 (by decide)) rfl rfl (by decide) (by simp [mm_ent, mm_cs, mw_s, upd]) (mm_ho (by decide) _) hdg kk
theorem P_7_17 {x : Int32} {idx : Nat} (hp : pr 7 0) (hq : Cond.fieldLink own idx (TX7 17).1 (TX7 17).2.1 (TX7 17).2.2.1 ∈ wsL_law) (hdg : decode cc pc = .ok (.putfield idx, 3)) (kk : V l G own cc nL ret rm Q0 mc ms cells slots (pc + 3) L (S) pr ad (mw g 7 0 (upd (g 7 0) 9 x))) : V l G own cc nL ret rm Q0 mc ms cells slots pc L (.int x :: .ref (ad 7 0 0) :: S) pr ad g := V_put (t := 7) (k := 0) (i := 17) (ty0 := tyX7) (ty := .int) (v := .int x) inlX7 rfl tyX7_ok nmX7 hp rfl (by decide) hq rfl (tyX7_ok 17 (by decide)) rfl rfl (by decide) (by simp [mm_ent, mm_cs, mw_s, upd]) (mm_ho (by decide) _) hdg kk
theorem P_7_22 {x : Int32} {idx : Nat} (hp : pr 7 0) (hq : Cond.fieldLink own idx (TX7 22).1 (TX7 22).2.1 (TX7 22).2.2.1 ∈ wsL_law) (hdg : decode cc pc = .ok (.putfield idx, 3)) (kk : V l G own cc nL ret rm Q0 mc ms cells slots (pc + 3) L (S) pr ad (mw g 7 0 (upd (g 7 0) 10 x))) : V l G own cc nL ret rm Q0 mc ms cells slots pc L (.int x :: .ref (ad 7 0 0) :: S) pr ad g := V_put (t := 7) (k := 0) (i := 22) (ty0 := tyX7) (ty := .int) (v := .int x) inlX7 rfl tyX7_ok nmX7 hp rfl (by decide) hq rfl (tyX7_ok 22 (by decide)) rfl rfl (by decide) (by simp [mm_ent, mm_cs, mw_s, upd]) (mm_ho (by decide) _) hdg kk
theorem P_7_4 {idx : Nat} (hp : pr 7 0) (hq : Cond.fieldLink own idx (TX7 4).1 (TX7 4).2.1 (TX7 4).2.2.1 ∈ wsL_law) (hdg : decode cc pc = .ok (.putfield idx, 3)) (kk : V l G own cc nL ret rm Q0 mc ms cells slots (pc + 3) L (S) pr ad (mw g 7 0 (upd (g 7 0) 1 1))) : V l G own cc nL ret rm Q0 mc ms cells slots pc L (.int 1 :: .ref (ad 7 0 0) :: S) pr ad g := V_put (t := 7) (k := 0) (i := 4) (ty0 := tyX7) (ty := .boolean) (v := .int 1) inlX7 rfl tyX7_ok nmX7 hp rfl (by decide) hq rfl (tyX7_ok 4 (by decide)) rfl rfl (by decide) (by simp [mm_ent, mm_cs, mw_s, upd]) (mm_ho (by decide) _) hdg kk
theorem P_2_0 {k : Nat} {x : Int32} {idx : Nat} (hp : pr 2 k) (hq : Cond.fieldLink own idx (TX2 0).1 (TX2 0).2.1 (TX2 0).2.2.1 ∈ wsL_law) (hdg : decode cc pc = .ok (.putfield idx, 3)) (kk : V l G own cc nL ret rm Q0 mc ms cells slots (pc + 3) L (S) pr ad (mw g 2 k (upd (g 2 k) 0 x))) : V l G own cc nL ret rm Q0 mc ms cells slots pc L (.int x :: .ref (ad 2 k 0) :: S) pr ad g := V_put (t := 2) (k := k) (i := 0) (ty0 := tyX2) (ty := .int) (v := .int x) inlX2 rfl tyX2_ok nmX2 hp rfl (by decide) hq rfl (tyX2_ok 0 (by decide)) rfl rfl (by decide) (by simp [mm_ent, mm_cs, mw_s, upd]) (mm_hf (c0 := 0) _ (fun h => absurd rfl h) (fun _ i h1 h2 => by simp only [upd]; rw [if_neg (by omega)]) (fun _ i h1 h2 => by simp only [upd]; rw [if_neg (by omega)]) (fun _ i h1 h2 => by simp only [upd]; rw [if_neg (by omega)]) (fun _ i h1 h2 => by simp only [upd]; rw [if_neg (by omega)])) hdg kk
theorem P_2_1 {k : Nat} {x : Int32} {idx : Nat} (hp : pr 2 k) (hq : Cond.fieldLink own idx (TX2 1).1 (TX2 1).2.1 (TX2 1).2.2.1 ∈ wsL_law) (hdg : decode cc pc = .ok (.putfield idx, 3)) (kk : V l G own cc nL ret rm Q0 mc ms cells slots (pc + 3) L (S) pr ad (mw g 2 k (upd (g 2 k) 4 x))) : V l G own cc nL ret rm Q0 mc ms cells slots pc L (.int x :: .ref (ad 2 k 0) :: S) pr ad g := V_put (t := 2) (k := k) (i := 1) (ty0 := tyX2) (ty := .int) (v := .int x) inlX2 rfl tyX2_ok nmX2 hp rfl (by decide) hq rfl (tyX2_ok 1 (by decide)) rfl rfl (by decide) (by simp [mm_ent, mm_cs, mw_s, upd]) (mm_hf (c0 := 0) _ (fun h => absurd rfl h) (fun _ i h1 h2 => by simp only [upd]; rw [if_neg (by omega)]) (fun _ i h1 h2 => by simp only [upd]; rw [if_neg (by omega)]) (fun _ i h1 h2 => by simp only [upd]; rw [if_neg (by omega)]) (fun _ i h1 h2 => by simp only [upd]; rw [if_neg (by omega)])) hdg kk
theorem P_2_2 {k : Nat} {x : Int32} {idx : Nat} (hp : pr 2 k) (hq : Cond.fieldLink own idx (TX2 2).1 (TX2 2).2.1 (TX2 2).2.2.1 ∈ wsL_law) (hdg : decode cc pc = .ok (.putfield idx, 3)) (kk : V l G own cc nL ret rm Q0 mc ms cells slots (pc + 3) L (S) pr ad (mw g 2 k (upd (g 2 k) 3 x))) : V l G own cc nL ret rm Q0 mc ms cells slots pc L (.int x :: .ref (ad 2 k 0) :: S) pr ad g := V_put (t := 2) (k := k) (i := 2) (ty0 := tyX2) (ty := .int) (v := .int x) inlX2 rfl tyX2_ok nmX2 hp rfl (by decide) hq rfl (tyX2_ok 2 (by decide)) rfl rfl (by decide) (by simp [mm_ent, mm_cs, mw_s, upd]) (mm_hf (c0 := 0) _ (fun h => absurd rfl h) (fun _ i h1 h2 => by simp only [upd]; rw [if_neg (by omega)]) (fun _ i h1 h2 => by simp only [upd]; rw [if_neg (by omega)]) (fun _ i h1 h2 => by simp only [upd]; rw [if_neg (by omega)]) (fun _ i h1 h2 => by simp only [upd]; rw [if_neg (by omega)])) hdg kk
theorem P_2_3 {k : Nat} {x : Int32} {idx : Nat} (hp : pr 2 k) (hq : Cond.fieldLink own idx (TX2 3).1 (TX2 3).2.1 (TX2 3).2.2.1 ∈ wsL_law) (hdg : decode cc pc = .ok (.putfield idx, 3)) (kk : V l G own cc nL ret rm Q0 mc ms cells slots (pc + 3) L (S) pr ad (mw g 2 k (upd (g 2 k) 5 x))) : V l G own cc nL ret rm Q0 mc ms cells slots pc L (.int x :: .ref (ad 2 k 0) :: S) pr ad g := V_put (t := 2) (k := k) (i := 3) (ty0 := tyX2) (ty := .int) (v := .int x) inlX2 rfl tyX2_ok nmX2 hp rfl (by decide) hq rfl (tyX2_ok 3 (by decide)) rfl rfl (by decide) (by simp [mm_ent, mm_cs, mw_s, upd]) (mm_hf (c0 := 0) _ (fun h => absurd rfl h) (fun _ i h1 h2 => by simp only [upd]; rw [if_neg (by omega)]) (fun _ i h1 h2 => by simp only [upd]; rw [if_neg (by omega)]) (fun _ i h1 h2 => by simp only [upd]; rw [if_neg (by omega)]) (fun _ i h1 h2 => by simp only [upd]; rw [if_neg (by omega)])) hdg kk
theorem P_2_4 {k : Nat} {x : Int32} {idx : Nat} (hp : pr 2 k) (hq : Cond.fieldLink own idx (TX2 4).1 (TX2 4).2.1 (TX2 4).2.2.1 ∈ wsL_law) (hdg : decode cc pc = .ok (.putfield idx, 3)) (kk : V l G own cc nL ret rm Q0 mc ms cells slots (pc + 3) L (S) pr ad (mw g 2 k (upd (g 2 k) 1 x))) : V l G own cc nL ret rm Q0 mc ms cells slots pc L (.int x :: .ref (ad 2 k 0) :: S) pr ad g := V_put (t := 2) (k := k) (i := 4) (ty0 := tyX2) (ty := .int) (v := .int x) inlX2 rfl tyX2_ok nmX2 hp rfl (by decide) hq rfl (tyX2_ok 4 (by decide)) rfl rfl (by decide) (by simp [mm_ent, mm_cs, mw_s, upd]) (mm_hf (c0 := 0) _ (fun h => absurd rfl h) (fun _ i h1 h2 => by simp only [upd]; rw [if_neg (by omega)]) (fun _ i h1 h2 => by simp only [upd]; rw [if_neg (by omega)]) (fun _ i h1 h2 => by simp only [upd]; rw [if_neg (by omega)]) (fun _ i h1 h2 => by simp only [upd]; rw [if_neg (by omega)])) hdg kk
theorem P_2_5 {k : Nat} {x : Int32} {idx : Nat} (hp : pr 2 k) (hq : Cond.fieldLink own idx (TX2 5).1 (TX2 5).2.1 (TX2 5).2.2.1 ∈ wsL_law) (hdg : decode cc pc = .ok (.putfield idx, 3)) (kk : V l G own cc nL ret rm Q0 mc ms cells slots (pc + 3) L (S) pr ad (mw g 2 k (upd (g 2 k) 2 x))) : V l G own cc nL ret rm Q0 mc ms cells slots pc L (.int x :: .ref (ad 2 k 0) :: S) pr ad g := V_put (t := 2) (k := k) (i := 5) (ty0 := tyX2) (ty := .int) (v := .int x) inlX2 rfl tyX2_ok nmX2 hp rfl (by decide) hq rfl (tyX2_ok 5 (by decide)) rfl rfl (by decide) (by simp [mm_ent, mm_cs, mw_s, upd]) (mm_hf (c0 := 0) _ (fun h => absurd rfl h) (fun _ i h1 h2 => by simp only [upd]; rw [if_neg (by omega)]) (fun _ i h1 h2 => by simp only [upd]; rw [if_neg (by omega)]) (fun _ i h1 h2 => by simp only [upd]; rw [if_neg (by omega)]) (fun _ i h1 h2 => by simp only [upd]; rw [if_neg (by omega)])) hdg kk
theorem L_1_1 {x : Int32} (hp : pr 1 0) (hin : vp_in x 16) (hdg : decode cc pc = .ok (.iaload, 1)) (kk : V l G own cc nL ret rm Q0 mc ms cells slots (pc + 1) L (.int (g 1 1 x.toNatClampNeg) :: S) pr ad g) : V l G own cc nL ret rm Q0 mc ms cells slots pc L (.int x :: .ref (ad 1 0 1) :: S) pr ad g := V_ild hp rfl rfl hin hdg kk
theorem S_1_1 {x y : Int32} (hp : pr 1 0) (hin : vp_in x 16) (hdg : decode cc pc = .ok (.iastore, 1)) (kk : V l G own cc nL ret rm Q0 mc ms cells slots (pc + 1) L (S) pr ad (mw g 1 1 (upd (g 1 1) x.toNatClampNeg y))) : V l G own cc nL ret rm Q0 mc ms cells slots pc L (.int y :: .int x :: .ref (ad 1 0 1) :: S) pr ad g := V_ist (g' := (mw g 1 1 (upd (g 1 1) x.toNatClampNeg y))) hp rfl rfl hin (by simp only [mm_ent, mm_cs, mw_s]; rfl) (mm_ho (by decide) _) hdg kk
theorem L_3_1 {x : Int32} (hp : pr 3 0) (hin : vp_in x 12) (hdg : decode cc pc = .ok (.iaload, 1)) (kk : V l G own cc nL ret rm Q0 mc ms cells slots (pc + 1) L (.int (g 3 1 x.toNatClampNeg) :: S) pr ad g) : V l G own cc nL ret rm Q0 mc ms cells slots pc L (.int x :: .ref (ad 3 0 1) :: S) pr ad g := V_ild hp rfl rfl hin hdg kk
theorem S_3_1 {x y : Int32} (hp : pr 3 0) (hin : vp_in x 12) (hdg : decode cc pc = .ok (.iastore, 1)) (kk : V l G own cc nL ret rm Q0 mc ms cells slots (pc + 1) L (S) pr ad (mw g 3 1 (upd (g 3 1) x.toNatClampNeg y))) : V l G own cc nL ret rm Q0 mc ms cells slots pc L (.int y :: .int x :: .ref (ad 3 0 1) :: S) pr ad g := V_ist (g' := (mw g 3 1 (upd (g 3 1) x.toNatClampNeg y))) hp rfl rfl hin (by simp only [mm_ent, mm_cs, mw_s]; rfl) (mm_ho (by decide) _) hdg kk
theorem L_3_2 {x : Int32} (hp : pr 3 0) (hin : vp_in x 9) (hdg : decode cc pc = .ok (.iaload, 1)) (kk : V l G own cc nL ret rm Q0 mc ms cells slots (pc + 1) L (.int (g 3 2 x.toNatClampNeg) :: S) pr ad g) : V l G own cc nL ret rm Q0 mc ms cells slots pc L (.int x :: .ref (ad 3 0 2) :: S) pr ad g := V_ild hp rfl rfl hin hdg kk
theorem S_3_2 {x y : Int32} (hp : pr 3 0) (hin : vp_in x 9) (hdg : decode cc pc = .ok (.iastore, 1)) (kk : V l G own cc nL ret rm Q0 mc ms cells slots (pc + 1) L (S) pr ad (mw g 3 2 (upd (g 3 2) x.toNatClampNeg y))) : V l G own cc nL ret rm Q0 mc ms cells slots pc L (.int y :: .int x :: .ref (ad 3 0 2) :: S) pr ad g := V_ist (g' := (mw g 3 2 (upd (g 3 2) x.toNatClampNeg y))) hp rfl rfl hin (by simp only [mm_ent, mm_cs, mw_s]; rfl) (mm_ho (by decide) _) hdg kk
theorem L_3_3 {x : Int32} (hp : pr 3 0) (hin : vp_in x 81) (hdg : decode cc pc = .ok (.iaload, 1)) (kk : V l G own cc nL ret rm Q0 mc ms cells slots (pc + 1) L (.int (g 3 3 x.toNatClampNeg) :: S) pr ad g) : V l G own cc nL ret rm Q0 mc ms cells slots pc L (.int x :: .ref (ad 3 0 3) :: S) pr ad g := V_ild hp rfl rfl hin hdg kk
theorem S_3_3 {x y : Int32} (hp : pr 3 0) (hin : vp_in x 81) (hdg : decode cc pc = .ok (.iastore, 1)) (kk : V l G own cc nL ret rm Q0 mc ms cells slots (pc + 1) L (S) pr ad (mw g 3 3 (upd (g 3 3) x.toNatClampNeg y))) : V l G own cc nL ret rm Q0 mc ms cells slots pc L (.int y :: .int x :: .ref (ad 3 0 3) :: S) pr ad g := V_ist (g' := (mw g 3 3 (upd (g 3 3) x.toNatClampNeg y))) hp rfl rfl hin (by simp only [mm_ent, mm_cs, mw_s]; rfl) (mm_ho (by decide) _) hdg kk
theorem L_4_1 {x : Int32} (hp : pr 4 0) (hin : vp_in x 320) (hdg : decode cc pc = .ok (.iaload, 1)) (kk : V l G own cc nL ret rm Q0 mc ms cells slots (pc + 1) L (.int (g 4 1 x.toNatClampNeg) :: S) pr ad g) : V l G own cc nL ret rm Q0 mc ms cells slots pc L (.int x :: .ref (ad 4 0 1) :: S) pr ad g := V_ild hp rfl rfl hin hdg kk
theorem S_4_1 {x y : Int32} (hp : pr 4 0) (hin : vp_in x 320) (hdg : decode cc pc = .ok (.iastore, 1)) (kk : V l G own cc nL ret rm Q0 mc ms cells slots (pc + 1) L (S) pr ad (mw g 4 1 (upd (g 4 1) x.toNatClampNeg y))) : V l G own cc nL ret rm Q0 mc ms cells slots pc L (.int y :: .int x :: .ref (ad 4 0 1) :: S) pr ad g := V_ist (g' := (mw g 4 1 (upd (g 4 1) x.toNatClampNeg y))) hp rfl rfl hin (by simp only [mm_ent, mm_cs, mw_s]; rfl) (mm_ho (by decide) _) hdg kk
theorem L_4_2 {x : Int32} (hp : pr 4 0) (hin : vp_in x 8) (hdg : decode cc pc = .ok (.iaload, 1)) (kk : V l G own cc nL ret rm Q0 mc ms cells slots (pc + 1) L (.int (g 4 2 x.toNatClampNeg) :: S) pr ad g) : V l G own cc nL ret rm Q0 mc ms cells slots pc L (.int x :: .ref (ad 4 0 2) :: S) pr ad g := V_ild hp rfl rfl hin hdg kk
theorem S_4_2 {x y : Int32} (hp : pr 4 0) (hin : vp_in x 8) (hdg : decode cc pc = .ok (.iastore, 1)) (kk : V l G own cc nL ret rm Q0 mc ms cells slots (pc + 1) L (S) pr ad (mw g 4 2 (upd (g 4 2) x.toNatClampNeg y))) : V l G own cc nL ret rm Q0 mc ms cells slots pc L (.int y :: .int x :: .ref (ad 4 0 2) :: S) pr ad g := V_ist (g' := (mw g 4 2 (upd (g 4 2) x.toNatClampNeg y))) hp rfl rfl hin (by simp only [mm_ent, mm_cs, mw_s]; rfl) (mm_ho (by decide) _) hdg kk
theorem L_4_3 {x : Int32} (hp : pr 4 0) (hin : vp_in x 8) (hdg : decode cc pc = .ok (.iaload, 1)) (kk : V l G own cc nL ret rm Q0 mc ms cells slots (pc + 1) L (.int (g 4 3 x.toNatClampNeg) :: S) pr ad g) : V l G own cc nL ret rm Q0 mc ms cells slots pc L (.int x :: .ref (ad 4 0 3) :: S) pr ad g := V_ild hp rfl rfl hin hdg kk
theorem S_4_3 {x y : Int32} (hp : pr 4 0) (hin : vp_in x 8) (hdg : decode cc pc = .ok (.iastore, 1)) (kk : V l G own cc nL ret rm Q0 mc ms cells slots (pc + 1) L (S) pr ad (mw g 4 3 (upd (g 4 3) x.toNatClampNeg y))) : V l G own cc nL ret rm Q0 mc ms cells slots pc L (.int y :: .int x :: .ref (ad 4 0 3) :: S) pr ad g := V_ist (g' := (mw g 4 3 (upd (g 4 3) x.toNatClampNeg y))) hp rfl rfl hin (by simp only [mm_ent, mm_cs, mw_s]; rfl) (mm_ho (by decide) _) hdg kk
theorem L_5_1 {x : Int32} (hp : pr 5 0) (hin : vp_in x 100) (hdg : decode cc pc = .ok (.iaload, 1)) (kk : V l G own cc nL ret rm Q0 mc ms cells slots (pc + 1) L (.int (g 5 1 x.toNatClampNeg) :: S) pr ad g) : V l G own cc nL ret rm Q0 mc ms cells slots pc L (.int x :: .ref (ad 5 0 1) :: S) pr ad g := V_ild hp rfl rfl hin hdg kk
theorem S_5_1 {x y : Int32} (hp : pr 5 0) (hin : vp_in x 100) (hdg : decode cc pc = .ok (.iastore, 1)) (kk : V l G own cc nL ret rm Q0 mc ms cells slots (pc + 1) L (S) pr ad (mw g 5 1 (upd (g 5 1) x.toNatClampNeg y))) : V l G own cc nL ret rm Q0 mc ms cells slots pc L (.int y :: .int x :: .ref (ad 5 0 1) :: S) pr ad g := V_ist (g' := (mw g 5 1 (upd (g 5 1) x.toNatClampNeg y))) hp rfl rfl hin (by simp only [mm_ent, mm_cs, mw_s]; rfl) (mm_ho (by decide) _) hdg kk
theorem L_7_1 {x : Int32} (hp : pr 7 0) (hin : vp_in x 8) (hdg : decode cc pc = .ok (.iaload, 1)) (kk : V l G own cc nL ret rm Q0 mc ms cells slots (pc + 1) L (.int (g 7 1 x.toNatClampNeg) :: S) pr ad g) : V l G own cc nL ret rm Q0 mc ms cells slots pc L (.int x :: .ref (ad 7 0 1) :: S) pr ad g := V_ild hp rfl rfl hin hdg kk
theorem S_7_1 {x y : Int32} (hp : pr 7 0) (hin : vp_in x 8) (hdg : decode cc pc = .ok (.iastore, 1)) (kk : V l G own cc nL ret rm Q0 mc ms cells slots (pc + 1) L (S) pr ad (mw g 7 1 (upd (g 7 1) x.toNatClampNeg y))) : V l G own cc nL ret rm Q0 mc ms cells slots pc L (.int y :: .int x :: .ref (ad 7 0 1) :: S) pr ad g := V_ist (g' := (mw g 7 1 (upd (g 7 1) x.toNatClampNeg y))) hp rfl rfl hin (by simp only [mm_ent, mm_cs, mw_s]; rfl) (mm_ho (by decide) _) hdg kk
theorem L_7_2 {x : Int32} (hp : pr 7 0) (hin : vp_in x 8) (hdg : decode cc pc = .ok (.iaload, 1)) (kk : V l G own cc nL ret rm Q0 mc ms cells slots (pc + 1) L (.int (g 7 2 x.toNatClampNeg) :: S) pr ad g) : V l G own cc nL ret rm Q0 mc ms cells slots pc L (.int x :: .ref (ad 7 0 2) :: S) pr ad g := V_ild hp rfl rfl hin hdg kk
theorem S_7_2 {x y : Int32} (hp : pr 7 0) (hin : vp_in x 8) (hdg : decode cc pc = .ok (.iastore, 1)) (kk : V l G own cc nL ret rm Q0 mc ms cells slots (pc + 1) L (S) pr ad (mw g 7 2 (upd (g 7 2) x.toNatClampNeg y))) : V l G own cc nL ret rm Q0 mc ms cells slots pc L (.int y :: .int x :: .ref (ad 7 0 2) :: S) pr ad g := V_ist (g' := (mw g 7 2 (upd (g 7 2) x.toNatClampNeg y))) hp rfl rfl hin (by simp only [mm_ent, mm_cs, mw_s]; rfl) (mm_ho (by decide) _) hdg kk
theorem L_7_3 {x : Int32} (hp : pr 7 0) (hin : vp_in x 320) (hdg : decode cc pc = .ok (.iaload, 1)) (kk : V l G own cc nL ret rm Q0 mc ms cells slots (pc + 1) L (.int (g 7 3 x.toNatClampNeg) :: S) pr ad g) : V l G own cc nL ret rm Q0 mc ms cells slots pc L (.int x :: .ref (ad 7 0 3) :: S) pr ad g := V_ild hp rfl rfl hin hdg kk
theorem S_7_3 {x y : Int32} (hp : pr 7 0) (hin : vp_in x 320) (hdg : decode cc pc = .ok (.iastore, 1)) (kk : V l G own cc nL ret rm Q0 mc ms cells slots (pc + 1) L (S) pr ad (mw g 7 3 (upd (g 7 3) x.toNatClampNeg y))) : V l G own cc nL ret rm Q0 mc ms cells slots pc L (.int y :: .int x :: .ref (ad 7 0 3) :: S) pr ad g := V_ist (g' := (mw g 7 3 (upd (g 7 3) x.toNatClampNeg y))) hp rfl rfl hin (by simp only [mm_ent, mm_cs, mw_s]; rfl) (mm_ho (by decide) _) hdg kk
theorem L_7_4 {x : Int32} (hp : pr 7 0) (hin : vp_in x 36) (hdg : decode cc pc = .ok (.iaload, 1)) (kk : V l G own cc nL ret rm Q0 mc ms cells slots (pc + 1) L (.int (g 7 4 x.toNatClampNeg) :: S) pr ad g) : V l G own cc nL ret rm Q0 mc ms cells slots pc L (.int x :: .ref (ad 7 0 4) :: S) pr ad g := V_ild hp rfl rfl hin hdg kk
theorem S_7_4 {x y : Int32} (hp : pr 7 0) (hin : vp_in x 36) (hdg : decode cc pc = .ok (.iastore, 1)) (kk : V l G own cc nL ret rm Q0 mc ms cells slots (pc + 1) L (S) pr ad (mw g 7 4 (upd (g 7 4) x.toNatClampNeg y))) : V l G own cc nL ret rm Q0 mc ms cells slots pc L (.int y :: .int x :: .ref (ad 7 0 4) :: S) pr ad g := V_ist (g' := (mw g 7 4 (upd (g 7 4) x.toNatClampNeg y))) hp rfl rfl hin (by simp only [mm_ent, mm_cs, mw_s]; rfl) (mm_ho (by decide) _) hdg kk
theorem L_7_5 {x : Int32} (hp : pr 7 0) (hin : vp_in x 40) (hdg : decode cc pc = .ok (.iaload, 1)) (kk : V l G own cc nL ret rm Q0 mc ms cells slots (pc + 1) L (.int (g 7 5 x.toNatClampNeg) :: S) pr ad g) : V l G own cc nL ret rm Q0 mc ms cells slots pc L (.int x :: .ref (ad 7 0 5) :: S) pr ad g := V_ild hp rfl rfl hin hdg kk
theorem S_7_5 {x y : Int32} (hp : pr 7 0) (hin : vp_in x 40) (hdg : decode cc pc = .ok (.iastore, 1)) (kk : V l G own cc nL ret rm Q0 mc ms cells slots (pc + 1) L (S) pr ad (mw g 7 5 (upd (g 7 5) x.toNatClampNeg y))) : V l G own cc nL ret rm Q0 mc ms cells slots pc L (.int y :: .int x :: .ref (ad 7 0 5) :: S) pr ad g := V_ist (g' := (mw g 7 5 (upd (g 7 5) x.toNatClampNeg y))) hp rfl rfl hin (by simp only [mm_ent, mm_cs, mw_s]; rfl) (mm_ho (by decide) _) hdg kk
theorem L_7_6 {x : Int32} (hp : pr 7 0) (hin : vp_in x 100) (hdg : decode cc pc = .ok (.iaload, 1)) (kk : V l G own cc nL ret rm Q0 mc ms cells slots (pc + 1) L (.int (g 7 6 x.toNatClampNeg) :: S) pr ad g) : V l G own cc nL ret rm Q0 mc ms cells slots pc L (.int x :: .ref (ad 7 0 6) :: S) pr ad g := V_ild hp rfl rfl hin hdg kk
theorem S_7_6 {x y : Int32} (hp : pr 7 0) (hin : vp_in x 100) (hdg : decode cc pc = .ok (.iastore, 1)) (kk : V l G own cc nL ret rm Q0 mc ms cells slots (pc + 1) L (S) pr ad (mw g 7 6 (upd (g 7 6) x.toNatClampNeg y))) : V l G own cc nL ret rm Q0 mc ms cells slots pc L (.int y :: .int x :: .ref (ad 7 0 6) :: S) pr ad g := V_ist (g' := (mw g 7 6 (upd (g 7 6) x.toNatClampNeg y))) hp rfl rfl hin (by simp only [mm_ent, mm_cs, mw_s]; rfl) (mm_ho (by decide) _) hdg kk
theorem L_7_7 {x : Int32} (hp : pr 7 0) (hin : vp_in x 36) (hdg : decode cc pc = .ok (.iaload, 1)) (kk : V l G own cc nL ret rm Q0 mc ms cells slots (pc + 1) L (.int (g 7 7 x.toNatClampNeg) :: S) pr ad g) : V l G own cc nL ret rm Q0 mc ms cells slots pc L (.int x :: .ref (ad 7 0 7) :: S) pr ad g := V_ild hp rfl rfl hin hdg kk
theorem S_7_7 {x y : Int32} (hp : pr 7 0) (hin : vp_in x 36) (hdg : decode cc pc = .ok (.iastore, 1)) (kk : V l G own cc nL ret rm Q0 mc ms cells slots (pc + 1) L (S) pr ad (mw g 7 7 (upd (g 7 7) x.toNatClampNeg y))) : V l G own cc nL ret rm Q0 mc ms cells slots pc L (.int y :: .int x :: .ref (ad 7 0 7) :: S) pr ad g := V_ist (g' := (mw g 7 7 (upd (g 7 7) x.toNatClampNeg y))) hp rfl rfl hin (by simp only [mm_ent, mm_cs, mw_s]; rfl) (mm_ho (by decide) _) hdg kk
theorem L_7_8 {x : Int32} (hp : pr 7 0) (hin : vp_in x 864) (hdg : decode cc pc = .ok (.iaload, 1)) (kk : V l G own cc nL ret rm Q0 mc ms cells slots (pc + 1) L (.int (g 7 8 x.toNatClampNeg) :: S) pr ad g) : V l G own cc nL ret rm Q0 mc ms cells slots pc L (.int x :: .ref (ad 7 0 8) :: S) pr ad g := V_ild hp rfl rfl hin hdg kk
theorem S_7_8 {x y : Int32} (hp : pr 7 0) (hin : vp_in x 864) (hdg : decode cc pc = .ok (.iastore, 1)) (kk : V l G own cc nL ret rm Q0 mc ms cells slots (pc + 1) L (S) pr ad (mw g 7 8 (upd (g 7 8) x.toNatClampNeg y))) : V l G own cc nL ret rm Q0 mc ms cells slots pc L (.int y :: .int x :: .ref (ad 7 0 8) :: S) pr ad g := V_ist (g' := (mw g 7 8 (upd (g 7 8) x.toNatClampNeg y))) hp rfl rfl hin (by simp only [mm_ent, mm_cs, mw_s]; rfl) (mm_ho (by decide) _) hdg kk
theorem L_7_9 {x : Int32} (hp : pr 7 0) (hin : vp_in x 36) (hdg : decode cc pc = .ok (.iaload, 1)) (kk : V l G own cc nL ret rm Q0 mc ms cells slots (pc + 1) L (.int (g 7 9 x.toNatClampNeg) :: S) pr ad g) : V l G own cc nL ret rm Q0 mc ms cells slots pc L (.int x :: .ref (ad 7 0 9) :: S) pr ad g := V_ild hp rfl rfl hin hdg kk
theorem S_7_9 {x y : Int32} (hp : pr 7 0) (hin : vp_in x 36) (hdg : decode cc pc = .ok (.iastore, 1)) (kk : V l G own cc nL ret rm Q0 mc ms cells slots (pc + 1) L (S) pr ad (mw g 7 9 (upd (g 7 9) x.toNatClampNeg y))) : V l G own cc nL ret rm Q0 mc ms cells slots pc L (.int y :: .int x :: .ref (ad 7 0 9) :: S) pr ad g := V_ist (g' := (mw g 7 9 (upd (g 7 9) x.toNatClampNeg y))) hp rfl rfl hin (by simp only [mm_ent, mm_cs, mw_s]; rfl) (mm_ho (by decide) _) hdg kk
theorem L_7_10 {x : Int32} (hp : pr 7 0) (hin : vp_in x 2) (hdg : decode cc pc = .ok (.baload, 1)) (kk : V l G own cc nL ret rm Q0 mc ms cells slots (pc + 1) L (.int (g 7 10 x.toNatClampNeg) :: S) pr ad g) : V l G own cc nL ret rm Q0 mc ms cells slots pc L (.int x :: .ref (ad 7 0 10) :: S) pr ad g := V_zld hp rfl rfl hin hdg kk
theorem S_7_10 {x y : Int32} (hp : pr 7 0) (hin : vp_in x 2) (hdg : decode cc pc = .ok (.bastore, 1)) (kk : V l G own cc nL ret rm Q0 mc ms cells slots (pc + 1) L (S) pr ad (mw g 7 10 (upd (g 7 10) x.toNatClampNeg (vp_nar .boolean y)))) : V l G own cc nL ret rm Q0 mc ms cells slots pc L (.int y :: .int x :: .ref (ad 7 0 10) :: S) pr ad g := V_zst (g' := (mw g 7 10 (upd (g 7 10) x.toNatClampNeg (vp_nar .boolean y)))) hp rfl rfl hin (by simp only [mm_ent, mm_cs, mw_s]; rfl) (mm_ho (by decide) _) hdg kk
theorem L_7_11 {x : Int32} (hp : pr 7 0) (hin : vp_in x 72) (hdg : decode cc pc = .ok (.iaload, 1)) (kk : V l G own cc nL ret rm Q0 mc ms cells slots (pc + 1) L (.int (g 7 11 x.toNatClampNeg) :: S) pr ad g) : V l G own cc nL ret rm Q0 mc ms cells slots pc L (.int x :: .ref (ad 7 0 11) :: S) pr ad g := V_ild hp rfl rfl hin hdg kk
theorem S_7_11 {x y : Int32} (hp : pr 7 0) (hin : vp_in x 72) (hdg : decode cc pc = .ok (.iastore, 1)) (kk : V l G own cc nL ret rm Q0 mc ms cells slots (pc + 1) L (S) pr ad (mw g 7 11 (upd (g 7 11) x.toNatClampNeg y))) : V l G own cc nL ret rm Q0 mc ms cells slots pc L (.int y :: .int x :: .ref (ad 7 0 11) :: S) pr ad g := V_ist (g' := (mw g 7 11 (upd (g 7 11) x.toNatClampNeg y))) hp rfl rfl hin (by simp only [mm_ent, mm_cs, mw_s]; rfl) (mm_ho (by decide) _) hdg kk
theorem L_7_12 {x : Int32} (hp : pr 7 0) (hin : vp_in x 16) (hdg : decode cc pc = .ok (.iaload, 1)) (kk : V l G own cc nL ret rm Q0 mc ms cells slots (pc + 1) L (.int (g 7 12 x.toNatClampNeg) :: S) pr ad g) : V l G own cc nL ret rm Q0 mc ms cells slots pc L (.int x :: .ref (ad 7 0 12) :: S) pr ad g := V_ild hp rfl rfl hin hdg kk
theorem S_7_12 {x y : Int32} (hp : pr 7 0) (hin : vp_in x 16) (hdg : decode cc pc = .ok (.iastore, 1)) (kk : V l G own cc nL ret rm Q0 mc ms cells slots (pc + 1) L (S) pr ad (mw g 7 12 (upd (g 7 12) x.toNatClampNeg y))) : V l G own cc nL ret rm Q0 mc ms cells slots pc L (.int y :: .int x :: .ref (ad 7 0 12) :: S) pr ad g := V_ist (g' := (mw g 7 12 (upd (g 7 12) x.toNatClampNeg y))) hp rfl rfl hin (by simp only [mm_ent, mm_cs, mw_s]; rfl) (mm_ho (by decide) _) hdg kk
theorem L_2_1 {k : Nat} {x : Int32} (hp : pr 2 k) (hin : vp_in x 3) (hdg : decode cc pc = .ok (.iaload, 1)) (kk : V l G own cc nL ret rm Q0 mc ms cells slots (pc + 1) L (.int (g 2 k (6 + x.toNatClampNeg)) :: S) pr ad g) : V l G own cc nL ret rm Q0 mc ms cells slots pc L (.int x :: .ref (ad 2 k 1) :: S) pr ad g := V_ild hp rfl rfl hin hdg (by
  show V l G own cc nL ret rm Q0 mc ms cells slots (pc + 1) L (.int (if x.toNatClampNeg < 3 then g 2 k (6 + x.toNatClampNeg) else 0) :: S) pr ad g
  rw [if_pos (vp_lt hin)]
  exact kk)
theorem S_2_1 {k : Nat} {x y : Int32} (hp : pr 2 k) (hin : vp_in x 3) (hdg : decode cc pc = .ok (.iastore, 1)) (kk : V l G own cc nL ret rm Q0 mc ms cells slots (pc + 1) L (S) pr ad (mw g 2 k (upd (g 2 k) (6 + x.toNatClampNeg) y))) : V l G own cc nL ret rm Q0 mc ms cells slots pc L (.int y :: .int x :: .ref (ad 2 k 1) :: S) pr ad g := by
  have hlt := vp_lt hin
  refine V_ist (g' := (mw g 2 k (upd (g 2 k) (6 + x.toNatClampNeg) y))) (t := 2) (k := k) (c0 := 1) hp rfl rfl hin ?_ (mm_hf (c0 := 1) _ (fun _ i h1 => by simp only [upd]; rw [if_neg (by omega)]) (fun h => absurd rfl h) (fun _ i h1 h2 => by simp only [upd]; rw [if_neg (by omega)]) (fun _ i h1 h2 => by simp only [upd]; rw [if_neg (by omega)]) (fun _ i h1 h2 => by simp only [upd]; rw [if_neg (by omega)])) hdg kk
  have e : (fun i => if i < 3 then mw g 2 k (upd (g 2 k) (6 + x.toNatClampNeg) y) 2 k (6 + i) else 0) = upd (fun i => if i < 3 then g 2 k (6 + i) else 0) x.toNatClampNeg y := by
    funext i
    simp only [mw_s, upd]
    by_cases h1 : i = x.toNatClampNeg
    · subst h1
      rw [if_pos hlt, if_pos rfl, if_pos rfl]
    · rw [if_neg (show ¬ 6 + i = 6 + x.toNatClampNeg by omega), if_neg h1]
  show some (Sum.inl (_, _, Sum.inl _)) = _
  rw [e]
theorem L_2_2 {k : Nat} {x : Int32} (hp : pr 2 k) (hin : vp_in x 9) (hdg : decode cc pc = .ok (.iaload, 1)) (kk : V l G own cc nL ret rm Q0 mc ms cells slots (pc + 1) L (.int (g 2 k (9 + x.toNatClampNeg)) :: S) pr ad g) : V l G own cc nL ret rm Q0 mc ms cells slots pc L (.int x :: .ref (ad 2 k 2) :: S) pr ad g := V_ild hp rfl rfl hin hdg (by
  show V l G own cc nL ret rm Q0 mc ms cells slots (pc + 1) L (.int (if x.toNatClampNeg < 9 then g 2 k (9 + x.toNatClampNeg) else 0) :: S) pr ad g
  rw [if_pos (vp_lt hin)]
  exact kk)
theorem S_2_2 {k : Nat} {x y : Int32} (hp : pr 2 k) (hin : vp_in x 9) (hdg : decode cc pc = .ok (.iastore, 1)) (kk : V l G own cc nL ret rm Q0 mc ms cells slots (pc + 1) L (S) pr ad (mw g 2 k (upd (g 2 k) (9 + x.toNatClampNeg) y))) : V l G own cc nL ret rm Q0 mc ms cells slots pc L (.int y :: .int x :: .ref (ad 2 k 2) :: S) pr ad g := by
  have hlt := vp_lt hin
  refine V_ist (g' := (mw g 2 k (upd (g 2 k) (9 + x.toNatClampNeg) y))) (t := 2) (k := k) (c0 := 2) hp rfl rfl hin ?_ (mm_hf (c0 := 2) _ (fun _ i h1 => by simp only [upd]; rw [if_neg (by omega)]) (fun _ i h1 h2 => by simp only [upd]; rw [if_neg (by omega)]) (fun h => absurd rfl h) (fun _ i h1 h2 => by simp only [upd]; rw [if_neg (by omega)]) (fun _ i h1 h2 => by simp only [upd]; rw [if_neg (by omega)])) hdg kk
  have e : (fun i => if i < 9 then mw g 2 k (upd (g 2 k) (9 + x.toNatClampNeg) y) 2 k (9 + i) else 0) = upd (fun i => if i < 9 then g 2 k (9 + i) else 0) x.toNatClampNeg y := by
    funext i
    simp only [mw_s, upd]
    by_cases h1 : i = x.toNatClampNeg
    · subst h1
      rw [if_pos hlt, if_pos rfl, if_pos rfl]
    · rw [if_neg (show ¬ 9 + i = 9 + x.toNatClampNeg by omega), if_neg h1]
  show some (Sum.inl (_, _, Sum.inl _)) = _
  rw [e]
theorem L_2_3 {k : Nat} {x : Int32} (hp : pr 2 k) (hin : vp_in x 9) (hdg : decode cc pc = .ok (.iaload, 1)) (kk : V l G own cc nL ret rm Q0 mc ms cells slots (pc + 1) L (.int (g 2 k (18 + x.toNatClampNeg)) :: S) pr ad g) : V l G own cc nL ret rm Q0 mc ms cells slots pc L (.int x :: .ref (ad 2 k 3) :: S) pr ad g := V_ild hp rfl rfl hin hdg (by
  show V l G own cc nL ret rm Q0 mc ms cells slots (pc + 1) L (.int (if x.toNatClampNeg < 9 then g 2 k (18 + x.toNatClampNeg) else 0) :: S) pr ad g
  rw [if_pos (vp_lt hin)]
  exact kk)
theorem S_2_3 {k : Nat} {x y : Int32} (hp : pr 2 k) (hin : vp_in x 9) (hdg : decode cc pc = .ok (.iastore, 1)) (kk : V l G own cc nL ret rm Q0 mc ms cells slots (pc + 1) L (S) pr ad (mw g 2 k (upd (g 2 k) (18 + x.toNatClampNeg) y))) : V l G own cc nL ret rm Q0 mc ms cells slots pc L (.int y :: .int x :: .ref (ad 2 k 3) :: S) pr ad g := by
  have hlt := vp_lt hin
  refine V_ist (g' := (mw g 2 k (upd (g 2 k) (18 + x.toNatClampNeg) y))) (t := 2) (k := k) (c0 := 3) hp rfl rfl hin ?_ (mm_hf (c0 := 3) _ (fun _ i h1 => by simp only [upd]; rw [if_neg (by omega)]) (fun _ i h1 h2 => by simp only [upd]; rw [if_neg (by omega)]) (fun _ i h1 h2 => by simp only [upd]; rw [if_neg (by omega)]) (fun h => absurd rfl h) (fun _ i h1 h2 => by simp only [upd]; rw [if_neg (by omega)])) hdg kk
  have e : (fun i => if i < 9 then mw g 2 k (upd (g 2 k) (18 + x.toNatClampNeg) y) 2 k (18 + i) else 0) = upd (fun i => if i < 9 then g 2 k (18 + i) else 0) x.toNatClampNeg y := by
    funext i
    simp only [mw_s, upd]
    by_cases h1 : i = x.toNatClampNeg
    · subst h1
      rw [if_pos hlt, if_pos rfl, if_pos rfl]
    · rw [if_neg (show ¬ 18 + i = 18 + x.toNatClampNeg by omega), if_neg h1]
  show some (Sum.inl (_, _, Sum.inl _)) = _
  rw [e]
theorem L_2_4 {k : Nat} {x : Int32} (hp : pr 2 k) (hin : vp_in x 9) (hdg : decode cc pc = .ok (.iaload, 1)) (kk : V l G own cc nL ret rm Q0 mc ms cells slots (pc + 1) L (.int (g 2 k (27 + x.toNatClampNeg)) :: S) pr ad g) : V l G own cc nL ret rm Q0 mc ms cells slots pc L (.int x :: .ref (ad 2 k 4) :: S) pr ad g := V_ild hp rfl rfl hin hdg (by
  show V l G own cc nL ret rm Q0 mc ms cells slots (pc + 1) L (.int (if x.toNatClampNeg < 9 then g 2 k (27 + x.toNatClampNeg) else 0) :: S) pr ad g
  rw [if_pos (vp_lt hin)]
  exact kk)
theorem S_2_4 {k : Nat} {x y : Int32} (hp : pr 2 k) (hin : vp_in x 9) (hdg : decode cc pc = .ok (.iastore, 1)) (kk : V l G own cc nL ret rm Q0 mc ms cells slots (pc + 1) L (S) pr ad (mw g 2 k (upd (g 2 k) (27 + x.toNatClampNeg) y))) : V l G own cc nL ret rm Q0 mc ms cells slots pc L (.int y :: .int x :: .ref (ad 2 k 4) :: S) pr ad g := by
  have hlt := vp_lt hin
  refine V_ist (g' := (mw g 2 k (upd (g 2 k) (27 + x.toNatClampNeg) y))) (t := 2) (k := k) (c0 := 4) hp rfl rfl hin ?_ (mm_hf (c0 := 4) _ (fun _ i h1 => by simp only [upd]; rw [if_neg (by omega)]) (fun _ i h1 h2 => by simp only [upd]; rw [if_neg (by omega)]) (fun _ i h1 h2 => by simp only [upd]; rw [if_neg (by omega)]) (fun _ i h1 h2 => by simp only [upd]; rw [if_neg (by omega)]) (fun h => absurd rfl h)) hdg kk
  have e : (fun i => if i < 9 then mw g 2 k (upd (g 2 k) (27 + x.toNatClampNeg) y) 2 k (27 + i) else 0) = upd (fun i => if i < 9 then g 2 k (27 + i) else 0) x.toNatClampNeg y := by
    funext i
    simp only [mw_s, upd]
    by_cases h1 : i = x.toNatClampNeg
    · subst h1
      rw [if_pos hlt, if_pos rfl, if_pos rfl]
    · rw [if_neg (show ¬ 27 + i = 27 + x.toNatClampNeg by omega), if_neg h1]
  show some (Sum.inl (_, _, Sum.inl _)) = _
  rw [e]
end FLD
end
