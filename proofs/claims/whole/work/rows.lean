section
-- ===== PART A: goes FIRST, ahead of the names: the tables' words, and 'selects' of the private methods out of them =====
/-- a private method of a class that the tables say can be made, by its rows of tables_1 -/
def lw_okq (q : MethodName × Nat) : Prop := (q.1.cls ≠ "java/lang/invoke/MethodHandle" ∧ q.1.cls ≠ "java/lang/invoke/VarHandle") ∧ Cond.instantiable q.1.cls q.2 ∈ tables_1 ∧ Cond.privateMethod q.1 ∈ tables_1 ∧ Cond.instanceMethod q.1 ∈ tables_1
theorem lw_p0 : lw_okq (⟨"LabelStation$History", "slotAt", "(I)LLabelStation$State;"⟩, 3) := ⟨⟨by decide +kernel, by decide +kernel⟩, List.mem_of_getElem? (i := 110) (by decide +kernel), List.mem_of_getElem? (i := 158) (by decide +kernel), List.mem_of_getElem? (i := 159) (by decide +kernel)⟩
theorem lw_p1 : lw_okq (⟨"LabelStation", "recordsThatLeft", "()I"⟩, 5) := ⟨⟨by decide +kernel, by decide +kernel⟩, List.mem_of_getElem? (i := 16) (by decide +kernel), List.mem_of_getElem? (i := 193) (by decide +kernel), List.mem_of_getElem? (i := 194) (by decide +kernel)⟩
theorem lw_p2 : lw_okq (⟨"LabelStation", "sparePulses", "(I)I"⟩, 5) := ⟨⟨by decide +kernel, by decide +kernel⟩, List.mem_of_getElem? (i := 16) (by decide +kernel), List.mem_of_getElem? (i := 209) (by decide +kernel), List.mem_of_getElem? (i := 210) (by decide +kernel)⟩
theorem lw_p3 : lw_okq (⟨"LabelStation", "syntaxError", "()I"⟩, 5) := ⟨⟨by decide +kernel, by decide +kernel⟩, List.mem_of_getElem? (i := 16) (by decide +kernel), List.mem_of_getElem? (i := 229) (by decide +kernel), List.mem_of_getElem? (i := 230) (by decide +kernel)⟩
theorem lw_p4 : lw_okq (⟨"LabelStation", "byteAt", "(I)I"⟩, 5) := ⟨⟨by decide +kernel, by decide +kernel⟩, List.mem_of_getElem? (i := 16) (by decide +kernel), List.mem_of_getElem? (i := 233) (by decide +kernel), List.mem_of_getElem? (i := 234) (by decide +kernel)⟩
theorem lw_p5 : lw_okq (⟨"LabelStation$State", "deliverVerdicts", "()V"⟩, 16) := ⟨⟨by decide +kernel, by decide +kernel⟩, List.mem_of_getElem? (i := 24) (by decide +kernel), List.mem_of_getElem? (i := 245) (by decide +kernel), List.mem_of_getElem? (i := 246) (by decide +kernel)⟩
theorem lw_p6 : lw_okq (⟨"LabelStation$State", "deliver", "(I)V"⟩, 16) := ⟨⟨by decide +kernel, by decide +kernel⟩, List.mem_of_getElem? (i := 24) (by decide +kernel), List.mem_of_getElem? (i := 254) (by decide +kernel), List.mem_of_getElem? (i := 255) (by decide +kernel)⟩
theorem lw_p7 : lw_okq (⟨"LabelStation$State", "fillBin", "()V"⟩, 16) := ⟨⟨by decide +kernel, by decide +kernel⟩, List.mem_of_getElem? (i := 24) (by decide +kernel), List.mem_of_getElem? (i := 279) (by decide +kernel), List.mem_of_getElem? (i := 280) (by decide +kernel)⟩
theorem lw_p8 : lw_okq (⟨"LabelStation$State", "confirmOldest", "()V"⟩, 16) := ⟨⟨by decide +kernel, by decide +kernel⟩, List.mem_of_getElem? (i := 24) (by decide +kernel), List.mem_of_getElem? (i := 283) (by decide +kernel), List.mem_of_getElem? (i := 284) (by decide +kernel)⟩
theorem lw_p9 : lw_okq (⟨"LabelStation$State", "raise", "(I)V"⟩, 16) := ⟨⟨by decide +kernel, by decide +kernel⟩, List.mem_of_getElem? (i := 24) (by decide +kernel), List.mem_of_getElem? (i := 287) (by decide +kernel), List.mem_of_getElem? (i := 288) (by decide +kernel)⟩
theorem lw_p10 : lw_okq (⟨"LabelStation$State", "closeOverdueExpectations", "()V"⟩, 16) := ⟨⟨by decide +kernel, by decide +kernel⟩, List.mem_of_getElem? (i := 24) (by decide +kernel), List.mem_of_getElem? (i := 292) (by decide +kernel), List.mem_of_getElem? (i := 293) (by decide +kernel)⟩
theorem lw_p11 : lw_okq (⟨"LabelStation$State", "pulse", "()V"⟩, 16) := ⟨⟨by decide +kernel, by decide +kernel⟩, List.mem_of_getElem? (i := 24) (by decide +kernel), List.mem_of_getElem? (i := 297) (by decide +kernel), List.mem_of_getElem? (i := 298) (by decide +kernel)⟩
theorem lw_p12 : lw_okq (⟨"LabelStation$State", "staysInRegister", "(I)Z"⟩, 16) := ⟨⟨by decide +kernel, by decide +kernel⟩, List.mem_of_getElem? (i := 24) (by decide +kernel), List.mem_of_getElem? (i := 306) (by decide +kernel), List.mem_of_getElem? (i := 307) (by decide +kernel)⟩
theorem lw_p13 : lw_okq (⟨"LabelStation$State", "labelerActs", "(I)V"⟩, 16) := ⟨⟨by decide +kernel, by decide +kernel⟩, List.mem_of_getElem? (i := 24) (by decide +kernel), List.mem_of_getElem? (i := 311) (by decide +kernel), List.mem_of_getElem? (i := 312) (by decide +kernel)⟩
theorem lw_p14 : lw_okq (⟨"LabelStation$State", "itemAt", "(I)I"⟩, 16) := ⟨⟨by decide +kernel, by decide +kernel⟩, List.mem_of_getElem? (i := 24) (by decide +kernel), List.mem_of_getElem? (i := 319) (by decide +kernel), List.mem_of_getElem? (i := 320) (by decide +kernel)⟩
theorem lw_p15 : lw_okq (⟨"LabelStation$State", "cameraActs", "(IZ)V"⟩, 16) := ⟨⟨by decide +kernel, by decide +kernel⟩, List.mem_of_getElem? (i := 24) (by decide +kernel), List.mem_of_getElem? (i := 326) (by decide +kernel), List.mem_of_getElem? (i := 327) (by decide +kernel)⟩
def lw_privs_1 : List (MethodName × Nat) := [(⟨"LabelStation$History", "slotAt", "(I)LLabelStation$State;"⟩, 3), (⟨"LabelStation", "recordsThatLeft", "()I"⟩, 5), (⟨"LabelStation", "sparePulses", "(I)I"⟩, 5), (⟨"LabelStation", "syntaxError", "()I"⟩, 5), (⟨"LabelStation", "byteAt", "(I)I"⟩, 5), (⟨"LabelStation$State", "deliverVerdicts", "()V"⟩, 16), (⟨"LabelStation$State", "deliver", "(I)V"⟩, 16), (⟨"LabelStation$State", "fillBin", "()V"⟩, 16), (⟨"LabelStation$State", "confirmOldest", "()V"⟩, 16), (⟨"LabelStation$State", "raise", "(I)V"⟩, 16), (⟨"LabelStation$State", "closeOverdueExpectations", "()V"⟩, 16), (⟨"LabelStation$State", "pulse", "()V"⟩, 16), (⟨"LabelStation$State", "staysInRegister", "(I)Z"⟩, 16), (⟨"LabelStation$State", "labelerActs", "(I)V"⟩, 16), (⟨"LabelStation$State", "itemAt", "(I)I"⟩, 16), (⟨"LabelStation$State", "cameraActs", "(IZ)V"⟩, 16)]
theorem lw_r1 : ∀ q ∈ lw_privs_1, lw_okq q := List.forall_mem_cons.mpr ⟨lw_p0, List.forall_mem_cons.mpr ⟨lw_p1, List.forall_mem_cons.mpr ⟨lw_p2, List.forall_mem_cons.mpr ⟨lw_p3, List.forall_mem_cons.mpr ⟨lw_p4, List.forall_mem_cons.mpr ⟨lw_p5, List.forall_mem_cons.mpr ⟨lw_p6, List.forall_mem_cons.mpr ⟨lw_p7, List.forall_mem_cons.mpr ⟨lw_p8, List.forall_mem_cons.mpr ⟨lw_p9, List.forall_mem_cons.mpr ⟨lw_p10, List.forall_mem_cons.mpr ⟨lw_p11, List.forall_mem_cons.mpr ⟨lw_p12, List.forall_mem_cons.mpr ⟨lw_p13, List.forall_mem_cons.mpr ⟨lw_p14, List.forall_mem_cons.mpr ⟨lw_p15, fun _ h => absurd h List.not_mem_nil⟩⟩⟩⟩⟩⟩⟩⟩⟩⟩⟩⟩⟩⟩⟩⟩
theorem lw_p16 : lw_okq (⟨"LabelStation$State", "seen", "(IZ)I"⟩, 16) := ⟨⟨by decide +kernel, by decide +kernel⟩, List.mem_of_getElem? (i := 24) (by decide +kernel), List.mem_of_getElem? (i := 334) (by decide +kernel), List.mem_of_getElem? (i := 335) (by decide +kernel)⟩
theorem lw_p17 : lw_okq (⟨"LabelStation$State", "mayPass", "(I)Z"⟩, 16) := ⟨⟨by decide +kernel, by decide +kernel⟩, List.mem_of_getElem? (i := 24) (by decide +kernel), List.mem_of_getElem? (i := 338) (by decide +kernel), List.mem_of_getElem? (i := 339) (by decide +kernel)⟩
theorem lw_p18 : lw_okq (⟨"LabelStation$State", "reject", "(I)V"⟩, 16) := ⟨⟨by decide +kernel, by decide +kernel⟩, List.mem_of_getElem? (i := 24) (by decide +kernel), List.mem_of_getElem? (i := 342) (by decide +kernel), List.mem_of_getElem? (i := 343) (by decide +kernel)⟩
theorem lw_p19 : lw_okq (⟨"LabelStation$State", "causeOf", "(I)I"⟩, 16) := ⟨⟨by decide +kernel, by decide +kernel⟩, List.mem_of_getElem? (i := 24) (by decide +kernel), List.mem_of_getElem? (i := 346) (by decide +kernel), List.mem_of_getElem? (i := 347) (by decide +kernel)⟩
theorem lw_p20 : lw_okq (⟨"LabelStation$State", "leaveRegister", "(II)V"⟩, 16) := ⟨⟨by decide +kernel, by decide +kernel⟩, List.mem_of_getElem? (i := 24) (by decide +kernel), List.mem_of_getElem? (i := 350) (by decide +kernel), List.mem_of_getElem? (i := 351) (by decide +kernel)⟩
theorem lw_p21 : lw_okq (⟨"LabelStation$State", "pass", "(I)V"⟩, 16) := ⟨⟨by decide +kernel, by decide +kernel⟩, List.mem_of_getElem? (i := 24) (by decide +kernel), List.mem_of_getElem? (i := 354) (by decide +kernel), List.mem_of_getElem? (i := 355) (by decide +kernel)⟩
theorem lw_p22 : lw_okq (⟨"LabelStation$State", "leaveBelt", "(I)V"⟩, 16) := ⟨⟨by decide +kernel, by decide +kernel⟩, List.mem_of_getElem? (i := 24) (by decide +kernel), List.mem_of_getElem? (i := 358) (by decide +kernel), List.mem_of_getElem? (i := 359) (by decide +kernel)⟩
theorem lw_p23 : lw_okq (⟨"LabelStation$State", "recordForExit", "()I"⟩, 16) := ⟨⟨by decide +kernel, by decide +kernel⟩, List.mem_of_getElem? (i := 24) (by decide +kernel), List.mem_of_getElem? (i := 362) (by decide +kernel), List.mem_of_getElem? (i := 363) (by decide +kernel)⟩
theorem lw_p24 : lw_okq (⟨"java/lang/Throwable", "fillInStackTrace", "(I)Ljava/lang/Throwable;"⟩, 6) := ⟨⟨by decide +kernel, by decide +kernel⟩, List.mem_of_getElem? (i := 455) (by decide +kernel), List.mem_of_getElem? (i := 453) (by decide +kernel), List.mem_of_getElem? (i := 454) (by decide +kernel)⟩
theorem lw_p25 : lw_okq (⟨"LabelStationModel", "refused", "(I)Z"⟩, 8) := ⟨⟨by decide +kernel, by decide +kernel⟩, List.mem_of_getElem? (i := 699) (by decide +kernel), List.mem_of_getElem? (i := 738) (by decide +kernel), List.mem_of_getElem? (i := 739) (by decide +kernel)⟩
theorem lw_p26 : lw_okq (⟨"LabelStationModel", "saves", "()V"⟩, 8) := ⟨⟨by decide +kernel, by decide +kernel⟩, List.mem_of_getElem? (i := 699) (by decide +kernel), List.mem_of_getElem? (i := 746) (by decide +kernel), List.mem_of_getElem? (i := 747) (by decide +kernel)⟩
theorem lw_p27 : lw_okq (⟨"LabelStationModel", "barFeed", "(I)I"⟩, 8) := ⟨⟨by decide +kernel, by decide +kernel⟩, List.mem_of_getElem? (i := 699) (by decide +kernel), List.mem_of_getElem? (i := 784) (by decide +kernel), List.mem_of_getElem? (i := 785) (by decide +kernel)⟩
theorem lw_p28 : lw_okq (⟨"LabelStationModel", "feeds", "(I)I"⟩, 8) := ⟨⟨by decide +kernel, by decide +kernel⟩, List.mem_of_getElem? (i := 699) (by decide +kernel), List.mem_of_getElem? (i := 794) (by decide +kernel), List.mem_of_getElem? (i := 795) (by decide +kernel)⟩
theorem lw_p29 : lw_okq (⟨"LabelStationModel", "counts", "(I)V"⟩, 8) := ⟨⟨by decide +kernel, by decide +kernel⟩, List.mem_of_getElem? (i := 699) (by decide +kernel), List.mem_of_getElem? (i := 798) (by decide +kernel), List.mem_of_getElem? (i := 799) (by decide +kernel)⟩
theorem lw_p30 : lw_okq (⟨"LabelStationModel", "itemOf", "(I)I"⟩, 8) := ⟨⟨by decide +kernel, by decide +kernel⟩, List.mem_of_getElem? (i := 699) (by decide +kernel), List.mem_of_getElem? (i := 806) (by decide +kernel), List.mem_of_getElem? (i := 807) (by decide +kernel)⟩
theorem lw_p31 : lw_okq (⟨"LabelStationModel", "drops", "(IIII)V"⟩, 8) := ⟨⟨by decide +kernel, by decide +kernel⟩, List.mem_of_getElem? (i := 699) (by decide +kernel), List.mem_of_getElem? (i := 814) (by decide +kernel), List.mem_of_getElem? (i := 815) (by decide +kernel)⟩
def lw_privs_2 : List (MethodName × Nat) := [(⟨"LabelStation$State", "seen", "(IZ)I"⟩, 16), (⟨"LabelStation$State", "mayPass", "(I)Z"⟩, 16), (⟨"LabelStation$State", "reject", "(I)V"⟩, 16), (⟨"LabelStation$State", "causeOf", "(I)I"⟩, 16), (⟨"LabelStation$State", "leaveRegister", "(II)V"⟩, 16), (⟨"LabelStation$State", "pass", "(I)V"⟩, 16), (⟨"LabelStation$State", "leaveBelt", "(I)V"⟩, 16), (⟨"LabelStation$State", "recordForExit", "()I"⟩, 16), (⟨"java/lang/Throwable", "fillInStackTrace", "(I)Ljava/lang/Throwable;"⟩, 6), (⟨"LabelStationModel", "refused", "(I)Z"⟩, 8), (⟨"LabelStationModel", "saves", "()V"⟩, 8), (⟨"LabelStationModel", "barFeed", "(I)I"⟩, 8), (⟨"LabelStationModel", "feeds", "(I)I"⟩, 8), (⟨"LabelStationModel", "counts", "(I)V"⟩, 8), (⟨"LabelStationModel", "itemOf", "(I)I"⟩, 8), (⟨"LabelStationModel", "drops", "(IIII)V"⟩, 8)]
theorem lw_r2 : ∀ q ∈ lw_privs_2, lw_okq q := List.forall_mem_cons.mpr ⟨lw_p16, List.forall_mem_cons.mpr ⟨lw_p17, List.forall_mem_cons.mpr ⟨lw_p18, List.forall_mem_cons.mpr ⟨lw_p19, List.forall_mem_cons.mpr ⟨lw_p20, List.forall_mem_cons.mpr ⟨lw_p21, List.forall_mem_cons.mpr ⟨lw_p22, List.forall_mem_cons.mpr ⟨lw_p23, List.forall_mem_cons.mpr ⟨lw_p24, List.forall_mem_cons.mpr ⟨lw_p25, List.forall_mem_cons.mpr ⟨lw_p26, List.forall_mem_cons.mpr ⟨lw_p27, List.forall_mem_cons.mpr ⟨lw_p28, List.forall_mem_cons.mpr ⟨lw_p29, List.forall_mem_cons.mpr ⟨lw_p30, List.forall_mem_cons.mpr ⟨lw_p31, fun _ h => absurd h List.not_mem_nil⟩⟩⟩⟩⟩⟩⟩⟩⟩⟩⟩⟩⟩⟩⟩⟩
theorem lw_p32 : lw_okq (⟨"LabelStationModel", "runs", "(I)I"⟩, 8) := ⟨⟨by decide +kernel, by decide +kernel⟩, List.mem_of_getElem? (i := 699) (by decide +kernel), List.mem_of_getElem? (i := 822) (by decide +kernel), List.mem_of_getElem? (i := 823) (by decide +kernel)⟩
theorem lw_p33 : lw_okq (⟨"LabelStationModel", "tickOn", "()V"⟩, 8) := ⟨⟨by decide +kernel, by decide +kernel⟩, List.mem_of_getElem? (i := 699) (by decide +kernel), List.mem_of_getElem? (i := 826) (by decide +kernel), List.mem_of_getElem? (i := 827) (by decide +kernel)⟩
theorem lw_p34 : lw_okq (⟨"LabelStationModel", "delivers", "()V"⟩, 8) := ⟨⟨by decide +kernel, by decide +kernel⟩, List.mem_of_getElem? (i := 699) (by decide +kernel), List.mem_of_getElem? (i := 830) (by decide +kernel), List.mem_of_getElem? (i := 831) (by decide +kernel)⟩
theorem lw_p35 : lw_okq (⟨"LabelStationModel", "tells", "(III)V"⟩, 8) := ⟨⟨by decide +kernel, by decide +kernel⟩, List.mem_of_getElem? (i := 699) (by decide +kernel), List.mem_of_getElem? (i := 834) (by decide +kernel), List.mem_of_getElem? (i := 835) (by decide +kernel)⟩
theorem lw_p36 : lw_okq (⟨"LabelStationModel", "recordOf", "(I)I"⟩, 8) := ⟨⟨by decide +kernel, by decide +kernel⟩, List.mem_of_getElem? (i := 699) (by decide +kernel), List.mem_of_getElem? (i := 838) (by decide +kernel), List.mem_of_getElem? (i := 839) (by decide +kernel)⟩
theorem lw_p37 : lw_okq (⟨"LabelStationModel", "arrives", "()V"⟩, 8) := ⟨⟨by decide +kernel, by decide +kernel⟩, List.mem_of_getElem? (i := 699) (by decide +kernel), List.mem_of_getElem? (i := 842) (by decide +kernel), List.mem_of_getElem? (i := 843) (by decide +kernel)⟩
theorem lw_p38 : lw_okq (⟨"LabelStationModel", "alarms", "(I)V"⟩, 8) := ⟨⟨by decide +kernel, by decide +kernel⟩, List.mem_of_getElem? (i := 699) (by decide +kernel), List.mem_of_getElem? (i := 846) (by decide +kernel), List.mem_of_getElem? (i := 847) (by decide +kernel)⟩
theorem lw_p39 : lw_okq (⟨"LabelStationModel", "pulses", "()V"⟩, 8) := ⟨⟨by decide +kernel, by decide +kernel⟩, List.mem_of_getElem? (i := 699) (by decide +kernel), List.mem_of_getElem? (i := 850) (by decide +kernel), List.mem_of_getElem? (i := 851) (by decide +kernel)⟩
theorem lw_p40 : lw_okq (⟨"LabelStationModel", "acts", "(I)Z"⟩, 8) := ⟨⟨by decide +kernel, by decide +kernel⟩, List.mem_of_getElem? (i := 699) (by decide +kernel), List.mem_of_getElem? (i := 854) (by decide +kernel), List.mem_of_getElem? (i := 855) (by decide +kernel)⟩
theorem lw_p41 : lw_okq (⟨"LabelStationModel", "labels", "(I)V"⟩, 8) := ⟨⟨by decide +kernel, by decide +kernel⟩, List.mem_of_getElem? (i := 699) (by decide +kernel), List.mem_of_getElem? (i := 858) (by decide +kernel), List.mem_of_getElem? (i := 859) (by decide +kernel)⟩
theorem lw_p42 : lw_okq (⟨"LabelStationModel", "itemAt", "(I)I"⟩, 8) := ⟨⟨by decide +kernel, by decide +kernel⟩, List.mem_of_getElem? (i := 699) (by decide +kernel), List.mem_of_getElem? (i := 862) (by decide +kernel), List.mem_of_getElem? (i := 863) (by decide +kernel)⟩
theorem lw_p43 : lw_okq (⟨"LabelStationModel", "looks", "(II)V"⟩, 8) := ⟨⟨by decide +kernel, by decide +kernel⟩, List.mem_of_getElem? (i := 699) (by decide +kernel), List.mem_of_getElem? (i := 866) (by decide +kernel), List.mem_of_getElem? (i := 867) (by decide +kernel)⟩
theorem lw_p44 : lw_okq (⟨"LabelStationModel", "gates", "(I)Z"⟩, 8) := ⟨⟨by decide +kernel, by decide +kernel⟩, List.mem_of_getElem? (i := 699) (by decide +kernel), List.mem_of_getElem? (i := 870) (by decide +kernel), List.mem_of_getElem? (i := 871) (by decide +kernel)⟩
theorem lw_p45 : lw_okq (⟨"LabelStationModel", "leaves", "(II)V"⟩, 8) := ⟨⟨by decide +kernel, by decide +kernel⟩, List.mem_of_getElem? (i := 699) (by decide +kernel), List.mem_of_getElem? (i := 874) (by decide +kernel), List.mem_of_getElem? (i := 875) (by decide +kernel)⟩
theorem lw_p46 : lw_okq (⟨"LabelStationModel", "exits", "()V"⟩, 8) := ⟨⟨by decide +kernel, by decide +kernel⟩, List.mem_of_getElem? (i := 699) (by decide +kernel), List.mem_of_getElem? (i := 878) (by decide +kernel), List.mem_of_getElem? (i := 879) (by decide +kernel)⟩
theorem lw_p47 : lw_okq (⟨"LabelStationModel", "tellStatus", "(I)I"⟩, 8) := ⟨⟨by decide +kernel, by decide +kernel⟩, List.mem_of_getElem? (i := 699) (by decide +kernel), List.mem_of_getElem? (i := 886) (by decide +kernel), List.mem_of_getElem? (i := 887) (by decide +kernel)⟩
def lw_privs_3 : List (MethodName × Nat) := [(⟨"LabelStationModel", "runs", "(I)I"⟩, 8), (⟨"LabelStationModel", "tickOn", "()V"⟩, 8), (⟨"LabelStationModel", "delivers", "()V"⟩, 8), (⟨"LabelStationModel", "tells", "(III)V"⟩, 8), (⟨"LabelStationModel", "recordOf", "(I)I"⟩, 8), (⟨"LabelStationModel", "arrives", "()V"⟩, 8), (⟨"LabelStationModel", "alarms", "(I)V"⟩, 8), (⟨"LabelStationModel", "pulses", "()V"⟩, 8), (⟨"LabelStationModel", "acts", "(I)Z"⟩, 8), (⟨"LabelStationModel", "labels", "(I)V"⟩, 8), (⟨"LabelStationModel", "itemAt", "(I)I"⟩, 8), (⟨"LabelStationModel", "looks", "(II)V"⟩, 8), (⟨"LabelStationModel", "gates", "(I)Z"⟩, 8), (⟨"LabelStationModel", "leaves", "(II)V"⟩, 8), (⟨"LabelStationModel", "exits", "()V"⟩, 8), (⟨"LabelStationModel", "tellStatus", "(I)I"⟩, 8)]
theorem lw_r3 : ∀ q ∈ lw_privs_3, lw_okq q := List.forall_mem_cons.mpr ⟨lw_p32, List.forall_mem_cons.mpr ⟨lw_p33, List.forall_mem_cons.mpr ⟨lw_p34, List.forall_mem_cons.mpr ⟨lw_p35, List.forall_mem_cons.mpr ⟨lw_p36, List.forall_mem_cons.mpr ⟨lw_p37, List.forall_mem_cons.mpr ⟨lw_p38, List.forall_mem_cons.mpr ⟨lw_p39, List.forall_mem_cons.mpr ⟨lw_p40, List.forall_mem_cons.mpr ⟨lw_p41, List.forall_mem_cons.mpr ⟨lw_p42, List.forall_mem_cons.mpr ⟨lw_p43, List.forall_mem_cons.mpr ⟨lw_p44, List.forall_mem_cons.mpr ⟨lw_p45, List.forall_mem_cons.mpr ⟨lw_p46, List.forall_mem_cons.mpr ⟨lw_p47, fun _ h => absurd h List.not_mem_nil⟩⟩⟩⟩⟩⟩⟩⟩⟩⟩⟩⟩⟩⟩⟩⟩
theorem lw_p48 : lw_okq (⟨"LabelStationModel", "spareOf", "(I)I"⟩, 8) := ⟨⟨by decide +kernel, by decide +kernel⟩, List.mem_of_getElem? (i := 699) (by decide +kernel), List.mem_of_getElem? (i := 918) (by decide +kernel), List.mem_of_getElem? (i := 919) (by decide +kernel)⟩
theorem lw_p49 : lw_okq (⟨"LabelStationModel", "laysAside", "()V"⟩, 8) := ⟨⟨by decide +kernel, by decide +kernel⟩, List.mem_of_getElem? (i := 699) (by decide +kernel), List.mem_of_getElem? (i := 930) (by decide +kernel), List.mem_of_getElem? (i := 931) (by decide +kernel)⟩
theorem lw_p50 : lw_okq (⟨"LabelStationModel", "takesBack", "()V"⟩, 8) := ⟨⟨by decide +kernel, by decide +kernel⟩, List.mem_of_getElem? (i := 699) (by decide +kernel), List.mem_of_getElem? (i := 934) (by decide +kernel), List.mem_of_getElem? (i := 935) (by decide +kernel)⟩
theorem lw_p51 : lw_okq (⟨"LabelStationModel", "does", "(I)Z"⟩, 8) := ⟨⟨by decide +kernel, by decide +kernel⟩, List.mem_of_getElem? (i := 699) (by decide +kernel), List.mem_of_getElem? (i := 950) (by decide +kernel), List.mem_of_getElem? (i := 951) (by decide +kernel)⟩
theorem lw_p52 : lw_okq (⟨"LabelStationModel", "mix", "(I)V"⟩, 8) := ⟨⟨by decide +kernel, by decide +kernel⟩, List.mem_of_getElem? (i := 699) (by decide +kernel), List.mem_of_getElem? (i := 959) (by decide +kernel), List.mem_of_getElem? (i := 960) (by decide +kernel)⟩
theorem lw_p53 : lw_okq (⟨"LabelStationModel", "mixAll", "(II)V"⟩, 8) := ⟨⟨by decide +kernel, by decide +kernel⟩, List.mem_of_getElem? (i := 699) (by decide +kernel), List.mem_of_getElem? (i := 964) (by decide +kernel), List.mem_of_getElem? (i := 965) (by decide +kernel)⟩
def lw_privs_4 : List (MethodName × Nat) := [(⟨"LabelStationModel", "spareOf", "(I)I"⟩, 8), (⟨"LabelStationModel", "laysAside", "()V"⟩, 8), (⟨"LabelStationModel", "takesBack", "()V"⟩, 8), (⟨"LabelStationModel", "does", "(I)Z"⟩, 8), (⟨"LabelStationModel", "mix", "(I)V"⟩, 8), (⟨"LabelStationModel", "mixAll", "(II)V"⟩, 8)]
theorem lw_r4 : ∀ q ∈ lw_privs_4, lw_okq q := List.forall_mem_cons.mpr ⟨lw_p48, List.forall_mem_cons.mpr ⟨lw_p49, List.forall_mem_cons.mpr ⟨lw_p50, List.forall_mem_cons.mpr ⟨lw_p51, List.forall_mem_cons.mpr ⟨lw_p52, List.forall_mem_cons.mpr ⟨lw_p53, fun _ h => absurd h List.not_mem_nil⟩⟩⟩⟩⟩⟩
def lw_privs : List (MethodName × Nat) := lw_privs_1 ++ (lw_privs_2 ++ (lw_privs_3 ++ (lw_privs_4)))
def lw_tbl : List Cond := k2_sels lw_privs ++ tables_1
theorem lw_privs_ok : ∀ q ∈ lw_privs, lw_okq q := by
  show ∀ q ∈ lw_privs_1 ++ (lw_privs_2 ++ (lw_privs_3 ++ (lw_privs_4))), lw_okq q
  exact List.forall_mem_append.mpr ⟨lw_r1, List.forall_mem_append.mpr ⟨lw_r2, List.forall_mem_append.mpr ⟨lw_r3, lw_r4⟩⟩⟩
/-- the streams that the claim lets the run draw from -/
abbrev lw_cs : List Choice := [Jvm.Choice.named "NaN.bits"]
theorem lw_bits : nanBits ∈ lw_cs := by first | decide | exact List.mem_cons_self | simp [lw_cs, nanBits]
end
section
/-! ===== BEGIN words of one list among another's, by their places ===== -/
theorem goodIn_r {big : List Cond} (ws : List Cond) (ps : List Nat) (hp : ws = ps.filterMap (fun i => big[i]?)) (h : ws.all goodWord = true) : GoodIn big ws := by
  intro w hw
  have h1 := List.all_eq_true.mp h w hw
  rw [hp] at hw
  obtain ⟨i, -, hi⟩ := List.mem_filterMap.mp hw
  have hm : w ∈ big := by first | exact List.mem_of_getElem? hi | exact List.getElem?_mem hi
  exact ⟨hm, good_of_word h1⟩
theorem goodIn_app {big a b : List Cond} (ha : GoodIn big a) (hb : GoodIn big b) : GoodIn big (a ++ b) := fun w h => (List.mem_append.mp h).elim (ha w) (hb w)
theorem goodIn_ca {big a b : List Cond} {c : Cond} (ha : GoodIn big (c :: a)) (hb : GoodIn big b) : GoodIn big (c :: (a ++ b)) := fun w h => (List.mem_cons.mp h).elim (fun e => ha w (List.mem_cons.mpr (Or.inl e))) (fun h => (List.mem_append.mp h).elim (fun h => ha w (List.mem_cons.mpr (Or.inr h))) (hb w))
theorem goodIn_sub {big ws : List Cond} (hm : ∀ w ∈ ws, w ∈ big) (h : ws.all goodWord = true) : GoodIn big ws := fun w hw => ⟨hm w hw, good_of_word (List.all_eq_true.mp h w hw)⟩
/-! ===== END ===== -/

/-! ===== BEGIN exceptions that leave a method, and their catching by the caller (launches without stack traces) ===== -/
section VXA
/-! The laws vx_back, vx_callV, vx_callS, vx_callSW, vx_throw0, vx_throwS follow proofs of the library, with one case more: JvmDerived/Free/Laws.lean (Back.of_free), Shelf42/LK1.lean (callV, callS), Shelf/KitTraced.lean (throwNew0V, throwNewS). -/
/-- where a method has thrown q: the class by its name, the cell, what was written, the world -/
def vx_T (XC : String → State → State → Prop) (st : State) (q : Addr) (t : State) (mc ms : Nat) (free : Addr → Prop) : Prop :=
  ∃ (E : String) (ce : Cell) (L : List Loc), XC E st t ∧ t.heap[q]? = some ce ∧ ce.vm = .none ∧ st.vm.findClass E = some ce.cls ∧ st.WarmedH t.vm ∧ st.sameButNew ({ t with vm := st.vm } : State) L mc ms ∧ ∀ z ∈ L, free z.base
def vx_Q (Qc : Array Value → State → Outcome → State → Prop) (XC : String → State → State → Prop) (mc ms : Nat) (free : Addr → Prop) : Array Value → State → Outcome → State → Prop := fun a st o t =>
  (Qc a st o t ∧ ∃ L, FrameEnd st o t L mc ms ∧ ∀ q ∈ L, free q.base) ∨ ∃ q, o = .threw q ∧ vx_T XC st q t mc ms free
/-- a callee that returns or throws -/
def vx_Met (l : Launch) (y : MethodName) (ws : List Cond) (rm : Room) (Pc : Array Value → State → Prop) (Qc : Array Value → State → Outcome → State → Prop) (XC : String → State → State → Prop) (mc ms : Nat) (free : Addr → Prop) : Prop :=
  MetFree l y (headSpec ws rm) Pc (fun _ _ _ _ _ => True) (vx_Q Qc XC mc ms free)
def vx_Post (XC : String → State → State → Prop) (mc ms : Nat) (free : Addr → Prop) : Pt → Array Value → Addr → Pt → Prop := fun A a q B =>
  ∃ (g : JFrame) (mk : MethodId) (t : State) (L : List Loc) (E : String) (ce : Cell), B.U.heap = t.heap ∧ B.U.vm = t.vm ∧ XC E (A.U.calling g mk a) t ∧ t.heap[q]? = some ce ∧ ce.vm = .none ∧ A.U.vm.findClass E = some ce.cls ∧ B.locs = A.locs ++ L ∧ (∀ z ∈ L, free z.base) ∧ B.cells = A.cells + mc ∧ B.slots = A.slots + ms
def vx_Back (l : Launch) (R : Room) (p : Program) (e : Env) (below : List Frame) (s : State) (sargs : Array Value) (y : MethodName) (len W9 : Nat)
    (Pre : Pt → Array Value → Prop) (Post : Pt → Array Value → Option Value → Pt → Prop) (PostX : Pt → Array Value → Addr → Pt → Prop) : Prop :=
  ∀ (m : MethodId) (meth : Method) (c : Code) (A : Pt) (g : JFrame) (ig : Instr) (mk : MethodId) (a : Array Value),
    Stand p l e R s m sargs below meth c A.U A.locs A.cells A.slots → g.method = m → g.locals.size = c.maxLocals → decode c.code g.pc = .ok (ig, len) →
    2 * g.monitorRoom + (g.stack.map fun v => v.category).sum ≤ W9 → A.U.methodNamed? y = some mk → Pre A a →
    (∃ (v : Option Value) (B : Pt), Stand p l e R s m sargs below meth c B.U B.locs B.cells B.slots ∧ Post A a v B ∧
      Steps p.tables e below (doInvoke e (A.U.setTop g) [] mk a).1 (B.U.setTop { g with pc := g.pc + len, stack := v.toList ++ g.stack })) ∨
    (∃ (q : Addr) (B : Pt), Stand p l e R s m sargs below meth c B.U B.locs B.cells B.slots ∧ PostX A a q B ∧
      Steps p.tables e below (doInvoke e (A.U.setTop g) [] mk a).1 ((B.U.setTop g).pushFrame (.throwing q)))
section Payer
variable {l : Launch} {R : Room} {p : Program} {e : Env} {below : List Frame} {s : State} {sargs : Array Value} {y : MethodName} {len W9 : Nat}
theorem vx_back {ws : List Cond} {rm : Room} {Pc : Array Value → State → Prop} {Qc : Array Value → State → Outcome → State → Prop} {XC : String → State → State → Prop} {mc ms : Nat} {free : Addr → Prop} {bytes : ByteArray} {maxL : Nat} {ret : Option FieldType}
    (hM : vx_Met l y ws rm Pc Qc XC mc ms free) (hblind : FrameBlind Pc) (hrc : rm.cells = mc) (hrs : rm.slots = ms)
    (hframes : rm.frames + 1 ≤ R.frames) (hlocals : W9 + (maxL + 11) + rm.locals ≤ R.locals)
    (hws : ∀ w ∈ ws, ∀ a' U, s.WarmedH U.vm → w.before a' U = true) (hcode : Cond.code y bytes maxL ret ∈ ws) (hinit : ∀ a' U, s.WarmedH U.vm → (Cond.initialized y.cls).before a' U = true) :
    vx_Back l R p e below s sargs y len W9 (PreOf R mc ms Pc) (PostOf Qc mc ms free) (vx_Post XC mc ms free) := by
  intro m meth c A g ig mk a X hg hsize hdg hW hn hp
  have h1 : (headSpec ws rm).pre.before a A.U = true := atoms_intro fun w hw => hws w hw _ _ X.warmed
  have h2 : (Cond.code y bytes maxL ret).before a A.U = true := hws _ hcode _ _ X.warmed
  have h3 : (Cond.initialized y.cls).before a A.U = true := hinit _ _ X.warmed
  have h4 : A.cells + (headSpec ws rm).room.cells ≤ R.cells := by rw [show (headSpec ws rm).room.cells = mc from hrc]; exact hp.1
  have h5 : A.slots + (headSpec ws rm).room.slots ≤ R.slots := by rw [show (headSpec ws rm).room.slots = ms from hrs]; exact hp.2.1
  have hPc : Pc a (A.U.calling g mk a) := hblind _ _ _ _ hp.2.2
  obtain ⟨U, Ls, c0, s0⟩ := A
  dsimp only [Pt.U, Pt.locs, Pt.cells, Pt.slots] at h1 h2 h3 h4 h5 X hn hPc ⊢
  obtain ⟨methY, cY, hmY, hcY, -, hlY, -, -, -, -⟩ := Cond.code_spec hn h2
  obtain ⟨kY, hkY, -⟩ := className_of_methodNamed hn
  have hinitY : kY.init = .initialized := Cond.initialized_spec (findClass_of_methodNamed hn) hkY h3
  have h : At U g.method c below := by rw [hg]; exact X.here
  have hlocals9 : W9 + (maxL + 11) + (headSpec ws rm).room.locals ≤ R.locals := hlocals
  have happ : (headSpec ws rm).appliesLoose y e.platform (U.calling g mk a) = true :=
    Spec.appliesLoose_calling (g := g) h hdg hn hkY hinitY
      (X.room_calling (g := g) (R' := (headSpec ws rm).room) hsize hmY hcY hframes (by rw [hlY]; omega) h4 h5) h1
  obtain ⟨mid, hmid⟩ := h.above
  have hfr : (U.setTop g).frames = (.java g :: mid) ++ below := by rw [State.frames_setTop' g h.top, hmid]; rfl
  obtain ⟨o, s₂, hsteps, -, hend, hq⟩ := Steps.callFree hM p X.admits X.cas X.clock (acts := []) hfr happ hPc trivial
  have hq' : vx_Q Qc XC mc ms free a (U.calling g mk a) o s₂ := hq
  rw [State.frames_setTop' g h.top] at hend
  obtain ⟨g₀, hg0⟩ := Option.isSome_iff_exists.mp h.top
  obtain ⟨r, hr⟩ := State.topJava?_eq_some.mp hg0
  have hr' : (({ U with heap := s₂.heap, slotsUsed := s₂.slotsUsed } : State).setVm s₂.vm).frames = .java g₀ :: r := hr
  rcases hq' with ⟨hqc, L, hfe, hL⟩ | ⟨q, rfl, E, ce, L, hx, hce, hcv, hcl, hW₂, hsm, hL⟩
  · obtain ⟨⟨v, rfl⟩, hW₂, e2, q2, q3, q4, q5, q6⟩ := id hfe
    have e3 : s₂ = ({ (U.calling g mk a).setFrames s₂.frames with heap := s₂.heap, slotsUsed := s₂.slotsUsed } : State).setVm s₂.vm := by
      have : s₂ = ({ s₂ with vm := (U.calling g mk a).vm } : State).setVm s₂.vm := rfl
      rw [e2] at this
      exact this
    obtain ⟨c₂, i₂, len₂, hc₂, hd₂, hf₂⟩ := hend
    have hW' : U.WarmedH s₂.vm := hW₂
    have hcc : c₂ = c := by
      have h1 : s₂.code? g.method = U.code? g.method := by
        rw [State.code?_eq, State.code?_eq, hW'.alike.method?]
      exact Option.some.inj (hc₂.symm.trans (h1.trans h.code))
    subst hcc
    have hlen : len₂ = len := by rw [hdg] at hd₂; cases hd₂; rfl
    subst hlen
    have hs₂ : s₂ = (({ U with heap := s₂.heap, slotsUsed := s₂.slotsUsed } : State).setVm s₂.vm).setTop { g with pc := g.pc + len₂, stack := v.toList ++ g.stack } := by
      refine e3.trans ?_
      rw [hf₂, State.calling_eq h.top, State.setFrames_setFrames, State.setTop_of_frames _ hr', hr]
      rfl
    have hsame : U.sameButNew ({ U with heap := s₂.heap, slotsUsed := s₂.slotsUsed } : State) L mc ms := by
      refine ⟨?_, q2, q3, q4, q5, q6⟩
      obtain ⟨t, ht, -⟩ := State.frames_cons hr
      show ({ U with heap := s₂.heap, slotsUsed := s₂.slotsUsed } : State) = { U.setFrames U.frames with heap := s₂.heap, slotsUsed := s₂.slotsUsed }
      rw [State.setFrames_self ht]
    subst hg
    refine Or.inl ⟨v, ⟨(({ U with heap := s₂.heap, slotsUsed := s₂.slotsUsed } : State).setVm s₂.vm), Ls ++ L, c0 + mc, s0 + ms⟩,
      ⟨X.admits, X.cas, X.clock, X.frames, X.room, X.hears, X.method, X.code, (X.here.setHeapUsed s₂.heap s₂.slotsUsed).setVm hW'.alike, X.tail, State.WarmedH.trans X.warmed hW', X.limits, X.bytes, X.same.trans (hsame.setVm s.vm)⟩,
      ⟨g, mk, s₂, L, rfl, rfl, hqc, rfl, hL, rfl, rfl⟩, ?_⟩
    show Steps p.tables e below _ ((({ U with heap := s₂.heap, slotsUsed := s₂.slotsUsed } : State).setVm s₂.vm).setTop { g with pc := g.pc + len₂, stack := v.toList ++ g.stack })
    rw [← hs₂]
    exact hsteps
  · obtain ⟨e2, q2, q3, q4, q5, q6⟩ := id hsm
    have e3 : s₂ = ({ (U.calling g mk a).setFrames s₂.frames with heap := s₂.heap, slotsUsed := s₂.slotsUsed } : State).setVm s₂.vm := by
      have : s₂ = ({ s₂ with vm := (U.calling g mk a).vm } : State).setVm s₂.vm := rfl
      rw [e2] at this
      exact this
    have hf₂ : s₂.frames = .throwing q :: .java g :: U.frames.tail := hend
    have hW' : U.WarmedH s₂.vm := hW₂
    have hs₂ : s₂ = ((({ U with heap := s₂.heap, slotsUsed := s₂.slotsUsed } : State).setVm s₂.vm).setTop g).pushFrame (.throwing q) := by
      refine e3.trans ?_
      rw [hf₂, State.calling_eq h.top, State.setFrames_setFrames, State.pushFrame, State.frames_setTop _ hr', State.setTop_of_frames _ hr', State.setFrames_setFrames, hr]
      rfl
    have hsame : U.sameButNew ({ U with heap := s₂.heap, slotsUsed := s₂.slotsUsed } : State) L mc ms := by
      refine ⟨?_, q2, q3, q4, q5, q6⟩
      obtain ⟨t, ht, -⟩ := State.frames_cons hr
      show ({ U with heap := s₂.heap, slotsUsed := s₂.slotsUsed } : State) = { U.setFrames U.frames with heap := s₂.heap, slotsUsed := s₂.slotsUsed }
      rw [State.setFrames_self ht]
    subst hg
    refine Or.inr ⟨q, ⟨(({ U with heap := s₂.heap, slotsUsed := s₂.slotsUsed } : State).setVm s₂.vm), Ls ++ L, c0 + mc, s0 + ms⟩,
      ⟨X.admits, X.cas, X.clock, X.frames, X.room, X.hears, X.method, X.code, (X.here.setHeapUsed s₂.heap s₂.slotsUsed).setVm hW'.alike, X.tail, State.WarmedH.trans X.warmed hW', X.limits, X.bytes, X.same.trans (hsame.setVm s.vm)⟩,
      ⟨g, mk, s₂, L, E, ce, rfl, rfl, hx, hce, hcv, hcl, rfl, hL, rfl, rfl⟩, ?_⟩
    show Steps p.tables e below _ (((({ U with heap := s₂.heap, slotsUsed := s₂.slotsUsed } : State).setVm s₂.vm).setTop g).pushFrame (.throwing q))
    rw [← hs₂]
    exact hsteps
end Payer
section Calls
variable {p : Program} {l : Launch} {e : Env} {R : Room} {s : State} {m : MethodId} {args : Array Value} {below : List Frame} {meth : Method} {c : Code} {T : State} {locs : List Loc} {cells slots : Nat}
theorem vx_callV (X : Stand p l e R s m args below meth c T locs cells slots) (hexec : p.tables.exec = Jvm.exec) {own C : String} {index : Nat} {y : MethodName} {bytes : ByteArray} {maxL : Nat} {ret : Option FieldType}
    (hown : s.vm.findClass own = some m.cls) (hlink : (Cond.methodLink own index y).before args s = true) (hinst : (Cond.instanceMethod y).before args s = true) (hsel : (Cond.selects C y y).before args s = true)
    (hcode : (Cond.code y bytes maxL ret).before args s = true) (hy : y.cls ≠ "java/lang/invoke/MethodHandle" ∧ y.cls ≠ "java/lang/invoke/VarHandle")
    {W9 : Nat} {Pre : Pt → Array Value → Prop} {Post : Pt → Array Value → Option Value → Pt → Prop} {PostX : Pt → Array Value → Addr → Pt → Prop} (hK : vx_Back l R p e below s args y 3 W9 Pre Post PostX)
    {b : Addr} {cellB : Cell} (hcell : T.heap[b]? = some cellB) (hobj : cellB.vm.isStatics = false) (hcls : s.vm.findClass C = some cellB.cls)
    {g : JFrame} (hg : g.method = m) (hsize : g.locals.size = c.maxLocals) {argsL rest : List Value} (hlen : ∀ sig, parseMethodDescriptor y.desc = some sig → argsL.length = sig.parameters.length)
    (hstack : g.stack = argsL.reverse ++ .ref b :: rest) (hW : 2 * g.monitorRoom + (rest.map fun v => v.category).sum ≤ W9) (hdg : decode c.code g.pc = .ok (.invokevirtual index, 3))
    (hpre : ∀ vm₁, s.WarmedH vm₁ → Pre ⟨T.setVm vm₁, locs, cells, slots⟩ (Value.ref b :: argsL).toArray) :
    (∃ (v : Option Value) (vm₁ : Vm) (B : Pt), s.WarmedH vm₁ ∧ Stand p l e R s m args below meth c B.U B.locs B.cells B.slots ∧ Post ⟨T.setVm vm₁, locs, cells, slots⟩ (Value.ref b :: argsL).toArray v B ∧
      ∀ target, Steps p.tables e below (B.U.setTop { g with pc := g.pc + 3, stack := v.toList ++ rest }) target → Steps p.tables e below (T.setTop g) target) ∨
    (∃ (q : Addr) (vm₁ : Vm) (B : Pt), s.WarmedH vm₁ ∧ Stand p l e R s m args below meth c B.U B.locs B.cells B.slots ∧ PostX ⟨T.setVm vm₁, locs, cells, slots⟩ (Value.ref b :: argsL).toArray q B ∧
      Steps p.tables e below (T.setTop g) ((B.U.setTop { g with stack := rest }).pushFrame (.throwing q))) := by
  obtain ⟨mk, methM, hnamed, hmethM, hstM, habM⟩ := Cond.instanceMethod_spec hinst
  obtain ⟨methM', cM, hmethM', -, -, -, -, -, -, hsigM⟩ := Cond.code_spec hnamed hcode
  cases hmethM.symm.trans hmethM'
  obtain ⟨c2, r2, m2, q1, q2, q3, q4, kP, hkP, hkPi⟩ := Cond.selects_spec hsel
  cases hcls.symm.trans q1
  cases (State.methodFound?_of_named hnamed hy).symm.trans q2
  cases hnamed.symm.trans q3
  have hselP : selectMethod e.platform s.vm cellB.cls mk = .method mk := by rw [Launch.admits_selectMethod X.admits]; exact q4
  obtain ⟨vm₁, X₁, hstep₁⟩ := X.invokevirtual hexec hown hlink hnamed hmethM hstM hkP hkPi hy (a := b) (cell := cellB) hcell
    (fun z h => by rw [h] at hobj; cases hobj) hselP hmethM habM hkP hkPi (g := g) hg (argsL := argsL) (rest := rest) (hlen _ hsigM) hstack hdg
  rcases hK m meth c ⟨T.setVm vm₁, locs, cells, slots⟩ { g with stack := rest } (.invokevirtual index) mk (Value.ref b :: argsL).toArray X₁ hg hsize hdg hW (X₁.named hnamed) (hpre vm₁ X₁.warmed) with ⟨v, B, X', hpost, hsteps⟩ | ⟨q, B, X', hpost, hsteps⟩
  · exact Or.inl ⟨v, vm₁, B, X₁.warmed, X', hpost, fun target h => hstep₁ _ fun acts => by rw [doInvoke_state]; exact hsteps.trans h⟩
  · exact Or.inr ⟨q, vm₁, B, X₁.warmed, X', hpost, hstep₁ _ fun acts => by rw [doInvoke_state]; exact hsteps⟩
theorem vx_callS (X : Stand p l e R s m args below meth c T locs cells slots) (hexec : p.tables.exec = Jvm.exec) {own : String} {index : Nat} {y : MethodName} {bytes : ByteArray} {maxL : Nat} {ret : Option FieldType}
    (hown : s.vm.findClass own = some m.cls) (hlink : (Cond.methodLink own index y).before args s = true) (hstat : (Cond.static y).before args s = true) (hinit : (Cond.initialized y.cls).before args s = true)
    (hcode : (Cond.code y bytes maxL ret).before args s = true) (hy : y.cls ≠ "java/lang/invoke/MethodHandle" ∧ y.cls ≠ "java/lang/invoke/VarHandle")
    {W9 : Nat} {Pre : Pt → Array Value → Prop} {Post : Pt → Array Value → Option Value → Pt → Prop} {PostX : Pt → Array Value → Addr → Pt → Prop} (hK : vx_Back l R p e below s args y 3 W9 Pre Post PostX)
    {g : JFrame} (hg : g.method = m) (hsize : g.locals.size = c.maxLocals) {argsL rest : List Value} (hlen : ∀ sig, parseMethodDescriptor y.desc = some sig → argsL.length = sig.parameters.length)
    (hstack : g.stack = argsL.reverse ++ rest) (hW : 2 * g.monitorRoom + (rest.map fun v => v.category).sum ≤ W9) (hdg : decode c.code g.pc = .ok (.invokestatic index, 3))
    (hpre : ∀ vm₁, s.WarmedH vm₁ → Pre ⟨T.setVm vm₁, locs, cells, slots⟩ argsL.toArray) :
    (∃ (v : Option Value) (vm₁ : Vm) (B : Pt), s.WarmedH vm₁ ∧ Stand p l e R s m args below meth c B.U B.locs B.cells B.slots ∧ Post ⟨T.setVm vm₁, locs, cells, slots⟩ argsL.toArray v B ∧
      ∀ target, Steps p.tables e below (B.U.setTop { g with pc := g.pc + 3, stack := v.toList ++ rest }) target → Steps p.tables e below (T.setTop g) target) ∨
    (∃ (q : Addr) (vm₁ : Vm) (B : Pt), s.WarmedH vm₁ ∧ Stand p l e R s m args below meth c B.U B.locs B.cells B.slots ∧ PostX ⟨T.setVm vm₁, locs, cells, slots⟩ argsL.toArray q B ∧
      Steps p.tables e below (T.setTop g) ((B.U.setTop { g with stack := rest }).pushFrame (.throwing q))) := by
  obtain ⟨mk, hnamed⟩ := Cond.code_named hcode
  obtain ⟨methM, cM, hmethM, -, -, -, -, -, -, hsigM⟩ := Cond.code_spec hnamed hcode
  have hstatic : methM.isStatic = true := Cond.static_spec hnamed hmethM hstat
  obtain ⟨kP, hkP, -⟩ := className_of_methodNamed hnamed
  have hinitP : kP.init = .initialized := Cond.initialized_spec (findClass_of_methodNamed hnamed) hkP hinit
  obtain ⟨vm₁, X₁, hstep₁⟩ := X.invokestatic hexec hown hlink hnamed hmethM hstatic hkP hinitP hy (g := g) hg (argsL := argsL) (rest := rest) (hlen _ hsigM) hstack hdg
  rcases hK m meth c ⟨T.setVm vm₁, locs, cells, slots⟩ { g with stack := rest } (.invokestatic index) mk argsL.toArray X₁ hg hsize hdg hW (X₁.named hnamed) (hpre vm₁ X₁.warmed) with ⟨v, B, X', hpost, hsteps⟩ | ⟨q, B, X', hpost, hsteps⟩
  · exact Or.inl ⟨v, vm₁, B, X₁.warmed, X', hpost, fun target h => hstep₁ _ fun acts => by rw [doInvoke_state]; exact hsteps.trans h⟩
  · exact Or.inr ⟨q, vm₁, B, X₁.warmed, X', hpost, hstep₁ _ fun acts => by rw [doInvoke_state]; exact hsteps⟩
end Calls
theorem vx_cls {s : State} {T : State} {vm₁ : Vm} {E : String} {k : ClassId} (hW : s.WarmedH vm₁) (h : (T.setVm vm₁).vm.findClass E = some k) : s.vm.findClass E = some k := by
  have h1 : vm₁.findClass E = some k := h
  rw [hW.alike.findClass] at h1
  exact h1
/-- the method's frame g, with q thrown over it -/
def vx_W (p : Program) (l : Launch) (e : Env) (R : Room) (s : State) (m : MethodId) (args : Array Value) (below : List Frame) (meth : Method) (c : Code) (H : Heap) (locs : List Loc) (cells slots : Nat) (Q : State → Prop) (g : JFrame) (q : Addr) : Prop :=
  ∀ T : State, T.heap = H → Stand p l e R s m args below meth c T locs cells slots → ∃ t, Steps p.tables e below ((T.setTop g).pushFrame (.throwing q)) t ∧ Q t
def vx_Run (p : Program) (l : Launch) (e : Env) (R : Room) (s : State) (m : MethodId) (args : Array Value) (below : List Frame) (meth : Method) (c : Code) (H : Heap) (locs : List Loc) (cells slots mc ms : Nat) (g : JFrame) (rest : List Value) (Qa : State → Outcome → State → Prop) (XC : String → State → State → Prop) (free : Addr → Prop) : Prop :=
  ∀ T : State, T.heap = H → Stand p l e R s m args below meth c T locs cells slots →
    (∃ (v : Option Value) (st₀ t T' : State) (L : List Loc), st₀.heap = H ∧ Stand p l e R s m args below meth c T' (locs ++ L) (cells + mc) (slots + ms) ∧ (∀ q ∈ L, free q.base) ∧ T'.heap = t.heap ∧ T'.vm = t.vm ∧ Qa st₀ (.returned v) t ∧
      Goes p e below T g T' { g with pc := g.pc + 3, stack := v.toList ++ rest }) ∨
    (∃ (q : Addr) (st₀ t T' : State) (L : List Loc) (E : String) (ce : Cell), st₀.heap = H ∧ Stand p l e R s m args below meth c T' (locs ++ L) (cells + mc) (slots + ms) ∧ (∀ z ∈ L, free z.base) ∧ T'.heap = t.heap ∧ T'.vm = t.vm ∧ XC E st₀ t ∧ t.heap[q]? = some ce ∧ ce.vm = .none ∧ s.vm.findClass E = some ce.cls ∧
      Steps p.tables e below (T.setTop g) ((T'.setTop { g with stack := rest }).pushFrame (.throwing q)))
def vx_X {S : Type} (px : S → Prop) (B : String → S → State → Prop) (A : Nat → Prop) : String → State → State → Prop := fun E st t => ∃ u : S, px u ∧ B E u t ∧ va_F A st t
section Runs
variable {p : Program} {l : Launch} {e : Env} {R : Room} {s : State} {m : MethodId} {args : Array Value} {below : List Frame} {meth : Method} {c : Code} {H : Heap} {locs : List Loc} {cells slots : Nat}
variable {y : MethodName} {bytes cc : ByteArray} {maxL nL mc ms n index : Nat} {ret : Option FieldType} {ws : List Cond} {rm : Room} {Pc : Array Value → State → Prop} {Qc : Array Value → State → Outcome → State → Prop} {XC : String → State → State → Prop} {free : Addr → Prop} {Ts : List Cond} {own C : String} {b : Addr} {As rest : List Value} {g : JFrame}
theorem vx_callBack (cb : CallB R s args own index y bytes maxL ret ws rm mc ms n) (hM : vx_Met l y ws rm Pc Qc XC mc ms free) (hbl : FrameBlind Pc) : vx_Back l R p e below s args y 3 8 (PreOf R mc ms Pc) (PostOf Qc mc ms free) (vx_Post XC mc ms free) := by
  obtain ⟨hrc, hrs, hfr, hlo, hws, hcw, -, hini, -⟩ := cb
  exact vx_back (bytes := bytes) (maxL := maxL) (ret := ret) hM hbl hrc hrs hfr hlo hws hcw (fun a' U hW => word_at hW (Or.inl (by first | rfl | simp [Cond.onTables, Cond.keeps, Cond.steady])) hini)
theorem vx_runV (S : CallFix p m c cc nL s args Ts own) (hM : vx_Met l y ws rm Pc Qc XC mc ms free) (cw : CallW R s args own C index y bytes maxL ret ws rm mc ms n) (hp : PreV s H C b Pc As)
    (hg : g.method = m) (hn : As.length = n) (hsize : g.locals.size = nL) (hstack : g.stack = As.reverse ++ .ref b :: rest) (hW : 2 * g.monitorRoom + (rest.map fun v => v.category).sum ≤ 8) (hdg : decode cc g.pc = .ok (.invokevirtual index, 3)) (hf : cells + mc ≤ R.cells ∧ slots + ms ≤ R.slots) :
    vx_Run p l e R s m args below meth c H locs cells slots mc ms g rest (Qc (Value.ref b :: As).toArray) XC free := by
  have hK : vx_Back l R p e below s args y 3 8 (PreOf R mc ms Pc) (PostOf Qc mc ms free) (vx_Post XC mc ms free) := vx_callBack cw.1 hM hp.1
  obtain ⟨⟨-, -, -, -, -, -, hcode, -, hy, hlen, hl⟩, hin, hse⟩ := cw
  obtain ⟨hx, hb, hml, ho, -⟩ := S
  obtain ⟨-, ⟨cellB, hcB, hoB, hclB⟩, hPc⟩ := hp
  intro T hT X
  rcases vx_callV X hx (C := C) (bytes := bytes) (maxL := maxL) (ret := ret) ho hl hin hse hcode hy hK (by rw [hT]; exact hcB) hoB hclB hg (hsize.trans hml.symm) (argsL := As) (rest := rest) (fun sig h => hn.trans (hlen sig h)) hstack hW (by rw [hb]; exact hdg)
    (fun vm₁ hW₁ => ⟨hf.1, hf.2, hPc (T.setVm vm₁) hT hW₁⟩) with ⟨v, vm₁, ⟨U', l2, c2, s2⟩, hW₁, X', ⟨g', mk, t, L, e1, e2, hq, h1, hL, h2, h3⟩, st⟩ | ⟨q, vm₁, ⟨U', l2, c2, s2⟩, hW₁, X', ⟨g', mk, t, L, E, ce, e1, e2, hq, hce, hcv, hcl, h1, hL, h2, h3⟩, st⟩
  · dsimp only [Pt.U, Pt.locs, Pt.cells, Pt.slots] at X' e1 e2 h1 h2 h3 st
    subst h1; subst h2; subst h3
    exact Or.inl ⟨v, (T.setVm vm₁).calling g' mk (Value.ref b :: As).toArray, t, U', L, hT, X', hL, e1, e2, hq, st⟩
  · dsimp only [Pt.U, Pt.locs, Pt.cells, Pt.slots] at X' e1 e2 h1 h2 h3 st hcl
    subst h1; subst h2; subst h3
    exact Or.inr ⟨q, (T.setVm vm₁).calling g' mk (Value.ref b :: As).toArray, t, U', L, E, ce, hT, X', hL, e1, e2, hq, hce, hcv, vx_cls hW₁ hcl, st⟩
theorem vx_runS (S : CallFix p m c cc nL s args Ts own) (hM : vx_Met l y ws rm Pc Qc XC mc ms free) (cw : CallB R s args own index y bytes maxL ret ws rm mc ms n ∧ (Cond.static y).before args s = true) (hp : PreS s H Pc As)
    (hg : g.method = m) (hn : As.length = n) (hsize : g.locals.size = nL) (hstack : g.stack = As.reverse ++ rest) (hW : 2 * g.monitorRoom + (rest.map fun v => v.category).sum ≤ 8) (hdg : decode cc g.pc = .ok (.invokestatic index, 3)) (hf : cells + mc ≤ R.cells ∧ slots + ms ≤ R.slots) :
    vx_Run p l e R s m args below meth c H locs cells slots mc ms g rest (Qc As.toArray) XC free := by
  have hK : vx_Back l R p e below s args y 3 8 (PreOf R mc ms Pc) (PostOf Qc mc ms free) (vx_Post XC mc ms free) := vx_callBack cw.1 hM hp.1
  obtain ⟨⟨-, -, -, -, -, -, hcode, hini, hy, hlen, hl⟩, hstt⟩ := cw
  obtain ⟨hx, hb, hml, ho, -⟩ := S
  intro T hT X
  rcases vx_callS X hx (bytes := bytes) (maxL := maxL) (ret := ret) ho hl hstt hini hcode hy hK hg (hsize.trans hml.symm) (argsL := As) (rest := rest) (fun sig h => hn.trans (hlen sig h)) hstack hW (by rw [hb]; exact hdg)
    (fun vm₁ hW₁ => ⟨hf.1, hf.2, hp.2 (T.setVm vm₁) hT hW₁⟩) with ⟨v, vm₁, ⟨U', l2, c2, s2⟩, hW₁, X', ⟨g', mk, t, L, e1, e2, hq, h1, hL, h2, h3⟩, st⟩ | ⟨q, vm₁, ⟨U', l2, c2, s2⟩, hW₁, X', ⟨g', mk, t, L, E, ce, e1, e2, hq, hce, hcv, hcl, h1, hL, h2, h3⟩, st⟩
  · dsimp only [Pt.U, Pt.locs, Pt.cells, Pt.slots] at X' e1 e2 h1 h2 h3 st
    subst h1; subst h2; subst h3
    exact Or.inl ⟨v, (T.setVm vm₁).calling g' mk As.toArray, t, U', L, hT, X', hL, e1, e2, hq, st⟩
  · dsimp only [Pt.U, Pt.locs, Pt.cells, Pt.slots] at X' e1 e2 h1 h2 h3 st hcl
    subst h1; subst h2; subst h3
    exact Or.inr ⟨q, (T.setVm vm₁).calling g' mk As.toArray, t, U', L, E, ce, hT, X', hL, e1, e2, hq, hce, hcv, vx_cls hW₁ hcl, st⟩
end Runs
section Rows
variable {p : Program} {l : Launch} {e : Env} {R : Room} {s : State} {m : MethodId} {args : Array Value} {below : List Frame} {meth : Method} {c : Code} {H : Heap} {locs : List Loc} {cells slots : Nat} {Q : State → Prop}
variable {mc ms : Nat} {free : Addr → Prop} {A0 A1 : Nat → Prop} {H0 : Heap} {a : Array Value} {pc : Nat} {ls : Array Slot} {st0 rest : List Value}
theorem vx_keep {st₀ t T' : State} {L : List Loc} (h0 : st₀.heap = H) (e1 : T'.heap = t.heap) (hS : va_S A0 H0 H locs) (hA : ∀ q, q < H.size → A1 q → A0 q) (hf : ∀ q, free q → A0 q) (hL : ∀ q ∈ L, free q.base) (hF : va_F A1 st₀ t) :
    H.size ≤ T'.heap.size ∧ (∀ q : Nat, q < H.size → ¬ A1 q → T'.heap[q]? = H[q]?) ∧ va_S A0 H0 T'.heap (locs ++ L) := by
  obtain ⟨hz, hk⟩ := hF
  rw [h0] at hz hk
  exact ⟨by rw [e1]; exact hz, fun q h1 h2 => by rw [e1]; exact hk q h1 h2,
    ⟨Nat.le_trans hS.1 (by rw [e1]; exact hz), fun q h1 h2 => by rw [e1, hk q (Nat.lt_of_lt_of_le h1 hS.1) (fun z => h2 (hA q (Nat.lt_of_lt_of_le h1 hS.1) z))]; exact hS.2.1 q h1 h2, fun q hq => by
      rcases List.mem_append.mp hq with h | h
      · exact hS.2.2 q h
      · exact hf _ (hL q h)⟩⟩
theorem vx_calli {S SX : Type} {post : Int32 → S → Prop} {px : SX → Prop} {B : S → State → Prop} {BX : String → SX → State → Prop} {AX : Nat → Prop} (hr : vx_Run p l e R s m args below meth c H locs cells slots mc ms (F0 m pc ls st0) rest (va_Qi post B A1 a) (vx_X px BX AX) free) (hS : va_S A0 H0 H locs) (hA : ∀ q, q < H.size → A1 q → A0 q) (hf : ∀ q, free q → A0 q) (hAX : ∀ q, q < H.size → AX q → A0 q)
    (kx : ∀ (E : String) (ce : Cell) (q9 : Addr) (u : SX) (t : State) (H1 : Heap) (locs1 : List Loc), t.heap = H1 → s.vm.Alike t.vm → px u → BX E u t → H.size ≤ H1.size → (∀ q : Nat, q < H.size → ¬ AX q → H1[q]? = H[q]?) → va_S A0 H0 H1 locs1 → H1[q9]? = some ce → ce.vm = .none → s.vm.findClass E = some ce.cls → vx_W p l e R s m args below meth c H1 locs1 (cells + mc) (slots + ms) Q (F0 m pc ls rest) q9)
    (kk : ∀ (r : Int32) (u : S) (t : State) (H1 : Heap) (locs1 : List Loc), t.heap = H1 → s.vm.Alike t.vm → post r u → B u t → H.size ≤ H1.size → (∀ q : Nat, q < H.size → ¬ A1 q → H1[q]? = H[q]?) → va_S A0 H0 H1 locs1 → W p l e R s m args below meth c H1 locs1 (cells + mc) (slots + ms) Q (F0 m (pc + 3) ls (.int r :: rest))) : W p l e R s m args below meth c H locs cells slots Q (F0 m pc ls st0) := by
  intro T hT X
  rcases hr T hT X with ⟨v, st₀, t, T', L, h0, X', hL, e1, e2, ⟨⟨r, u, hv, hp, hb⟩, hF⟩, st⟩ | ⟨q, st₀, t, T', L, E, ce, h0, X', hL, e1, e2, ⟨u, hp, hb, hF⟩, hce, hcv, hcl, st⟩
  · cases hv
    obtain ⟨k1, k2, k3⟩ := vx_keep h0 e1 hS hA hf hL hF
    obtain ⟨t2, a1, b1⟩ := kk r u t T'.heap (locs ++ L) e1.symm (by rw [← e2]; exact X'.warmed.alike) hp hb k1 k2 k3 T' rfl X'
    exact ⟨t2, st t2 a1, b1⟩
  · obtain ⟨k1, k2, k3⟩ := vx_keep h0 e1 hS hAX hf hL hF
    obtain ⟨t2, a1, b1⟩ := kx E ce q u t T'.heap (locs ++ L) e1.symm (by rw [← e2]; exact X'.warmed.alike) hp hb k1 k2 k3 (by rw [e1]; exact hce) hcv hcl T' rfl X'
    exact ⟨t2, st.trans a1, b1⟩
theorem vx_calll {S SX : Type} {post : Int64 → S → Prop} {px : SX → Prop} {B : S → State → Prop} {BX : String → SX → State → Prop} {AX : Nat → Prop} (hr : vx_Run p l e R s m args below meth c H locs cells slots mc ms (F0 m pc ls st0) rest (va_Ql post B A1 a) (vx_X px BX AX) free) (hS : va_S A0 H0 H locs) (hA : ∀ q, q < H.size → A1 q → A0 q) (hf : ∀ q, free q → A0 q) (hAX : ∀ q, q < H.size → AX q → A0 q)
    (kx : ∀ (E : String) (ce : Cell) (q9 : Addr) (u : SX) (t : State) (H1 : Heap) (locs1 : List Loc), t.heap = H1 → s.vm.Alike t.vm → px u → BX E u t → H.size ≤ H1.size → (∀ q : Nat, q < H.size → ¬ AX q → H1[q]? = H[q]?) → va_S A0 H0 H1 locs1 → H1[q9]? = some ce → ce.vm = .none → s.vm.findClass E = some ce.cls → vx_W p l e R s m args below meth c H1 locs1 (cells + mc) (slots + ms) Q (F0 m pc ls rest) q9)
    (kk : ∀ (r : Int64) (u : S) (t : State) (H1 : Heap) (locs1 : List Loc), t.heap = H1 → s.vm.Alike t.vm → post r u → B u t → H.size ≤ H1.size → (∀ q : Nat, q < H.size → ¬ A1 q → H1[q]? = H[q]?) → va_S A0 H0 H1 locs1 → W p l e R s m args below meth c H1 locs1 (cells + mc) (slots + ms) Q (F0 m (pc + 3) ls (.long r :: rest))) : W p l e R s m args below meth c H locs cells slots Q (F0 m pc ls st0) := by
  intro T hT X
  rcases hr T hT X with ⟨v, st₀, t, T', L, h0, X', hL, e1, e2, ⟨⟨r, u, hv, hp, hb⟩, hF⟩, st⟩ | ⟨q, st₀, t, T', L, E, ce, h0, X', hL, e1, e2, ⟨u, hp, hb, hF⟩, hce, hcv, hcl, st⟩
  · cases hv
    obtain ⟨k1, k2, k3⟩ := vx_keep h0 e1 hS hA hf hL hF
    obtain ⟨t2, a1, b1⟩ := kk r u t T'.heap (locs ++ L) e1.symm (by rw [← e2]; exact X'.warmed.alike) hp hb k1 k2 k3 T' rfl X'
    exact ⟨t2, st t2 a1, b1⟩
  · obtain ⟨k1, k2, k3⟩ := vx_keep h0 e1 hS hAX hf hL hF
    obtain ⟨t2, a1, b1⟩ := kx E ce q u t T'.heap (locs ++ L) e1.symm (by rw [← e2]; exact X'.warmed.alike) hp hb k1 k2 k3 (by rw [e1]; exact hce) hcv hcl T' rfl X'
    exact ⟨t2, st.trans a1, b1⟩
theorem vx_callf {S SX : Type} {post : UInt32 → S → Prop} {px : SX → Prop} {B : S → State → Prop} {BX : String → SX → State → Prop} {AX : Nat → Prop} (hr : vx_Run p l e R s m args below meth c H locs cells slots mc ms (F0 m pc ls st0) rest (va_Qf post B A1 a) (vx_X px BX AX) free) (hS : va_S A0 H0 H locs) (hA : ∀ q, q < H.size → A1 q → A0 q) (hf : ∀ q, free q → A0 q) (hAX : ∀ q, q < H.size → AX q → A0 q)
    (kx : ∀ (E : String) (ce : Cell) (q9 : Addr) (u : SX) (t : State) (H1 : Heap) (locs1 : List Loc), t.heap = H1 → s.vm.Alike t.vm → px u → BX E u t → H.size ≤ H1.size → (∀ q : Nat, q < H.size → ¬ AX q → H1[q]? = H[q]?) → va_S A0 H0 H1 locs1 → H1[q9]? = some ce → ce.vm = .none → s.vm.findClass E = some ce.cls → vx_W p l e R s m args below meth c H1 locs1 (cells + mc) (slots + ms) Q (F0 m pc ls rest) q9)
    (kk : ∀ (r : UInt32) (u : S) (t : State) (H1 : Heap) (locs1 : List Loc), t.heap = H1 → s.vm.Alike t.vm → post r u → B u t → H.size ≤ H1.size → (∀ q : Nat, q < H.size → ¬ A1 q → H1[q]? = H[q]?) → va_S A0 H0 H1 locs1 → W p l e R s m args below meth c H1 locs1 (cells + mc) (slots + ms) Q (F0 m (pc + 3) ls (.float r :: rest))) : W p l e R s m args below meth c H locs cells slots Q (F0 m pc ls st0) := by
  intro T hT X
  rcases hr T hT X with ⟨v, st₀, t, T', L, h0, X', hL, e1, e2, ⟨⟨r, u, hv, hp, hb⟩, hF⟩, st⟩ | ⟨q, st₀, t, T', L, E, ce, h0, X', hL, e1, e2, ⟨u, hp, hb, hF⟩, hce, hcv, hcl, st⟩
  · cases hv
    obtain ⟨k1, k2, k3⟩ := vx_keep h0 e1 hS hA hf hL hF
    obtain ⟨t2, a1, b1⟩ := kk r u t T'.heap (locs ++ L) e1.symm (by rw [← e2]; exact X'.warmed.alike) hp hb k1 k2 k3 T' rfl X'
    exact ⟨t2, st t2 a1, b1⟩
  · obtain ⟨k1, k2, k3⟩ := vx_keep h0 e1 hS hAX hf hL hF
    obtain ⟨t2, a1, b1⟩ := kx E ce q u t T'.heap (locs ++ L) e1.symm (by rw [← e2]; exact X'.warmed.alike) hp hb k1 k2 k3 (by rw [e1]; exact hce) hcv hcl T' rfl X'
    exact ⟨t2, st.trans a1, b1⟩
theorem vx_calld {S SX : Type} {post : UInt64 → S → Prop} {px : SX → Prop} {B : S → State → Prop} {BX : String → SX → State → Prop} {AX : Nat → Prop} (hr : vx_Run p l e R s m args below meth c H locs cells slots mc ms (F0 m pc ls st0) rest (va_Qd post B A1 a) (vx_X px BX AX) free) (hS : va_S A0 H0 H locs) (hA : ∀ q, q < H.size → A1 q → A0 q) (hf : ∀ q, free q → A0 q) (hAX : ∀ q, q < H.size → AX q → A0 q)
    (kx : ∀ (E : String) (ce : Cell) (q9 : Addr) (u : SX) (t : State) (H1 : Heap) (locs1 : List Loc), t.heap = H1 → s.vm.Alike t.vm → px u → BX E u t → H.size ≤ H1.size → (∀ q : Nat, q < H.size → ¬ AX q → H1[q]? = H[q]?) → va_S A0 H0 H1 locs1 → H1[q9]? = some ce → ce.vm = .none → s.vm.findClass E = some ce.cls → vx_W p l e R s m args below meth c H1 locs1 (cells + mc) (slots + ms) Q (F0 m pc ls rest) q9)
    (kk : ∀ (r : UInt64) (u : S) (t : State) (H1 : Heap) (locs1 : List Loc), t.heap = H1 → s.vm.Alike t.vm → post r u → B u t → H.size ≤ H1.size → (∀ q : Nat, q < H.size → ¬ A1 q → H1[q]? = H[q]?) → va_S A0 H0 H1 locs1 → W p l e R s m args below meth c H1 locs1 (cells + mc) (slots + ms) Q (F0 m (pc + 3) ls (.double r :: rest))) : W p l e R s m args below meth c H locs cells slots Q (F0 m pc ls st0) := by
  intro T hT X
  rcases hr T hT X with ⟨v, st₀, t, T', L, h0, X', hL, e1, e2, ⟨⟨r, u, hv, hp, hb⟩, hF⟩, st⟩ | ⟨q, st₀, t, T', L, E, ce, h0, X', hL, e1, e2, ⟨u, hp, hb, hF⟩, hce, hcv, hcl, st⟩
  · cases hv
    obtain ⟨k1, k2, k3⟩ := vx_keep h0 e1 hS hA hf hL hF
    obtain ⟨t2, a1, b1⟩ := kk r u t T'.heap (locs ++ L) e1.symm (by rw [← e2]; exact X'.warmed.alike) hp hb k1 k2 k3 T' rfl X'
    exact ⟨t2, st t2 a1, b1⟩
  · obtain ⟨k1, k2, k3⟩ := vx_keep h0 e1 hS hAX hf hL hF
    obtain ⟨t2, a1, b1⟩ := kx E ce q u t T'.heap (locs ++ L) e1.symm (by rw [← e2]; exact X'.warmed.alike) hp hb k1 k2 k3 (by rw [e1]; exact hce) hcv hcl T' rfl X'
    exact ⟨t2, st.trans a1, b1⟩
theorem vx_callv {S SX : Type} {post : S → Prop} {px : SX → Prop} {B : S → State → Prop} {BX : String → SX → State → Prop} {AX : Nat → Prop} (hr : vx_Run p l e R s m args below meth c H locs cells slots mc ms (F0 m pc ls st0) rest (va_Qv post B A1 a) (vx_X px BX AX) free) (hS : va_S A0 H0 H locs) (hA : ∀ q, q < H.size → A1 q → A0 q) (hf : ∀ q, free q → A0 q) (hAX : ∀ q, q < H.size → AX q → A0 q)
    (kx : ∀ (E : String) (ce : Cell) (q9 : Addr) (u : SX) (t : State) (H1 : Heap) (locs1 : List Loc), t.heap = H1 → s.vm.Alike t.vm → px u → BX E u t → H.size ≤ H1.size → (∀ q : Nat, q < H.size → ¬ AX q → H1[q]? = H[q]?) → va_S A0 H0 H1 locs1 → H1[q9]? = some ce → ce.vm = .none → s.vm.findClass E = some ce.cls → vx_W p l e R s m args below meth c H1 locs1 (cells + mc) (slots + ms) Q (F0 m pc ls rest) q9)
    (kk : ∀ (u : S) (t : State) (H1 : Heap) (locs1 : List Loc), t.heap = H1 → s.vm.Alike t.vm → post u → B u t → H.size ≤ H1.size → (∀ q : Nat, q < H.size → ¬ A1 q → H1[q]? = H[q]?) → va_S A0 H0 H1 locs1 → W p l e R s m args below meth c H1 locs1 (cells + mc) (slots + ms) Q (F0 m (pc + 3) ls (rest))) : W p l e R s m args below meth c H locs cells slots Q (F0 m pc ls st0) := by
  intro T hT X
  rcases hr T hT X with ⟨v, st₀, t, T', L, h0, X', hL, e1, e2, ⟨⟨u, hv, hp, hb⟩, hF⟩, st⟩ | ⟨q, st₀, t, T', L, E, ce, h0, X', hL, e1, e2, ⟨u, hp, hb, hF⟩, hce, hcv, hcl, st⟩
  · cases hv
    obtain ⟨k1, k2, k3⟩ := vx_keep h0 e1 hS hA hf hL hF
    obtain ⟨t2, a1, b1⟩ := kk u t T'.heap (locs ++ L) e1.symm (by rw [← e2]; exact X'.warmed.alike) hp hb k1 k2 k3 T' rfl X'
    exact ⟨t2, st t2 a1, b1⟩
  · obtain ⟨k1, k2, k3⟩ := vx_keep h0 e1 hS hAX hf hL hF
    obtain ⟨t2, a1, b1⟩ := kx E ce q u t T'.heap (locs ++ L) e1.symm (by rw [← e2]; exact X'.warmed.alike) hp hb k1 k2 k3 (by rw [e1]; exact hce) hcv hcl T' rfl X'
    exact ⟨t2, st.trans a1, b1⟩
/-- caught by the row x of this method's table; the rows ahead don't take it -/
theorem vx_catch {own name : String} {E : String} {ce : Cell} {q : Addr} (hown : s.vm.findClass own = some m.cls) (pre : List ExceptionTableEntry) (x : ExceptionTableEntry) (suf : List ExceptionTableEntry) (hsplit : c.exceptionTable.toList = pre ++ x :: suf)
    (hpass : ∀ z ∈ pre, covers z pc = false ∨ (z.catchType ≠ 0 ∧ ∃ nm : String, (Cond.classLink own z.catchType nm).before args s = true ∧ va_Nc E nm s)) (hx : covers x pc = true) (h0 : x.catchType ≠ 0)
    (hlink : (Cond.classLink own x.catchType name).before args s = true) (hcast : (Cond.castable E name).before args s = true) (hcell : H[q]? = some ce) (hv : ce.vm = .none) (hcl : s.vm.findClass E = some ce.cls)
    (kk : W p l e R s m args below meth c H locs cells slots Q (F0 m x.handlerPc ls [.ref q])) : vx_W p l e R s m args below meth c H locs cells slots Q (F0 m pc ls rest) q := by
  intro T hT X
  have hpl : e.platform.magicAccessors = ({} : Platform).magicAccessors := by rw [X.admits.platform]
  obtain ⟨c3, c4, hc3, hc4, hasg⟩ := Cond.castable_spec hcast
  cases Option.some.inj (hc3.symm.trans hcl)
  obtain ⟨c5, hc5, hcl5⟩ := Cond.classLink_spec hown hlink e.platform hpl
  cases Option.some.inj (hc4.symm.trans hc5)
  obtain ⟨vm', X', st⟩ := X.thenCaughtThrough q (g := F0 m pc ls rest) rfl (Steps.refl _) (by rw [hT]; exact hcell) (by rw [hv]; rfl) (by obtain ⟨k9, h9, -⟩ := Vm.findClass_spec hcl; exact ⟨k9, h9⟩) pre x suf hsplit
    (fun z hz => by
      rcases hpass z hz with h | ⟨hz0, nm, hl1, hn1⟩
      · exact Or.inl h
      · obtain ⟨c6, hc6, hcl6⟩ := Cond.classLink_spec hown hl1 e.platform hpl
        obtain ⟨a8, b8, h1, h2, h3⟩ := hn1
        cases Option.some.inj (h1.symm.trans hcl)
        cases Option.some.inj (h2.symm.trans hc6)
        exact Or.inr ⟨hz0, _, hcl6, h3⟩) hx (Or.inr ⟨h0, c4, hcl5, hasg⟩)
  obtain ⟨t, a1, b1⟩ := kk (T.setVm vm') hT X'
  exact ⟨t, st.trans a1, b1⟩
end Rows
section Ends
variable {p : Program} {l : Launch} {e : Env} {R : Room} {s : State} {m : MethodId} {args : Array Value} {below : List Frame} {meth : Method} {c : Code} {H : Heap} {locs : List Loc} {cells slots : Nat} {Q : State → Prop}
variable {mc ms : Nat} {free : Addr → Prop} {A0 A1 : Nat → Prop} {H0 : Heap} {a : Array Value} {ls : Array Slot} {st0 rest : List Value}
variable {Qc : Array Value → State → Outcome → State → Prop} {XC : String → State → State → Prop}
/-- what a body that may throw owes at its end -/
def vx_MQ (below : List Frame) (Qc : Array Value → State → Outcome → State → Prop) (XC : String → State → State → Prop) (a : Array Value) (s : State) (mc ms : Nat) (free : Addr → Prop) : State → Prop := fun t =>
  ∃ o, t.status = .running ∧ Ended t below o ∧ vx_Q Qc XC mc ms free a s o t
theorem vx_ret {g : JFrame} {mc ms : Nat} (k : W p l e R s m args below meth c H locs cells slots (MQ below Qc args s mc ms free) g) : W p l e R s m args below meth c H locs cells slots (vx_MQ below Qc XC args s mc ms free) g := by
  intro T hT X
  obtain ⟨t, a1, o, b1, b2, b3, b4⟩ := k T hT X
  exact ⟨t, a1, o, b1, b2, Or.inl ⟨b3, b4⟩⟩
/-- not caught here: it goes on to the caller -/
theorem vx_widen {g : JFrame} {q : Addr} {k n : Nat} (h1 : cells ≤ k) (h2 : slots ≤ n) (kk : vx_W p l e R s m args below meth c H locs k n Q g q) : vx_W p l e R s m args below meth c H locs cells slots Q g q := fun T hT X => kk T hT (stand_widen X h1 h2)
theorem vx_out {pc : Nat} {E : String} {ce : Cell} {q : Addr} {mc ms : Nat} (hout : ∀ x ∈ c.exceptionTable.toList, covers x pc = false) (hlocks : meth.locks = false) (hcell : H[q]? = some ce) (hv : ce.vm = .none) (hcl : s.vm.findClass E = some ce.cls)
    (hx : ∀ t : State, t.heap = H → s.vm.Alike t.vm → XC E s t) (hf : ∀ z ∈ locs, free z.base) (hc : cells ≤ mc) (hs : slots ≤ ms) :
    vx_W p l e R s m args below meth c H locs cells slots (vx_MQ below Qc XC args s mc ms free) (F0 m pc ls rest) q := by
  intro T hT X
  obtain ⟨st1, hrun, hend, hW, hsm⟩ := X.leaveThrown q (g := F0 m pc ls rest) rfl rfl rfl hout hlocks
  have hcell9 : (T.setFrames (.throwing q :: below)).heap[q]? = some ce := by
    show T.heap[q]? = some ce
    rw [hT]; exact hcell
  exact ⟨_, st1, .threw q, hrun, hend, Or.inr ⟨q, rfl, E, ce, locs, hx _ hT hW.alike, hcell9, hv, hcl, hW, hsm.mono hc hs, hf⟩⟩
theorem vx_frame {U : State} {k n : Nat} (h : s.sameButNew ({ U with vm := s.vm } : State) locs k n) : s.heap.size ≤ U.heap.size ∧ ∀ q : Nat, q < s.heap.size → (∀ z ∈ locs, z.base ≠ q) → U.heap[q]? = s.heap[q]? := by
  obtain ⟨-, h2, -, -, -, h6⟩ := h
  refine ⟨h2, fun q hq hz => ?_⟩
  obtain ⟨c9, e1, e2, e3, e4⟩ := h6 q _ (Array.getElem?_eq_getElem hq)
  have hs : c9.slots = (s.heap[q]).slots := Array.ext_getElem? fun i => e4 i fun hm => hz _ hm rfl
  have h9 : c9 = s.heap[q] := by
    rw [hs] at e2
    exact e2
  have e5 : U.heap[q]? = some c9 := e1
  rw [e5, h9, Array.getElem?_eq_getElem hq]
/-- the words of a throw but the four that speak of the heap -/
def vx_no (w : Cond) : Bool := decide (w ≠ .isRef (.static Bundle.tN "UNASSIGNED_STACK" Bundle.steD)) && decide (w ≠ .isRef (.static Bundle.tN "SUPPRESSED_SENTINEL" Bundle.listD)) && decide (w ≠ .laysStatic Bundle.tN "UNASSIGNED_STACK" Bundle.steD) && decide (w ≠ .laysStatic Bundle.tN "SUPPRESSED_SENTINEL" Bundle.listD)
def vx_at0 (own : String) (ic : Nat) (X : String) (names : List String) : List Cond := (Bundle.ownAtoms0 own ic X names).filter vx_no
def vx_atS (own : String) (ic : Nat) (X : String) (names : List String) : List Cond := (Bundle.ownAtoms own ic X names).filter vx_no
/-- a word that the tables alone decide, or a good one -/
def vx_ot (w : Cond) : Bool := w.onTables || goodWord w
theorem vx_ot_at {args a' : Array Value} {s U : State} {w : Cond} (hW : s.WarmedH U.vm) (hvm : s.vm = U.vm) (hg : vx_ot w = true) (h : w.before args s = true) : w.before a' U = true := by
  simp only [vx_ot, Bool.or_eq_true] at hg
  rcases hg with hg | hg
  · exact va_tabs hg hvm h
  · exact word_at hW (good_of_word hg) h
/-- a list's words: the good ones out of the method's own list, the others by premises of their own -/
theorem vx_hat {args : Array Value} {s : State} {L B : List Cond} (h1 : ∀ w ∈ L.filter goodWord, w.before args s = true) (h2 : ∀ w ∈ L.filter (fun w => !goodWord w), w ∈ B) (h3 : ∀ w ∈ B, w.before args s = true) : ∀ w ∈ L, w.before args s = true := by
  intro w hw
  by_cases g : goodWord w = true
  · exact h1 w (List.mem_filter.mpr ⟨hw, g⟩)
  · refine h3 w (h2 w (List.mem_filter.mpr ⟨hw, ?_⟩))
    show (!goodWord w) = true
    cases hgw : goodWord w
    · rfl
    · exact absurd hgw g
theorem vx_c {args : Array Value} {s : State} {w : Cond} {B : List Cond} (h : w.before args s = true) (t : ∀ w ∈ B, w.before args s = true) : ∀ w' ∈ w :: B, w'.before args s = true := fun w' h' => (List.mem_cons.mp h').elim (fun e => by rw [e]; exact h) (t w')
theorem vx_n {args : Array Value} {s : State} : ∀ w ∈ ([] : List Cond), w.before args s = true := fun _ h => nomatch h
theorem vx_own {args : Array Value} {s : State} {L : List Cond} (h1 : ∀ w ∈ L.filter vx_no, w.before args s = true)
    (hU : (Cond.isRef (.static Bundle.tN "UNASSIGNED_STACK" Bundle.steD)).before args s = true) (hN : (Cond.isRef (.static Bundle.tN "SUPPRESSED_SENTINEL" Bundle.listD)).before args s = true)
    (lU : (Cond.laysStatic Bundle.tN "UNASSIGNED_STACK" Bundle.steD).before args s = true) (lN : (Cond.laysStatic Bundle.tN "SUPPRESSED_SENTINEL" Bundle.listD).before args s = true) : ∀ w ∈ L, w.before args s = true := by
  intro w hw
  by_cases e1 : w = .isRef (.static Bundle.tN "UNASSIGNED_STACK" Bundle.steD)
  · rw [e1]; exact hU
  · by_cases e2 : w = .isRef (.static Bundle.tN "SUPPRESSED_SENTINEL" Bundle.listD)
    · rw [e2]; exact hN
    · by_cases e3 : w = .laysStatic Bundle.tN "UNASSIGNED_STACK" Bundle.steD
      · rw [e3]; exact lU
      · by_cases e4 : w = .laysStatic Bundle.tN "SUPPRESSED_SENTINEL" Bundle.listD
        · rw [e4]; exact lN
        · exact h1 w (List.mem_filter.mpr ⟨hw, by unfold vx_no; rw [decide_eq_true e1, decide_eq_true e2, decide_eq_true e3, decide_eq_true e4]; rfl⟩)
/-- where a static field lies, its class's statics cell in H -/
def vx_L (C n d : String) (A : Nat → Prop) (U : State) (H : Heap) : Prop := ∃ (c : ClassId) (k : Class) (i : Nat) (f : Field) (a : Nat) (cell : Cell), U.vm.findClass C = some c ∧ U.fieldFound? C n d = some (c, k, i, f) ∧ f.isStatic = true ∧ k.statics = some a ∧ H[a]? = some cell ∧ cell.vm.isStatics = true ∧ cell.cls = c ∧ f.slot < cell.slots.size ∧ k.staticTypes[f.slot]? = some f.type ∧ ¬ A a
theorem vx_L.moved {C n d : String} {A : Nat → Prop} {u U : State} {H : Heap} (hvm : u.vm.Alike U.vm) (h : vx_L C n d A u H) : vx_L C n d A U H := by
  obtain ⟨c, k, i, f, a, cell, h1, h2, h3, h4, h5, h6, h7, h8, h9, h10⟩ := h
  obtain ⟨k', hi', he⟩ := State.fieldFound?_setVm hvm h2
  exact ⟨c, k', i, f, a, cell, by rw [hvm.findClass]; exact h1, hi', h3, by rw [he]; exact h4, h5, h6, h7, h8, by rw [he]; exact h9, h10⟩
theorem vx_L.kept {C n d : String} {A : Nat → Prop} {U : State} {H H1 : Heap} (h : vx_L C n d A U H) (hq : ∀ a : Nat, a < H.size → ¬ A a → H1[a]? = H[a]?) : vx_L C n d A U H1 := by
  obtain ⟨c, k, i, f, a, cell, h1, h2, h3, h4, h5, h6, h7, h8, h9, h10⟩ := h
  exact ⟨c, k, i, f, a, cell, h1, h2, h3, h4, by rw [hq a (Array.getElem?_eq_some_iff.mp h5).1 h10]; exact h5, h6, h7, h8, h9, h10⟩
theorem vx_L.narrow {C n d : String} {A B : Nat → Prop} {U : State} {H : Heap} (h : vx_L C n d A U H) (hAB : ∀ q, B q → A q) : vx_L C n d B U H := by
  obtain ⟨c, k, i, f, a, cell, h1, h2, h3, h4, h5, h6, h7, h8, h9, h10⟩ := h
  exact ⟨c, k, i, f, a, cell, h1, h2, h3, h4, h5, h6, h7, h8, h9, fun z => h10 (hAB _ z)⟩
theorem vx_L.word {C n d : String} {A : Nat → Prop} {s : State} {args : Array Value} (h : vx_L C n d A s s.heap) : (Cond.laysStatic C n d).before args s = true := by
  obtain ⟨c, k, i, f, a, cell, h1, h2, h3, h4, h5, h6, h7, h8, h9, -⟩ := h
  show (Cond.laysStatic C n d).holds args s none s [] = true
  exact Cond.laysStatic_of h1 h2 h3 h4 h5 h6 h7 h8 h9
/-- .. and what it holds: null or some reference -/
def vx_Zq (C n d : String) (A : Nat → Prop) (U : State) (H : Heap) : Prop := va_Zq C n d A U H ∧ vx_L C n d A U H
theorem vx_Zq.moved {C n d : String} {A : Nat → Prop} {u U : State} {H : Heap} (hvm : u.vm.Alike U.vm) (h : vx_Zq C n d A u H) : vx_Zq C n d A U H := ⟨va_Zq.moved hvm h.1, vx_L.moved hvm h.2⟩
theorem vx_Zq.kept {C n d : String} {A : Nat → Prop} {U : State} {H H1 : Heap} (h : vx_Zq C n d A U H) (hq : ∀ a : Nat, a < H.size → ¬ A a → H1[a]? = H[a]?) : vx_Zq C n d A U H1 := ⟨va_Zq.kept h.1 hq, vx_L.kept h.2 hq⟩
theorem vx_Zq.narrow {C n d : String} {A B : Nat → Prop} {U : State} {H : Heap} (h : vx_Zq C n d A U H) (hAB : ∀ q, B q → A q) : vx_Zq C n d B U H := ⟨va_Zq.narrow h.1 hAB, vx_L.narrow h.2 hAB⟩
theorem vx_Zqof {args : Array Value} {s : State} {C n d : String} {A : Nat → Prop} (hl : (Cond.laysStatic C n d).before args s = true) (hini : (Cond.initialized C).before args s = true) (h : (Cond.isRef (.static C n d)).before args s = true) (hA : ∀ a : Nat, a < s.heap.size → ¬ A a) : vx_Zq C n d A s s.heap := by
  refine ⟨va_Zqof hl hini h hA, ?_⟩
  obtain ⟨c, k, i, f, a, cell, h1, h2, h3, h4, h5, h6, h7, h8, h9⟩ := Cond.laysStatic_spec hl
  exact ⟨c, k, i, f, a, cell, h1, h2, h3, h4, h5, h6, h7, h8, h9, hA a (Array.getElem?_eq_some_iff.mp h5).1⟩
theorem vx_isRef {C n d : String} {v : Value} {A : Nat → Prop} {s : State} {args : Array Value} (h : va_Z C n d v A s s.heap) (hv : v.isRef = true) : (Cond.isRef (.static C n d)).before args s = true := by
  obtain ⟨cf, kf, fi, f, a, cell, h1, h2, h3, h4, h5, h6, h7, -⟩ := h
  have he : (Term.static C n d).eval args s none [] s = some v := by
    simp [Term.eval, State.fieldNamed?, h1, h2, h4, h5, h6, h7]
  simp only [Cond.before, Cond.holds, Cond.value, he]
  cases v <;> simp_all [Value.isRef]
theorem vx_isRefq {C n d : String} {A : Nat → Prop} {s : State} {args : Array Value} (h : va_Zq C n d A s s.heap) : (Cond.isRef (.static C n d)).before args s = true := by
  rcases h with h | ⟨t, h⟩
  · exact vx_isRef h rfl
  · exact vx_isRef h rfl
/-- the same frame, seen from here: as if the method were called anew in this heap -/
theorem vx_rebase {T : State} (X : Stand p l e R s m args below meth c T locs cells slots) {R' : Room} (hf : R'.frames ≤ R.frames) (hl : R'.locals ≤ R.locals) (hc : cells + R'.cells ≤ R.cells) (hs : slots + R'.slots ≤ R.slots) :
    Stand p l e R' ((T.setVm s.vm).setFrames (.invoking m args :: below)) m args below meth c T [] 0 0 := by
  have htop : (T.setVm s.vm).topJava?.isSome := X.here.top
  have hF : ((T.setVm s.vm).setFrames (.invoking m args :: below)).frames = .invoking m args :: below := State.frames_setFrames _ (State.cur_lt_of_top htop)
  obtain ⟨g₀, hg0⟩ := Option.isSome_iff_exists.mp htop
  obtain ⟨r, hr⟩ := State.topJava?_eq_some.mp hg0
  have hl9 : e.platform.stackLimits (T.setVm s.vm).me = e.platform.stackLimits s.me := X.limits
  have hb9 : (T.setVm s.vm).me.stackBytes = s.me.stackBytes := X.bytes
  refine ⟨X.admits, X.cas, X.clock, hF, ?_, X.hears, X.method, X.code, X.here, X.tail, X.warmed, ?_, ?_, ?_⟩
  · have h := X.room
    have hU : ((T.setVm s.vm).setFrames (.invoking m args :: below)).localsInUse = s.localsInUse := by
      rw [State.localsInUse_invoking hF (meth := meth) (c := c) X.method X.code, State.localsInUse_invoking X.frames X.method X.code]
    simp only [State.hasRoom, Bool.and_eq_true, decide_eq_true_eq] at h ⊢
    obtain ⟨⟨⟨⟨h1, h2, h3, h4, h5, h6⟩, h7⟩, h8⟩, h9⟩ := h
    rw [X.frames, List.length_cons] at h2 h3
    have q1 := X.heapSize
    have q2 := X.used
    simp only [hF, hU, List.length_cons, State.stackLimits_setFrames, State.stackBytes_setFrames, hl9, hb9]
    refine ⟨⟨⟨⟨by omega, by omega, by omega, by omega, by omega, h6⟩, ?_⟩, ?_⟩, X.book⟩
    · show T.heap.size + R'.cells ≤ e.platform.maxCells
      omega
    · show T.slotsUsed + R'.slots ≤ e.platform.maxSlots
      omega
  · rw [State.stackLimits_setFrames]; rfl
  · rw [State.stackBytes_setFrames]; rfl
  · refine ⟨?_, Nat.le_refl _, Nat.le_refl _, ?_, ?_, fun a c9 h9 => ⟨c9, h9, rfl, rfl, fun _ _ => rfl⟩⟩
    · obtain ⟨t, ht, -⟩ := State.frames_cons hr
      show T.setVm s.vm = { ((T.setVm s.vm).setFrames (.invoking m args :: below)).setFrames (T.setVm s.vm).frames with heap := T.heap, slotsUsed := T.slotsUsed }
      rw [State.setFrames_setFrames, State.setFrames_self ht]
      rfl
    · show T.slotsUsed = T.slotsUsed + ((T.heap.toList.drop T.heap.size).map (·.slots.size)).sum
      rw [List.drop_eq_nil_of_le (Nat.le_of_eq Array.length_toList)]
      rfl
    · show ((T.heap.toList.drop T.heap.size).map (·.slots.size)).sum ≤ 0
      rw [List.drop_eq_nil_of_le (Nat.le_of_eq Array.length_toList)]
      exact Nat.le_refl _
/-- 'throw new E()': new; dup; invokespecial; athrow -/
theorem vx_throw0 {cc : ByteArray} {pc : Nat} (hexec : p.tables.exec = Jvm.exec) (hb : c.code = cc) (hl : l.stackTraces = false) {own cls : String} {names : List String} {ik ic mc ms : Nat} {A : Nat → Prop}
    (hown : s.vm.findClass own = some m.cls) (hcls : Bundle.fit cls = true) (hnames : ∀ n ∈ names, Bundle.fit n = true)
    (hk : (Cond.classLink own ik cls).before args s = true) (hini : (Cond.initialized cls).before args s = true) (hat : ∀ w ∈ vx_at0 own ic cls names, w.before args s = true)
    (hgood : ∀ w ∈ Cond.classLink own ik cls :: Cond.initialized cls :: vx_at0 own ic cls names, vx_ot w = true)
    (hU : vx_Zq Bundle.tN "UNASSIGNED_STACK" Bundle.steD A s s.heap) (hN : vx_Zq Bundle.tN "SUPPRESSED_SENTINEL" Bundle.listD A s s.heap) (hS : va_S A s.heap H locs) (hsize : ls.size = c.maxLocals)
    (d0 : decode cc pc = .ok (.new ik, 3)) (d3 : decode cc (pc + 3) = .ok (.dup, 1)) (d4 : decode cc (pc + 4) = .ok (.invokespecial ic, 3)) (d7 : decode cc (pc + 7) = .ok (.athrow, 1))
    (hout : ∀ x ∈ c.exceptionTable.toList, covers x (pc + 7) = false)
    (hRframes : names.length + 3 < R.frames) (hRlocals : (rest.map fun v => v.category).sum + (13 * (names.length + 1) + 42) ≤ R.locals) (hRcells : cells + 1 ≤ R.cells) (hRslots : slots + 6 ≤ R.slots) (hlocks : meth.locks = false)
    (hx : ∀ t : State, s.vm.Alike t.vm → H.size ≤ t.heap.size → (∀ q : Nat, q < H.size → t.heap[q]? = H[q]?) → XC cls s t)
    (hf : ∀ z ∈ locs, free z.base) (hc : cells + 1 ≤ mc) (hs : slots + 6 ≤ ms) :
    W p l e R s m args below meth c H locs cells slots (vx_MQ below Qc XC args s mc ms free) (F0 m pc ls rest) := by
  intro T hT X
  have htr : e.platform.stackTraces = false := (show e.platform.stackTraces = l.stackTraces by rw [X.admits.platform]).trans hl
  have Y := vx_rebase X (R' := { frames := R.frames, locals := R.locals, cells := 1, slots := 6 }) (Nat.le_refl _) (Nat.le_refl _) hRcells hRslots
  obtain ⟨s', hA⟩ : ∃ z, z = (T.setVm s.vm).setFrames (.invoking m args :: below) := ⟨_, rfl⟩
  rw [← hA] at Y
  have hvm : s'.vm = s.vm := by rw [hA]; rfl
  have hhp : s'.heap = H := by rw [hA]; exact hT
  have hW0 : s.WarmedH s'.vm := by rw [hvm]; exact State.WarmedH.refl s
  have hat' : ∀ w ∈ vx_at0 own ic cls names, w.before args s' = true := fun w hw => vx_ot_at hW0 hvm.symm (hgood w (List.mem_cons_of_mem _ (List.mem_cons_of_mem _ hw))) (hat w hw)
  have hk' : (Cond.classLink own ik cls).before args s' = true := vx_ot_at hW0 hvm.symm (hgood _ List.mem_cons_self) hk
  have hini' : (Cond.initialized cls).before args s' = true := vx_ot_at hW0 hvm.symm (hgood _ (List.mem_cons_of_mem _ List.mem_cons_self)) hini
  have hU' : vx_Zq Bundle.tN "UNASSIGNED_STACK" Bundle.steD A s' s'.heap := by rw [hhp]; exact vx_Zq.moved hW0.alike (hU.kept hS.2.1)
  have hN' : vx_Zq Bundle.tN "SUPPRESSED_SENTINEL" Bundle.listD A s' s'.heap := by rw [hhp]; exact vx_Zq.moved hW0.alike (hN.kept hS.2.1)
  have h : ∀ w ∈ Bundle.ownAtoms0 own ic cls names, w.before args s' = true := vx_own hat' (vx_isRefq hU'.1) (vx_isRefq hN'.1) hU'.2.word hN'.2.word
  have hown' : s'.vm.findClass own = some m.cls := by rw [hvm]; exact hown
  have hins : (Cond.instantiable cls 6).before args s' = true := h _ (by simp [Bundle.ownAtoms0])
  obtain ⟨vm₁, cX, kX, hfX, hkX, -, -, X₁, st1⟩ := Y.newCold hexec (own := own) (C := cls) (index := ik) (n := 6) hown' hk' hins hini'
    (g := F0 m pc ls rest) rfl (by rw [hb]; exact d0) (Nat.le_refl _) (Nat.le_refl _)
  generalize hT1 : (T.setVm vm₁).pushCell { cls := cX, slots := kX.instanceTypes.map defaultValue, vm := .none } = T1 at X₁ st1
  have hcat : (Value.ref T.heap.size).category = 1 := rfl
  have hcellA : T1.heap[T.heap.size]? = some (freshCell cX kX) := by rw [← hT1]; exact State.heap_pushCell_size _ _
  have d3' : decode c.code (pc + 3) = .ok (.dup, 1) := by rw [hb]; exact d3
  obtain ⟨U, hsteps, hrun, hend, hW, hsame, ce, hce, hO⟩ := X₁.ctorThrow0 hexec htr (own := own) (cls := cls) (names := names) (ic := ic) hown' hcls hnames h (fun x hx => nomatch hx) hfX hkX hcellA (by rw [hhp, hT]; exact Nat.le_refl _)
    (g := { method := m, pc := pc + 4, locals := ls, stack := .ref T.heap.size :: .ref T.heap.size :: rest, locked := none }) rfl hsize rfl rfl (rest := rest) rfl
    (by rw [hb]; exact d4) (by rw [hb]; exact d7) hout hRframes (by simp only [List.map_cons, List.sum_cons, hcat]; omega) hlocks
  obtain ⟨f1, f2⟩ := vx_frame hsame
  rw [hhp] at f1 f2
  have hWs : s.WarmedH U.vm := State.WarmedH.trans hW0 hW
  have hcl : s.vm.findClass cls = some ce.cls := by
    have h9 := hO.cls
    rw [hvm] at h9
    exact h9
  have hall : s.sameButNew ({ U with vm := s.vm } : State) locs mc ms := by
    subst hA
    obtain ⟨e1, e2⟩ := hsame
    rw [State.setFrames_setFrames] at e1
    have h2 : (T.setVm s.vm).sameButNew ({ U with vm := s.vm } : State) [] (0 + 1) (0 + 6) := ⟨e1, e2⟩
    have h3 := X.same.trans h2
    rw [List.append_nil] at h3
    exact h3.mono hc hs
  refine ⟨U, ?_, .threw T.heap.size, hrun, hend, Or.inr ⟨T.heap.size, rfl, cls, ce, locs, hx U hWs.alike f1 (fun q hq => f2 q hq (fun z hz => nomatch hz)), hce, hO.vm, hcl, hWs, hall, hf⟩⟩
  refine st1 _ ?_
  show Steps p.tables e below (T1.setTop { method := m, pc := pc + 3, locals := ls, stack := .ref T.heap.size :: rest, locked := none }) _
  jvm_step X₁.here [X₁.here.top, hexec, d3', Value.category]
  exact hsteps
/-- 'throw new E("text")': new; dup; ldc; invokespecial; athrow -/
theorem vx_throwS {cc : ByteArray} {pc : Nat} (hexec : p.tables.exec = Jvm.exec) (hb : c.code = cc) (hl : l.stackTraces = false) {own cls text : String} {names : List String} {ik is ic mc ms sa : Nat} {A : Nat → Prop}
    (hown : s.vm.findClass own = some m.cls) (hcls : Bundle.fit cls = true) (hnames : ∀ n ∈ names, Bundle.fit n = true)
    (hk : (Cond.classLink own ik cls).before args s = true) (hini : (Cond.initialized cls).before args s = true) (hstr : vk_R own is text sa s) (hat : ∀ w ∈ vx_atS own ic cls names, w.before args s = true)
    (hgood : ∀ w ∈ Cond.classLink own ik cls :: Cond.initialized cls :: vx_atS own ic cls names, vx_ot w = true)
    (hU : vx_Zq Bundle.tN "UNASSIGNED_STACK" Bundle.steD A s s.heap) (hN : vx_Zq Bundle.tN "SUPPRESSED_SENTINEL" Bundle.listD A s s.heap) (hS : va_S A s.heap H locs) (hsize : ls.size = c.maxLocals)
    (d0 : decode cc pc = .ok (.new ik, 3)) (d3 : decode cc (pc + 3) = .ok (.dup, 1)) (d4 : decode cc (pc + 4) = .ok (.ldc is, 2)) (d6 : decode cc (pc + 6) = .ok (.invokespecial ic, 3)) (d9 : decode cc (pc + 9) = .ok (.athrow, 1))
    (hout : ∀ x ∈ c.exceptionTable.toList, covers x (pc + 9) = false)
    (hRframes : names.length + 3 < R.frames) (hRlocals : (rest.map fun v => v.category).sum + (13 * (names.length + 1) + 43) ≤ R.locals) (hRcells : cells + 1 ≤ R.cells) (hRslots : slots + 6 ≤ R.slots) (hlocks : meth.locks = false)
    (hx : ∀ t : State, s.vm.Alike t.vm → H.size ≤ t.heap.size → (∀ q : Nat, q < H.size → t.heap[q]? = H[q]?) → XC cls s t)
    (hf : ∀ z ∈ locs, free z.base) (hc : cells + 1 ≤ mc) (hs : slots + 6 ≤ ms) :
    W p l e R s m args below meth c H locs cells slots (vx_MQ below Qc XC args s mc ms free) (F0 m pc ls rest) := by
  intro T hT X
  have htr : e.platform.stackTraces = false := (show e.platform.stackTraces = l.stackTraces by rw [X.admits.platform]).trans hl
  have Y := vx_rebase X (R' := { frames := R.frames, locals := R.locals, cells := 1, slots := 6 }) (Nat.le_refl _) (Nat.le_refl _) hRcells hRslots
  obtain ⟨s', hA⟩ : ∃ z, z = (T.setVm s.vm).setFrames (.invoking m args :: below) := ⟨_, rfl⟩
  rw [← hA] at Y
  have hvm : s'.vm = s.vm := by rw [hA]; rfl
  have hhp : s'.heap = H := by rw [hA]; exact hT
  have hW0 : s.WarmedH s'.vm := by rw [hvm]; exact State.WarmedH.refl s
  have hat' : ∀ w ∈ vx_atS own ic cls names, w.before args s' = true := fun w hw => vx_ot_at hW0 hvm.symm (hgood w (List.mem_cons_of_mem _ (List.mem_cons_of_mem _ hw))) (hat w hw)
  have hk' : (Cond.classLink own ik cls).before args s' = true := vx_ot_at hW0 hvm.symm (hgood _ List.mem_cons_self) hk
  have hini' : (Cond.initialized cls).before args s' = true := vx_ot_at hW0 hvm.symm (hgood _ (List.mem_cons_of_mem _ List.mem_cons_self)) hini
  have hU' : vx_Zq Bundle.tN "UNASSIGNED_STACK" Bundle.steD A s' s'.heap := by rw [hhp]; exact vx_Zq.moved hW0.alike (hU.kept hS.2.1)
  have hN' : vx_Zq Bundle.tN "SUPPRESSED_SENTINEL" Bundle.listD A s' s'.heap := by rw [hhp]; exact vx_Zq.moved hW0.alike (hN.kept hS.2.1)
  have h : ∀ w ∈ Bundle.ownAtoms own ic cls names, w.before args s' = true := vx_own hat' (vx_isRefq hU'.1) (vx_isRefq hN'.1) hU'.2.word hN'.2.word
  have hown' : s'.vm.findClass own = some m.cls := by rw [hvm]; exact hown
  have hins : (Cond.instantiable cls 6).before args s' = true := h _ (by simp [Bundle.ownAtoms])
  obtain ⟨vm₁, cX, kX, hfX, hkX, -, -, X₁, st1⟩ := Y.newCold hexec (own := own) (C := cls) (index := ik) (n := 6) hown' hk' hins hini'
    (g := F0 m pc ls rest) rfl (by rw [hb]; exact d0) (Nat.le_refl _) (Nat.le_refl _)
  generalize hT1 : (T.setVm vm₁).pushCell { cls := cX, slots := kX.instanceTypes.map defaultValue, vm := .none } = T1 at X₁ st1
  have hcat : (Value.ref T.heap.size).category = 1 := rfl
  have hcellA : T1.heap[T.heap.size]? = some (freshCell cX kX) := by rw [← hT1]; exact State.heap_pushCell_size _ _
  have d3' : decode c.code (pc + 3) = .ok (.dup, 1) := by rw [hb]; exact d3
  have d4' : decode c.code (pc + 4) = .ok (.ldc is, 2) := by rw [hb]; exact d4
  have hstr' : vk_R own is text sa s' := vk_R.warm hW0 hstr
  obtain ⟨U, hsteps, hrun, hend, hW, hsame, ce, hce, hO⟩ := X₁.ctorThrowS hexec htr (own := own) (cls := cls) (names := names) (ic := ic) hown' hcls hnames h (fun x hx => nomatch hx) hfX hkX hcellA (by rw [hhp, hT]; exact Nat.le_refl _) (msg := .ref sa) rfl
    (g := { method := m, pc := pc + 6, locals := ls, stack := .ref sa :: .ref T.heap.size :: .ref T.heap.size :: rest, locked := none }) rfl hsize rfl rfl (rest := rest) rfl
    (by rw [hb]; exact d6) (by rw [hb]; exact d9) hout hRframes (by simp only [List.map_cons, List.sum_cons, hcat]; omega) hlocks
  obtain ⟨f1, f2⟩ := vx_frame hsame
  rw [hhp] at f1 f2
  have hWs : s.WarmedH U.vm := State.WarmedH.trans hW0 hW
  have hcl : s.vm.findClass cls = some ce.cls := by
    have h9 := hO.cls
    rw [hvm] at h9
    exact h9
  have hall : s.sameButNew ({ U with vm := s.vm } : State) locs mc ms := by
    subst hA
    obtain ⟨e1, e2⟩ := hsame
    rw [State.setFrames_setFrames] at e1
    have h2 : (T.setVm s.vm).sameButNew ({ U with vm := s.vm } : State) [] (0 + 1) (0 + 6) := ⟨e1, e2⟩
    have h3 := X.same.trans h2
    rw [List.append_nil] at h3
    exact h3.mono hc hs
  refine ⟨U, ?_, .threw T.heap.size, hrun, hend, Or.inr ⟨T.heap.size, rfl, cls, ce, locs, hx U hWs.alike f1 (fun q hq => f2 q hq (fun z hz => nomatch hz)), hce, hO.vm, hcl, hWs, hall, hf⟩⟩
  refine st1 _ ?_
  show Steps p.tables e below (T1.setTop { method := m, pc := pc + 3, locals := ls, stack := .ref T.heap.size :: rest, locked := none }) _
  jvm_step X₁.here [X₁.here.top, hexec, d3', Value.category]
  exact X₁.ldcString hexec (own := own) (text := text) (index := is) (a := sa) hown' hstr'.1 hstr'.2
    (g := { method := m, pc := pc + 4, locals := ls, stack := .ref T.heap.size :: .ref T.heap.size :: rest, locked := none }) rfl d4' _ hsteps
/-- 'throw new E("text")', the text by a wide index -/
theorem vx_throwSW {cc : ByteArray} {pc : Nat} (hexec : p.tables.exec = Jvm.exec) (hb : c.code = cc) (hl : l.stackTraces = false) {own cls text : String} {names : List String} {ik is ic mc ms sa : Nat} {A : Nat → Prop}
    (hown : s.vm.findClass own = some m.cls) (hcls : Bundle.fit cls = true) (hnames : ∀ n ∈ names, Bundle.fit n = true)
    (hk : (Cond.classLink own ik cls).before args s = true) (hini : (Cond.initialized cls).before args s = true) (hstr : vk_R own is text sa s) (hat : ∀ w ∈ vx_atS own ic cls names, w.before args s = true)
    (hgood : ∀ w ∈ Cond.classLink own ik cls :: Cond.initialized cls :: vx_atS own ic cls names, vx_ot w = true)
    (hU : vx_Zq Bundle.tN "UNASSIGNED_STACK" Bundle.steD A s s.heap) (hN : vx_Zq Bundle.tN "SUPPRESSED_SENTINEL" Bundle.listD A s s.heap) (hS : va_S A s.heap H locs) (hsize : ls.size = c.maxLocals)
    (d0 : decode cc pc = .ok (.new ik, 3)) (d3 : decode cc (pc + 3) = .ok (.dup, 1)) (d4 : decode cc (pc + 4) = .ok (.ldc_w is, 3)) (d7 : decode cc (pc + 7) = .ok (.invokespecial ic, 3)) (d10 : decode cc (pc + 10) = .ok (.athrow, 1))
    (hout : ∀ x ∈ c.exceptionTable.toList, covers x (pc + 10) = false)
    (hRframes : names.length + 3 < R.frames) (hRlocals : (rest.map fun v => v.category).sum + (13 * (names.length + 1) + 43) ≤ R.locals) (hRcells : cells + 1 ≤ R.cells) (hRslots : slots + 6 ≤ R.slots) (hlocks : meth.locks = false)
    (hx : ∀ t : State, s.vm.Alike t.vm → H.size ≤ t.heap.size → (∀ q : Nat, q < H.size → t.heap[q]? = H[q]?) → XC cls s t)
    (hf : ∀ z ∈ locs, free z.base) (hc : cells + 1 ≤ mc) (hs : slots + 6 ≤ ms) :
    W p l e R s m args below meth c H locs cells slots (vx_MQ below Qc XC args s mc ms free) (F0 m pc ls rest) := by
  intro T hT X
  have htr : e.platform.stackTraces = false := (show e.platform.stackTraces = l.stackTraces by rw [X.admits.platform]).trans hl
  have Y := vx_rebase X (R' := { frames := R.frames, locals := R.locals, cells := 1, slots := 6 }) (Nat.le_refl _) (Nat.le_refl _) hRcells hRslots
  obtain ⟨s', hA⟩ : ∃ z, z = (T.setVm s.vm).setFrames (.invoking m args :: below) := ⟨_, rfl⟩
  rw [← hA] at Y
  have hvm : s'.vm = s.vm := by rw [hA]; rfl
  have hhp : s'.heap = H := by rw [hA]; exact hT
  have hW0 : s.WarmedH s'.vm := by rw [hvm]; exact State.WarmedH.refl s
  have hat' : ∀ w ∈ vx_atS own ic cls names, w.before args s' = true := fun w hw => vx_ot_at hW0 hvm.symm (hgood w (List.mem_cons_of_mem _ (List.mem_cons_of_mem _ hw))) (hat w hw)
  have hk' : (Cond.classLink own ik cls).before args s' = true := vx_ot_at hW0 hvm.symm (hgood _ List.mem_cons_self) hk
  have hini' : (Cond.initialized cls).before args s' = true := vx_ot_at hW0 hvm.symm (hgood _ (List.mem_cons_of_mem _ List.mem_cons_self)) hini
  have hU' : vx_Zq Bundle.tN "UNASSIGNED_STACK" Bundle.steD A s' s'.heap := by rw [hhp]; exact vx_Zq.moved hW0.alike (hU.kept hS.2.1)
  have hN' : vx_Zq Bundle.tN "SUPPRESSED_SENTINEL" Bundle.listD A s' s'.heap := by rw [hhp]; exact vx_Zq.moved hW0.alike (hN.kept hS.2.1)
  have h : ∀ w ∈ Bundle.ownAtoms own ic cls names, w.before args s' = true := vx_own hat' (vx_isRefq hU'.1) (vx_isRefq hN'.1) hU'.2.word hN'.2.word
  have hown' : s'.vm.findClass own = some m.cls := by rw [hvm]; exact hown
  have hins : (Cond.instantiable cls 6).before args s' = true := h _ (by simp [Bundle.ownAtoms])
  obtain ⟨vm₁, cX, kX, hfX, hkX, -, -, X₁, st1⟩ := Y.newCold hexec (own := own) (C := cls) (index := ik) (n := 6) hown' hk' hins hini'
    (g := F0 m pc ls rest) rfl (by rw [hb]; exact d0) (Nat.le_refl _) (Nat.le_refl _)
  generalize hT1 : (T.setVm vm₁).pushCell { cls := cX, slots := kX.instanceTypes.map defaultValue, vm := .none } = T1 at X₁ st1
  have hcat : (Value.ref T.heap.size).category = 1 := rfl
  have hcellA : T1.heap[T.heap.size]? = some (freshCell cX kX) := by rw [← hT1]; exact State.heap_pushCell_size _ _
  have d3' : decode c.code (pc + 3) = .ok (.dup, 1) := by rw [hb]; exact d3
  have d4' : decode c.code (pc + 4) = .ok (.ldc_w is, 3) := by rw [hb]; exact d4
  have hstr' : vk_R own is text sa s' := vk_R.warm hW0 hstr
  obtain ⟨U, hsteps, hrun, hend, hW, hsame, ce, hce, hO⟩ := X₁.ctorThrowS hexec htr (own := own) (cls := cls) (names := names) (ic := ic) hown' hcls hnames h (fun x hx => nomatch hx) hfX hkX hcellA (by rw [hhp, hT]; exact Nat.le_refl _) (msg := .ref sa) rfl
    (g := { method := m, pc := pc + 7, locals := ls, stack := .ref sa :: .ref T.heap.size :: .ref T.heap.size :: rest, locked := none }) rfl hsize rfl rfl (rest := rest) rfl
    (by rw [hb]; exact d7) (by rw [hb]; exact d10) hout hRframes (by simp only [List.map_cons, List.sum_cons, hcat]; omega) hlocks
  obtain ⟨f1, f2⟩ := vx_frame hsame
  rw [hhp] at f1 f2
  have hWs : s.WarmedH U.vm := State.WarmedH.trans hW0 hW
  have hcl : s.vm.findClass cls = some ce.cls := by
    have h9 := hO.cls
    rw [hvm] at h9
    exact h9
  have hall : s.sameButNew ({ U with vm := s.vm } : State) locs mc ms := by
    subst hA
    obtain ⟨e1, e2⟩ := hsame
    rw [State.setFrames_setFrames] at e1
    have h2 : (T.setVm s.vm).sameButNew ({ U with vm := s.vm } : State) [] (0 + 1) (0 + 6) := ⟨e1, e2⟩
    have h3 := X.same.trans h2
    rw [List.append_nil] at h3
    exact h3.mono hc hs
  refine ⟨U, ?_, .threw T.heap.size, hrun, hend, Or.inr ⟨T.heap.size, rfl, cls, ce, locs, hx U hWs.alike f1 (fun q hq => f2 q hq (fun z hz => nomatch hz)), hce, hO.vm, hcl, hWs, hall, hf⟩⟩
  refine st1 _ ?_
  show Steps p.tables e below (T1.setTop { method := m, pc := pc + 3, locals := ls, stack := .ref T.heap.size :: rest, locked := none }) _
  jvm_step X₁.here [X₁.here.top, hexec, d3', Value.category]
  exact X₁.ldcStringW hexec (own := own) (text := text) (index := is) (a := sa) hown' hstr'.1 hstr'.2
    (g := { method := m, pc := pc + 4, locals := ls, stack := .ref T.heap.size :: .ref T.heap.size :: rest, locked := none }) rfl d4' _ hsteps
end Ends
section Bodies
variable {l : Launch}
theorem vx_ofW {y : MethodName} {ws ws' : List Cond} {rm : Room} {Pc : Array Value → State → Prop} {Qc : Array Value → State → Outcome → State → Prop} {XC : String → State → State → Prop} {mc ms : Nat} {free : Addr → Prop} {cc : ByteArray} {maxL : Nat} {ret : Option FieldType}
    (hy : plainName y.cls = true) (hw : ws = Cond.code y cc maxL ret :: ws')
    (body : ∀ p e s m args below meth c s₁, BodyLoose p l y (headSpec ws rm) cc maxL ret e s m args below meth c s₁ → c.maxLocals = maxL → (∀ x ∈ c.exceptionTable.toList, False) → Pc args s →
      W p l e (headSpec ws rm).room s m args below meth c s.heap [] 0 0 (vx_MQ below Qc XC args s mc ms free) (entryFrame m args maxL)) : vx_Met l y ws rm Pc Qc XC mc ms free := by
  refine MetFree.of_bodyS (code := cc) (maxLocals := maxL) (ret := ret) hy ?_ ?_
  · intro args s m h hn
    obtain ⟨meth, c, h1, h2, h3, h4, h5, h6, -, -⟩ := Cond.code_spec hn (atoms_spec (ws := ws) h _ (by rw [hw]; exact List.mem_cons_self))
    exact ⟨meth, c, h1, h2, h3, h4, h5, h6⟩
  · intro p e s m args below meth c s₁ B hml hP _
    have hh0 : s₁.heap = s.heap := by rw [B.state]; rfl
    have ht : ∀ x ∈ c.exceptionTable.toList, False := by
      obtain ⟨meth9, c9, h1, h2, -, -, -, -, h7, -⟩ := Cond.code_spec B.named (atoms_spec (ws := ws) B.pre _ (by rw [hw]; exact List.mem_cons_self))
      cases Option.some.inj (h1.symm.trans B.method)
      cases Option.some.inj (h2.symm.trans (Stand.of_body B).code)
      intro x hx
      rw [Array.isEmpty_iff.mp h7] at hx
      cases hx
    obtain ⟨t, a1, o, b1, b2, b3⟩ := body p e s m args below meth c s₁ B hml ht hP s₁ hh0 (Stand.of_body B)
    exact ⟨t, o, a1, b1, b2, b3⟩
/-- the table of a body with handlers -/
theorem vx_table {p : Program} {x y : MethodName} {S : Spec} {cc bytes : ByteArray} {maxL maxL' : Nat} {ret ret' : Option FieldType} {e : Env} {s s₁ : State} {m : MethodId} {args : Array Value} {below : List Frame} {meth : Method} {c : Code} {hh : List (Nat × Nat × Nat × Nat)}
    (B : BodyLoose p l y S cc maxL ret e s m args below meth c s₁) (h : (Cond.codeWith y bytes maxL' ret' hh).before args s = true) : c.exceptionTable.toList = tableOf hh := by
  obtain ⟨m9, meth9, c9, hn9, h1, h2, -, -, h6, -⟩ := Cond.codeWith_spec h
  cases Option.some.inj (hn9.symm.trans B.named)
  cases Option.some.inj (h1.symm.trans B.method)
  cases Option.some.inj (h2.symm.trans (Stand.of_body B).code)
  rw [← h6, table_eq]
end Bodies
end VXA
/-! ===== END ===== -/
/-! ===== BEGIN a static call of a method with an exception table ===== -/
section VXS
variable {p : Program} {l : Launch} {e : Env} {R : Room} {s : State} {m : MethodId} {args : Array Value} {below : List Frame} {meth : Method} {c : Code} {T : State} {H : Heap} {locs : List Loc} {cells slots : Nat}
abbrev vx_CSW (R : Room) (s : State) (args : Array Value) (own : String) (index : Nat) (y : MethodName) (bytes : ByteArray) (maxL : Nat) (ret : Option FieldType) (hh : List (Nat × Nat × Nat × Nat)) (ws : List Cond) (rm : Room) (mc ms n : Nat) : Prop :=
  (rm.cells = mc ∧ rm.slots = ms ∧ rm.frames + 1 ≤ R.frames ∧ 8 + (maxL + 11) + rm.locals ≤ R.locals ∧ (∀ w ∈ ws, ∀ (a' : Array Value) (U : State), s.WarmedH U.vm → w.before a' U = true) ∧ Cond.codeWith y bytes maxL ret hh ∈ ws) ∧
  (Cond.codeWith y bytes maxL ret hh).before args s = true ∧ (Cond.initialized y.cls).before args s = true ∧ (y.cls ≠ "java/lang/invoke/MethodHandle" ∧ y.cls ≠ "java/lang/invoke/VarHandle") ∧
  (∀ sig, parseMethodDescriptor y.desc = some sig → n = sig.parameters.length) ∧ (Cond.methodLink own index y).before args s = true ∧ (Cond.static y).before args s = true
theorem vx_cwSW {own : String} {index maxL mc ms : Nat} {y : MethodName} {bytes : ByteArray} {ret : Option FieldType} {hh : List (Nat × Nat × Nat × Nat)} {Ts ws ws' : List Cond} {rm : Room} (n : Nat) (ht : ∀ w ∈ Ts, w.before args s = true) (hT : GoodIn Ts (va_wsS own index y ws)) (hw : ws = Cond.codeWith y bytes maxL ret hh :: ws') (hrc : rm.cells = mc) (hrs : rm.slots = ms)
    (hd : y.cls ≠ "java/lang/invoke/MethodHandle" ∧ y.cls ≠ "java/lang/invoke/VarHandle" ∧ (parseMethodDescriptor y.desc).map (fun d => d.parameters.length) = some n) (hR : rm.frames + 1 ≤ R.frames ∧ 8 + (maxL + 11) + rm.locals ≤ R.locals) :
    vx_CSW R s args own index y bytes maxL ret hh ws rm mc ms n := by
  have ok : ∀ w ∈ va_wsS own index y ws, w.before args s = true := fun w h => ht w (hT w h).1
  have hG : GoodIn Ts ws := fun w h => hT w (by unfold va_wsS; exact List.mem_append_right _ h)
  have hc : Cond.codeWith y bytes maxL ret hh ∈ ws := by rw [hw]; exact List.mem_cons_self
  refine ⟨⟨hrc, hrs, hR.1, hR.2, pay_in ht hG, hc⟩, ht _ (hG _ hc).1, ok _ (by simp [va_wsS]), ⟨hd.1, hd.2.1⟩, fun sig h => ?_, ok _ (by simp [va_wsS]), ok _ (by simp [va_wsS])⟩
  have h2 := hd.2.2
  rw [h] at h2
  exact (Option.some.inj h2).symm
theorem vx_callSW (X : Stand p l e R s m args below meth c T locs cells slots) (hexec : p.tables.exec = Jvm.exec) {own : String} {index : Nat} {y : MethodName} {bytes : ByteArray} {maxL : Nat} {ret : Option FieldType} {hh : List (Nat × Nat × Nat × Nat)}
    (hown : s.vm.findClass own = some m.cls) (hlink : (Cond.methodLink own index y).before args s = true) (hstat : (Cond.static y).before args s = true) (hinit : (Cond.initialized y.cls).before args s = true)
    (hcode : (Cond.codeWith y bytes maxL ret hh).before args s = true) (hy : y.cls ≠ "java/lang/invoke/MethodHandle" ∧ y.cls ≠ "java/lang/invoke/VarHandle")
    {W9 : Nat} {Pre : Pt → Array Value → Prop} {Post : Pt → Array Value → Option Value → Pt → Prop} (hK : Back l R p e below s args y 3 W9 Pre Post)
    {g : JFrame} (hg : g.method = m) (hsize : g.locals.size = c.maxLocals) {argsL rest : List Value} (hlen : ∀ sig, parseMethodDescriptor y.desc = some sig → argsL.length = sig.parameters.length)
    (hstack : g.stack = argsL.reverse ++ rest) (hW : 2 * g.monitorRoom + (rest.map fun v => v.category).sum ≤ W9) (hdg : decode c.code g.pc = .ok (.invokestatic index, 3))
    (hpre : ∀ vm₁, s.WarmedH vm₁ → Pre ⟨T.setVm vm₁, locs, cells, slots⟩ argsL.toArray) :
    ∃ (v : Option Value) (vm₁ : Vm) (B : Pt), s.WarmedH vm₁ ∧ Stand p l e R s m args below meth c B.U B.locs B.cells B.slots ∧ Post ⟨T.setVm vm₁, locs, cells, slots⟩ argsL.toArray v B ∧
      ∀ target, Steps p.tables e below (B.U.setTop { g with pc := g.pc + 3, stack := v.toList ++ rest }) target → Steps p.tables e below (T.setTop g) target := by
  obtain ⟨mk, methM, cM, hnamed, hmethM, -, -, -, -, -, -, hsigM⟩ := Cond.codeWith_spec hcode
  have hstatic : methM.isStatic = true := Cond.static_spec hnamed hmethM hstat
  obtain ⟨kP, hkP, -⟩ := className_of_methodNamed hnamed
  have hinitP : kP.init = .initialized := Cond.initialized_spec (findClass_of_methodNamed hnamed) hkP hinit
  obtain ⟨vm₁, X₁, hstep₁⟩ := X.invokestatic hexec hown hlink hnamed hmethM hstatic hkP hinitP hy (g := g) hg (argsL := argsL) (rest := rest) (hlen _ hsigM) hstack hdg
  obtain ⟨v, B, X', hpost, hsteps⟩ := hK m meth c ⟨T.setVm vm₁, locs, cells, slots⟩ { g with stack := rest } (.invokestatic index) mk argsL.toArray X₁ hg hsize hdg hW (X₁.named hnamed) (hpre vm₁ X₁.warmed)
  exact ⟨v, vm₁, B, X₁.warmed, X', hpost, fun target h => hstep₁ _ fun acts => by rw [doInvoke_state]; exact hsteps.trans h⟩
theorem vx_runSW {y : MethodName} {bytes cc : ByteArray} {maxL nL mc ms n index : Nat} {ret : Option FieldType} {hh : List (Nat × Nat × Nat × Nat)} {ws : List Cond} {rm : Room} {Pc : Array Value → State → Prop} {Qc : Array Value → State → Outcome → State → Prop} {free : Addr → Prop} {Ts : List Cond} {own : String} {As rest : List Value} {g : JFrame}
    (S : CallFix p m c cc nL s args Ts own) (hM : Met l y ws rm Pc Qc mc ms free) (cw : vx_CSW R s args own index y bytes maxL ret hh ws rm mc ms n) (hp : PreS s H Pc As)
    (hg : g.method = m) (hn : As.length = n) (hsize : g.locals.size = nL) (hstack : g.stack = As.reverse ++ rest) (hW : 2 * g.monitorRoom + (rest.map fun v => v.category).sum ≤ 8) (hdg : decode cc g.pc = .ok (.invokestatic index, 3)) (hf : cells + mc ≤ R.cells ∧ slots + ms ≤ R.slots) :
    va_Run p l e R s m args below meth c H locs cells slots mc ms g rest (Qc As.toArray) (free) := by
  obtain ⟨⟨hrc, hrs, hfr, hlo, hws, hcw⟩, hcode, hini, hy, hlen, hl, hstt⟩ := cw
  have hK : Back l R p e below s args y 3 8 (PreOf R mc ms Pc) (PostOf Qc mc ms free) := va_backW (hh := hh) (bytes := bytes) (maxL := maxL) (ret := ret) hM hp.1 hrc hrs hfr hlo hws hcw (fun a' U hW => word_at hW (Or.inl (by first | rfl | simp [Cond.onTables, Cond.keeps, Cond.steady])) hini)
  obtain ⟨hx, hb, hml, ho, -⟩ := S
  intro T hT X
  obtain ⟨v, vm₁, ⟨U', l2, c2, s2⟩, hW₁, X', ⟨g', mk, t, L, e1, e2, hq, h1, hL, h2, h3⟩, st⟩ := vx_callSW X hx (hh := hh) (bytes := bytes) (maxL := maxL) (ret := ret) ho hl hstt hini hcode hy hK hg (hsize.trans hml.symm) (argsL := As) (rest := rest) (fun sig h => hn.trans (hlen sig h)) hstack hW (by rw [hb]; exact hdg)
    (fun vm₁ hW₁ => ⟨hf.1, hf.2, hp.2 (T.setVm vm₁) hT hW₁⟩)
  dsimp only [Pt.U, Pt.locs, Pt.cells, Pt.slots] at X' e1 e2 h1 h2 h3 st
  subst h1; subst h2; subst h3
  exact ⟨v, (T.setVm vm₁).calling g' mk As.toArray, t, U', L, hT, X', hL, e1, e2, hq, st⟩
/-- not caught here, past rows that name other classes: it goes on to the caller -/
theorem vx_outP {p : Program} {l : Launch} {e : Env} {R : Room} {s : State} {m : MethodId} {args : Array Value} {below : List Frame} {meth : Method} {c : Code} {H : Heap} {locs : List Loc} {cells slots : Nat} {free : Addr → Prop} {ls : Array Slot} {rest : List Value} {Qc : Array Value → State → Outcome → State → Prop} {XC : String → State → State → Prop}
    {pc : Nat} {own E : String} {ce : Cell} {q : Addr} {mc ms : Nat} (hown : s.vm.findClass own = some m.cls) (hlocks : meth.locks = false)
    (hpass : ∀ z ∈ c.exceptionTable.toList, covers z pc = false ∨ (z.catchType ≠ 0 ∧ ∃ nm : String, (Cond.classLink own z.catchType nm).before args s = true ∧ va_Nc E nm s)) (hcell : H[q]? = some ce) (hv : ce.vm = .none) (hcl : s.vm.findClass E = some ce.cls)
    (hx : ∀ t : State, t.heap = H → s.vm.Alike t.vm → XC E s t) (hf : ∀ z ∈ locs, free z.base) (hc : cells ≤ mc) (hs : slots ≤ ms) :
    vx_W p l e R s m args below meth c H locs cells slots (vx_MQ below Qc XC args s mc ms free) (F0 m pc ls rest) q := by
  intro T hT X
  have hpl : e.platform.magicAccessors = ({} : Platform).magicAccessors := by rw [X.admits.platform]
  obtain ⟨vm', hW', X', st⟩ := X.outThrough hlocks q (g := F0 m pc ls rest) rfl rfl rfl (cell := ce) (by rw [hT]; exact hcell) (by rw [hv]; rfl)
    (by obtain ⟨k9, h9, -⟩ := Vm.findClass_spec hcl; exact ⟨k9, h9⟩) (fun z hz => by
      rcases hpass z hz with h | ⟨hz0, nm, hl1, hn1⟩
      · exact Or.inl h
      · obtain ⟨c6, hc6, hcl6⟩ := Cond.classLink_spec hown hl1 e.platform hpl
        obtain ⟨a8, b8, h1, h2, h3⟩ := hn1
        cases Option.some.inj (h1.symm.trans hcl)
        cases Option.some.inj (h2.symm.trans hc6)
        exact Or.inr ⟨hz0, _, hcl6, h3⟩)
  obtain ⟨g₀, hfr⟩ := X'.frames_eq
  have hcell9 : ((T.setVm vm').setFrames (.throwing q :: below)).heap[q]? = some ce := by
    show T.heap[q]? = some ce
    rw [hT]; exact hcell
  have hend : Ended ((T.setVm vm').setFrames (.throwing q :: below)) below (.threw q) := State.frames_setFrames _ (State.cur_lt_of_frames hfr)
  refine ⟨(T.setVm vm').setFrames (.throwing q :: below), ?_, .threw q, X'.here.running, hend, Or.inr ⟨q, rfl, E, ce, locs, hx _ hT (X'.ends _).1.alike, hcell9, hv, hcl, (X'.ends _).1, (X'.ends _).2.mono hc hs, hf⟩⟩
  rw [X.pushThrowing_eq]
  exact st
/-- a thing of a world lies in the heap -/
theorem vx_lt {D : va_G} {cl : List vw_C} {ws : va_W} {H1 : Heap} (h : va_P D cl ws H1) {k : Nat} {q : Nat × va_E} (hk : ws[k]? = some q) : q.1 < H1.size := (h k q hk).lt
end VXS
/-! ===== END ===== -/
/-! ===== BEGIN methods with a table of their own: called by a name, returning or throwing ===== -/
section VXH
/-! vx_backW, vx_callVX, vx_callSX, vx_callVW, vx_runVW, vx_runVX, vx_runSX, vx_ofWH follow the same proofs as their sisters above (Free/Laws.lean, Shelf42/LK1.lean); vx_outP calls Shelf42/NT130.lean (outThrough). -/
section
variable {l : Launch} {R : Room} {p : Program} {e : Env} {below : List Frame} {s : State} {sargs : Array Value} {y : MethodName} {len W9 : Nat}
theorem vx_backW {ws : List Cond} {rm : Room} {Pc : Array Value → State → Prop} {Qc : Array Value → State → Outcome → State → Prop} {XC : String → State → State → Prop} {mc ms : Nat} {free : Addr → Prop} {bytes : ByteArray} {maxL : Nat} {ret : Option FieldType} {hh : List (Nat × Nat × Nat × Nat)}
    (hM : vx_Met l y ws rm Pc Qc XC mc ms free) (hblind : FrameBlind Pc) (hrc : rm.cells = mc) (hrs : rm.slots = ms)
    (hframes : rm.frames + 1 ≤ R.frames) (hlocals : W9 + (maxL + 11) + rm.locals ≤ R.locals)
    (hws : ∀ w ∈ ws, ∀ a' U, s.WarmedH U.vm → w.before a' U = true) (hcode : Cond.codeWith y bytes maxL ret hh ∈ ws) (hinit : ∀ a' U, s.WarmedH U.vm → (Cond.initialized y.cls).before a' U = true) :
    vx_Back l R p e below s sargs y len W9 (PreOf R mc ms Pc) (PostOf Qc mc ms free) (vx_Post XC mc ms free) := by
  intro m meth c A g ig mk a X hg hsize hdg hW hn hp
  have h1 : (headSpec ws rm).pre.before a A.U = true := atoms_intro fun w hw => hws w hw _ _ X.warmed
  have h2 : (Cond.codeWith y bytes maxL ret hh).before a A.U = true := hws _ hcode _ _ X.warmed
  have h3 : (Cond.initialized y.cls).before a A.U = true := hinit _ _ X.warmed
  have h4 : A.cells + (headSpec ws rm).room.cells ≤ R.cells := by rw [show (headSpec ws rm).room.cells = mc from hrc]; exact hp.1
  have h5 : A.slots + (headSpec ws rm).room.slots ≤ R.slots := by rw [show (headSpec ws rm).room.slots = ms from hrs]; exact hp.2.1
  have hPc : Pc a (A.U.calling g mk a) := hblind _ _ _ _ hp.2.2
  obtain ⟨U, Ls, c0, s0⟩ := A
  dsimp only [Pt.U, Pt.locs, Pt.cells, Pt.slots] at h1 h2 h3 h4 h5 X hn hPc ⊢
  obtain ⟨m9, methY, cY, hn9, hmY, hcY, -, hlY, -⟩ := Cond.codeWith_spec h2
  cases Option.some.inj (hn9.symm.trans hn)
  obtain ⟨kY, hkY, -⟩ := className_of_methodNamed hn
  have hinitY : kY.init = .initialized := Cond.initialized_spec (findClass_of_methodNamed hn) hkY h3
  have h : At U g.method c below := by rw [hg]; exact X.here
  have hlocals9 : W9 + (maxL + 11) + (headSpec ws rm).room.locals ≤ R.locals := hlocals
  have happ : (headSpec ws rm).appliesLoose y e.platform (U.calling g mk a) = true :=
    Spec.appliesLoose_calling (g := g) h hdg hn hkY hinitY
      (X.room_calling (g := g) (R' := (headSpec ws rm).room) hsize hmY hcY hframes (by rw [hlY]; omega) h4 h5) h1
  obtain ⟨mid, hmid⟩ := h.above
  have hfr : (U.setTop g).frames = (.java g :: mid) ++ below := by rw [State.frames_setTop' g h.top, hmid]; rfl
  obtain ⟨o, s₂, hsteps, -, hend, hq⟩ := Steps.callFree hM p X.admits X.cas X.clock (acts := []) hfr happ hPc trivial
  have hq' : vx_Q Qc XC mc ms free a (U.calling g mk a) o s₂ := hq
  rw [State.frames_setTop' g h.top] at hend
  obtain ⟨g₀, hg0⟩ := Option.isSome_iff_exists.mp h.top
  obtain ⟨r, hr⟩ := State.topJava?_eq_some.mp hg0
  have hr' : (({ U with heap := s₂.heap, slotsUsed := s₂.slotsUsed } : State).setVm s₂.vm).frames = .java g₀ :: r := hr
  rcases hq' with ⟨hqc, L, hfe, hL⟩ | ⟨q, rfl, E, ce, L, hx, hce, hcv, hcl, hW₂, hsm, hL⟩
  · obtain ⟨⟨v, rfl⟩, hW₂, e2, q2, q3, q4, q5, q6⟩ := id hfe
    have e3 : s₂ = ({ (U.calling g mk a).setFrames s₂.frames with heap := s₂.heap, slotsUsed := s₂.slotsUsed } : State).setVm s₂.vm := by
      have : s₂ = ({ s₂ with vm := (U.calling g mk a).vm } : State).setVm s₂.vm := rfl
      rw [e2] at this
      exact this
    obtain ⟨c₂, i₂, len₂, hc₂, hd₂, hf₂⟩ := hend
    have hW' : U.WarmedH s₂.vm := hW₂
    have hcc : c₂ = c := by
      have h1 : s₂.code? g.method = U.code? g.method := by
        rw [State.code?_eq, State.code?_eq, hW'.alike.method?]
      exact Option.some.inj (hc₂.symm.trans (h1.trans h.code))
    subst hcc
    have hlen : len₂ = len := by rw [hdg] at hd₂; cases hd₂; rfl
    subst hlen
    have hs₂ : s₂ = (({ U with heap := s₂.heap, slotsUsed := s₂.slotsUsed } : State).setVm s₂.vm).setTop { g with pc := g.pc + len₂, stack := v.toList ++ g.stack } := by
      refine e3.trans ?_
      rw [hf₂, State.calling_eq h.top, State.setFrames_setFrames, State.setTop_of_frames _ hr', hr]
      rfl
    have hsame : U.sameButNew ({ U with heap := s₂.heap, slotsUsed := s₂.slotsUsed } : State) L mc ms := by
      refine ⟨?_, q2, q3, q4, q5, q6⟩
      obtain ⟨t, ht, -⟩ := State.frames_cons hr
      show ({ U with heap := s₂.heap, slotsUsed := s₂.slotsUsed } : State) = { U.setFrames U.frames with heap := s₂.heap, slotsUsed := s₂.slotsUsed }
      rw [State.setFrames_self ht]
    subst hg
    refine Or.inl ⟨v, ⟨(({ U with heap := s₂.heap, slotsUsed := s₂.slotsUsed } : State).setVm s₂.vm), Ls ++ L, c0 + mc, s0 + ms⟩,
      ⟨X.admits, X.cas, X.clock, X.frames, X.room, X.hears, X.method, X.code, (X.here.setHeapUsed s₂.heap s₂.slotsUsed).setVm hW'.alike, X.tail, State.WarmedH.trans X.warmed hW', X.limits, X.bytes, X.same.trans (hsame.setVm s.vm)⟩,
      ⟨g, mk, s₂, L, rfl, rfl, hqc, rfl, hL, rfl, rfl⟩, ?_⟩
    show Steps p.tables e below _ ((({ U with heap := s₂.heap, slotsUsed := s₂.slotsUsed } : State).setVm s₂.vm).setTop { g with pc := g.pc + len₂, stack := v.toList ++ g.stack })
    rw [← hs₂]
    exact hsteps
  · obtain ⟨e2, q2, q3, q4, q5, q6⟩ := id hsm
    have e3 : s₂ = ({ (U.calling g mk a).setFrames s₂.frames with heap := s₂.heap, slotsUsed := s₂.slotsUsed } : State).setVm s₂.vm := by
      have : s₂ = ({ s₂ with vm := (U.calling g mk a).vm } : State).setVm s₂.vm := rfl
      rw [e2] at this
      exact this
    have hf₂ : s₂.frames = .throwing q :: .java g :: U.frames.tail := hend
    have hW' : U.WarmedH s₂.vm := hW₂
    have hs₂ : s₂ = ((({ U with heap := s₂.heap, slotsUsed := s₂.slotsUsed } : State).setVm s₂.vm).setTop g).pushFrame (.throwing q) := by
      refine e3.trans ?_
      rw [hf₂, State.calling_eq h.top, State.setFrames_setFrames, State.pushFrame, State.frames_setTop _ hr', State.setTop_of_frames _ hr', State.setFrames_setFrames, hr]
      rfl
    have hsame : U.sameButNew ({ U with heap := s₂.heap, slotsUsed := s₂.slotsUsed } : State) L mc ms := by
      refine ⟨?_, q2, q3, q4, q5, q6⟩
      obtain ⟨t, ht, -⟩ := State.frames_cons hr
      show ({ U with heap := s₂.heap, slotsUsed := s₂.slotsUsed } : State) = { U.setFrames U.frames with heap := s₂.heap, slotsUsed := s₂.slotsUsed }
      rw [State.setFrames_self ht]
    subst hg
    refine Or.inr ⟨q, ⟨(({ U with heap := s₂.heap, slotsUsed := s₂.slotsUsed } : State).setVm s₂.vm), Ls ++ L, c0 + mc, s0 + ms⟩,
      ⟨X.admits, X.cas, X.clock, X.frames, X.room, X.hears, X.method, X.code, (X.here.setHeapUsed s₂.heap s₂.slotsUsed).setVm hW'.alike, X.tail, State.WarmedH.trans X.warmed hW', X.limits, X.bytes, X.same.trans (hsame.setVm s.vm)⟩,
      ⟨g, mk, s₂, L, E, ce, rfl, rfl, hx, hce, hcv, hcl, rfl, hL, rfl, rfl⟩, ?_⟩
    show Steps p.tables e below _ (((({ U with heap := s₂.heap, slotsUsed := s₂.slotsUsed } : State).setVm s₂.vm).setTop g).pushFrame (.throwing q))
    rw [← hs₂]
    exact hsteps
end
variable {p : Program} {l : Launch} {e : Env} {R : Room} {s : State} {m : MethodId} {args : Array Value} {below : List Frame} {meth : Method} {c : Code} {T : State} {H : Heap} {locs : List Loc} {cells slots : Nat}
theorem vx_callVX (X : Stand p l e R s m args below meth c T locs cells slots) (hexec : p.tables.exec = Jvm.exec) {own C : String} {index : Nat} {y : MethodName} {bytes : ByteArray} {maxL : Nat} {ret : Option FieldType} {hh : List (Nat × Nat × Nat × Nat)}
    (hown : s.vm.findClass own = some m.cls) (hlink : (Cond.methodLink own index y).before args s = true) (hinst : (Cond.instanceMethod y).before args s = true) (hsel : (Cond.selects C y y).before args s = true)
    (hcode : (Cond.codeWith y bytes maxL ret hh).before args s = true) (hy : y.cls ≠ "java/lang/invoke/MethodHandle" ∧ y.cls ≠ "java/lang/invoke/VarHandle")
    {W9 : Nat} {Pre : Pt → Array Value → Prop} {Post : Pt → Array Value → Option Value → Pt → Prop} {PostX : Pt → Array Value → Addr → Pt → Prop} (hK : vx_Back l R p e below s args y 3 W9 Pre Post PostX)
    {b : Addr} {cellB : Cell} (hcell : T.heap[b]? = some cellB) (hobj : cellB.vm.isStatics = false) (hcls : s.vm.findClass C = some cellB.cls)
    {g : JFrame} (hg : g.method = m) (hsize : g.locals.size = c.maxLocals) {argsL rest : List Value} (hlen : ∀ sig, parseMethodDescriptor y.desc = some sig → argsL.length = sig.parameters.length)
    (hstack : g.stack = argsL.reverse ++ .ref b :: rest) (hW : 2 * g.monitorRoom + (rest.map fun v => v.category).sum ≤ W9) (hdg : decode c.code g.pc = .ok (.invokevirtual index, 3))
    (hpre : ∀ vm₁, s.WarmedH vm₁ → Pre ⟨T.setVm vm₁, locs, cells, slots⟩ (Value.ref b :: argsL).toArray) :
    (∃ (v : Option Value) (vm₁ : Vm) (B : Pt), s.WarmedH vm₁ ∧ Stand p l e R s m args below meth c B.U B.locs B.cells B.slots ∧ Post ⟨T.setVm vm₁, locs, cells, slots⟩ (Value.ref b :: argsL).toArray v B ∧
      ∀ target, Steps p.tables e below (B.U.setTop { g with pc := g.pc + 3, stack := v.toList ++ rest }) target → Steps p.tables e below (T.setTop g) target) ∨
    (∃ (q : Addr) (vm₁ : Vm) (B : Pt), s.WarmedH vm₁ ∧ Stand p l e R s m args below meth c B.U B.locs B.cells B.slots ∧ PostX ⟨T.setVm vm₁, locs, cells, slots⟩ (Value.ref b :: argsL).toArray q B ∧
      Steps p.tables e below (T.setTop g) ((B.U.setTop { g with stack := rest }).pushFrame (.throwing q))) := by
  obtain ⟨mk, methM, hnamed, hmethM, hstM, habM⟩ := Cond.instanceMethod_spec hinst
  obtain ⟨m8, methM', cM, hn8, hmethM', -, -, -, -, -, -, hsigM⟩ := Cond.codeWith_spec hcode
  cases Option.some.inj (hn8.symm.trans hnamed)
  cases hmethM.symm.trans hmethM'
  obtain ⟨c2, r2, m2, q1, q2, q3, q4, kP, hkP, hkPi⟩ := Cond.selects_spec hsel
  cases hcls.symm.trans q1
  cases (State.methodFound?_of_named hnamed hy).symm.trans q2
  cases hnamed.symm.trans q3
  have hselP : selectMethod e.platform s.vm cellB.cls mk = .method mk := by rw [Launch.admits_selectMethod X.admits]; exact q4
  obtain ⟨vm₁, X₁, hstep₁⟩ := X.invokevirtual hexec hown hlink hnamed hmethM hstM hkP hkPi hy (a := b) (cell := cellB) hcell
    (fun z h => by rw [h] at hobj; cases hobj) hselP hmethM habM hkP hkPi (g := g) hg (argsL := argsL) (rest := rest) (hlen _ hsigM) hstack hdg
  rcases hK m meth c ⟨T.setVm vm₁, locs, cells, slots⟩ { g with stack := rest } (.invokevirtual index) mk (Value.ref b :: argsL).toArray X₁ hg hsize hdg hW (X₁.named hnamed) (hpre vm₁ X₁.warmed) with ⟨v, B, X', hpost, hsteps⟩ | ⟨q, B, X', hpost, hsteps⟩
  · exact Or.inl ⟨v, vm₁, B, X₁.warmed, X', hpost, fun target h => hstep₁ _ fun acts => by rw [doInvoke_state]; exact hsteps.trans h⟩
  · exact Or.inr ⟨q, vm₁, B, X₁.warmed, X', hpost, hstep₁ _ fun acts => by rw [doInvoke_state]; exact hsteps⟩
theorem vx_callSX (X : Stand p l e R s m args below meth c T locs cells slots) (hexec : p.tables.exec = Jvm.exec) {own : String} {index : Nat} {y : MethodName} {bytes : ByteArray} {maxL : Nat} {ret : Option FieldType} {hh : List (Nat × Nat × Nat × Nat)}
    (hown : s.vm.findClass own = some m.cls) (hlink : (Cond.methodLink own index y).before args s = true) (hstat : (Cond.static y).before args s = true) (hinit : (Cond.initialized y.cls).before args s = true)
    (hcode : (Cond.codeWith y bytes maxL ret hh).before args s = true) (hy : y.cls ≠ "java/lang/invoke/MethodHandle" ∧ y.cls ≠ "java/lang/invoke/VarHandle")
    {W9 : Nat} {Pre : Pt → Array Value → Prop} {Post : Pt → Array Value → Option Value → Pt → Prop} {PostX : Pt → Array Value → Addr → Pt → Prop} (hK : vx_Back l R p e below s args y 3 W9 Pre Post PostX)
    {g : JFrame} (hg : g.method = m) (hsize : g.locals.size = c.maxLocals) {argsL rest : List Value} (hlen : ∀ sig, parseMethodDescriptor y.desc = some sig → argsL.length = sig.parameters.length)
    (hstack : g.stack = argsL.reverse ++ rest) (hW : 2 * g.monitorRoom + (rest.map fun v => v.category).sum ≤ W9) (hdg : decode c.code g.pc = .ok (.invokestatic index, 3))
    (hpre : ∀ vm₁, s.WarmedH vm₁ → Pre ⟨T.setVm vm₁, locs, cells, slots⟩ argsL.toArray) :
    (∃ (v : Option Value) (vm₁ : Vm) (B : Pt), s.WarmedH vm₁ ∧ Stand p l e R s m args below meth c B.U B.locs B.cells B.slots ∧ Post ⟨T.setVm vm₁, locs, cells, slots⟩ argsL.toArray v B ∧
      ∀ target, Steps p.tables e below (B.U.setTop { g with pc := g.pc + 3, stack := v.toList ++ rest }) target → Steps p.tables e below (T.setTop g) target) ∨
    (∃ (q : Addr) (vm₁ : Vm) (B : Pt), s.WarmedH vm₁ ∧ Stand p l e R s m args below meth c B.U B.locs B.cells B.slots ∧ PostX ⟨T.setVm vm₁, locs, cells, slots⟩ argsL.toArray q B ∧
      Steps p.tables e below (T.setTop g) ((B.U.setTop { g with stack := rest }).pushFrame (.throwing q))) := by
  obtain ⟨mk, methM, cM, hnamed, hmethM, -, -, -, -, -, -, hsigM⟩ := Cond.codeWith_spec hcode
  have hstatic : methM.isStatic = true := Cond.static_spec hnamed hmethM hstat
  obtain ⟨kP, hkP, -⟩ := className_of_methodNamed hnamed
  have hinitP : kP.init = .initialized := Cond.initialized_spec (findClass_of_methodNamed hnamed) hkP hinit
  obtain ⟨vm₁, X₁, hstep₁⟩ := X.invokestatic hexec hown hlink hnamed hmethM hstatic hkP hinitP hy (g := g) hg (argsL := argsL) (rest := rest) (hlen _ hsigM) hstack hdg
  rcases hK m meth c ⟨T.setVm vm₁, locs, cells, slots⟩ { g with stack := rest } (.invokestatic index) mk argsL.toArray X₁ hg hsize hdg hW (X₁.named hnamed) (hpre vm₁ X₁.warmed) with ⟨v, B, X', hpost, hsteps⟩ | ⟨q, B, X', hpost, hsteps⟩
  · exact Or.inl ⟨v, vm₁, B, X₁.warmed, X', hpost, fun target h => hstep₁ _ fun acts => by rw [doInvoke_state]; exact hsteps.trans h⟩
  · exact Or.inr ⟨q, vm₁, B, X₁.warmed, X', hpost, hstep₁ _ fun acts => by rw [doInvoke_state]; exact hsteps⟩
theorem vx_callVW (X : Stand p l e R s m args below meth c T locs cells slots) (hexec : p.tables.exec = Jvm.exec) {own C : String} {index : Nat} {y : MethodName} {bytes : ByteArray} {maxL : Nat} {ret : Option FieldType} {hh : List (Nat × Nat × Nat × Nat)}
    (hown : s.vm.findClass own = some m.cls) (hlink : (Cond.methodLink own index y).before args s = true) (hinst : (Cond.instanceMethod y).before args s = true) (hsel : (Cond.selects C y y).before args s = true)
    (hcode : (Cond.codeWith y bytes maxL ret hh).before args s = true) (hy : y.cls ≠ "java/lang/invoke/MethodHandle" ∧ y.cls ≠ "java/lang/invoke/VarHandle")
    {W9 : Nat} {Pre : Pt → Array Value → Prop} {Post : Pt → Array Value → Option Value → Pt → Prop} (hK : Back l R p e below s args y 3 W9 Pre Post)
    {b : Addr} {cellB : Cell} (hcell : T.heap[b]? = some cellB) (hobj : cellB.vm.isStatics = false) (hcls : s.vm.findClass C = some cellB.cls)
    {g : JFrame} (hg : g.method = m) (hsize : g.locals.size = c.maxLocals) {argsL rest : List Value} (hlen : ∀ sig, parseMethodDescriptor y.desc = some sig → argsL.length = sig.parameters.length)
    (hstack : g.stack = argsL.reverse ++ .ref b :: rest) (hW : 2 * g.monitorRoom + (rest.map fun v => v.category).sum ≤ W9) (hdg : decode c.code g.pc = .ok (.invokevirtual index, 3))
    (hpre : ∀ vm₁, s.WarmedH vm₁ → Pre ⟨T.setVm vm₁, locs, cells, slots⟩ (Value.ref b :: argsL).toArray) :
    ∃ (v : Option Value) (vm₁ : Vm) (B : Pt), s.WarmedH vm₁ ∧ Stand p l e R s m args below meth c B.U B.locs B.cells B.slots ∧ Post ⟨T.setVm vm₁, locs, cells, slots⟩ (Value.ref b :: argsL).toArray v B ∧
      ∀ target, Steps p.tables e below (B.U.setTop { g with pc := g.pc + 3, stack := v.toList ++ rest }) target → Steps p.tables e below (T.setTop g) target := by
  obtain ⟨mk, methM, hnamed, hmethM, hstM, habM⟩ := Cond.instanceMethod_spec hinst
  obtain ⟨m8, methM', cM, hn8, hmethM', -, -, -, -, -, -, hsigM⟩ := Cond.codeWith_spec hcode
  cases Option.some.inj (hn8.symm.trans hnamed)
  cases hmethM.symm.trans hmethM'
  obtain ⟨c2, r2, m2, q1, q2, q3, q4, kP, hkP, hkPi⟩ := Cond.selects_spec hsel
  cases hcls.symm.trans q1
  cases (State.methodFound?_of_named hnamed hy).symm.trans q2
  cases hnamed.symm.trans q3
  have hselP : selectMethod e.platform s.vm cellB.cls mk = .method mk := by rw [Launch.admits_selectMethod X.admits]; exact q4
  obtain ⟨vm₁, X₁, hstep₁⟩ := X.invokevirtual hexec hown hlink hnamed hmethM hstM hkP hkPi hy (a := b) (cell := cellB) hcell
    (fun z h => by rw [h] at hobj; cases hobj) hselP hmethM habM hkP hkPi (g := g) hg (argsL := argsL) (rest := rest) (hlen _ hsigM) hstack hdg
  obtain ⟨v, B, X', hpost, hsteps⟩ := hK m meth c ⟨T.setVm vm₁, locs, cells, slots⟩ { g with stack := rest } (.invokevirtual index) mk (Value.ref b :: argsL).toArray X₁ hg hsize hdg hW (X₁.named hnamed) (hpre vm₁ X₁.warmed)
  exact ⟨v, vm₁, B, X₁.warmed, X', hpost, fun target h => hstep₁ _ fun acts => by rw [doInvoke_state]; exact hsteps.trans h⟩
abbrev vx_CVW (R : Room) (s : State) (args : Array Value) (own C : String) (index : Nat) (y : MethodName) (bytes : ByteArray) (maxL : Nat) (ret : Option FieldType) (hh : List (Nat × Nat × Nat × Nat)) (ws : List Cond) (rm : Room) (mc ms n : Nat) : Prop :=
  (rm.cells = mc ∧ rm.slots = ms ∧ rm.frames + 1 ≤ R.frames ∧ 8 + (maxL + 11) + rm.locals ≤ R.locals ∧ (∀ w ∈ ws, ∀ (a' : Array Value) (U : State), s.WarmedH U.vm → w.before a' U = true) ∧ Cond.codeWith y bytes maxL ret hh ∈ ws) ∧
  (Cond.codeWith y bytes maxL ret hh).before args s = true ∧ (Cond.initialized y.cls).before args s = true ∧ (y.cls ≠ "java/lang/invoke/MethodHandle" ∧ y.cls ≠ "java/lang/invoke/VarHandle") ∧
  (∀ sig, parseMethodDescriptor y.desc = some sig → n = sig.parameters.length) ∧ (Cond.methodLink own index y).before args s = true ∧ (Cond.instanceMethod y).before args s = true ∧ (Cond.selects C y y).before args s = true
theorem vx_cwVW {own C : String} {index maxL mc ms : Nat} {y : MethodName} {bytes : ByteArray} {ret : Option FieldType} {hh : List (Nat × Nat × Nat × Nat)} {Ts ws ws' : List Cond} {rm : Room} (n : Nat) (ht : ∀ w ∈ Ts, w.before args s = true) (hT : GoodIn Ts (wsV own index C y ws)) (hw : ws = Cond.codeWith y bytes maxL ret hh :: ws') (hrc : rm.cells = mc) (hrs : rm.slots = ms)
    (hd : y.cls = C ∧ y.cls ≠ "java/lang/invoke/MethodHandle" ∧ y.cls ≠ "java/lang/invoke/VarHandle" ∧ (parseMethodDescriptor y.desc).map (fun d => d.parameters.length) = some n) (hR : rm.frames + 1 ≤ R.frames ∧ 8 + (maxL + 11) + rm.locals ≤ R.locals) :
    vx_CVW R s args own C index y bytes maxL ret hh ws rm mc ms n := by
  obtain ⟨hC, hd⟩ := hd
  subst hC
  have ok : ∀ w ∈ wsV own index y.cls y ws, w.before args s = true := fun w h => ht w (hT w h).1
  have hG : GoodIn Ts ws := fun w h => hT w (by unfold wsV; exact List.mem_append_right _ h)
  have hc : Cond.codeWith y bytes maxL ret hh ∈ ws := by rw [hw]; exact List.mem_cons_self
  refine ⟨⟨hrc, hrs, hR.1, hR.2, pay_in ht hG, hc⟩, ht _ (hG _ hc).1, ok _ (by simp [wsV]), ⟨hd.1, hd.2.1⟩, fun sig h => ?_, ok _ (by simp [wsV]), ok _ (by simp [wsV]), ok _ (by simp [wsV])⟩
  have h2 := hd.2.2
  rw [h] at h2
  exact (Option.some.inj h2).symm
theorem vx_runVW {y : MethodName} {bytes cc : ByteArray} {maxL nL mc ms n index : Nat} {ret : Option FieldType} {hh : List (Nat × Nat × Nat × Nat)} {ws : List Cond} {rm : Room} {Pc : Array Value → State → Prop} {Qc : Array Value → State → Outcome → State → Prop} {free : Addr → Prop} {Ts : List Cond} {own C : String} {b : Addr} {As rest : List Value} {g : JFrame}
    (S : CallFix p m c cc nL s args Ts own) (hM : Met l y ws rm Pc Qc mc ms free) (cw : vx_CVW R s args own C index y bytes maxL ret hh ws rm mc ms n) (hp : PreV s H C b Pc As)
    (hg : g.method = m) (hn : As.length = n) (hsize : g.locals.size = nL) (hstack : g.stack = As.reverse ++ .ref b :: rest) (hW : 2 * g.monitorRoom + (rest.map fun v => v.category).sum ≤ 8) (hdg : decode cc g.pc = .ok (.invokevirtual index, 3)) (hf : cells + mc ≤ R.cells ∧ slots + ms ≤ R.slots) :
    va_Run p l e R s m args below meth c H locs cells slots mc ms g rest (Qc (Value.ref b :: As).toArray) free := by
  obtain ⟨⟨hrc, hrs, hfr, hlo, hws, hcw⟩, hcode, hini, hy, hlen, hl, hin, hse⟩ := cw
  have hK : Back l R p e below s args y 3 8 (PreOf R mc ms Pc) (PostOf Qc mc ms free) := va_backW (hh := hh) (bytes := bytes) (maxL := maxL) (ret := ret) hM hp.1 hrc hrs hfr hlo hws hcw (fun a' U hW => word_at hW (Or.inl (by first | rfl | simp [Cond.onTables, Cond.keeps, Cond.steady])) hini)
  obtain ⟨hx, hb, hml, ho, -⟩ := S
  obtain ⟨-, ⟨cellB, hcB, hoB, hclB⟩, hPc⟩ := hp
  intro T hT X
  obtain ⟨v, vm₁, ⟨U', l2, c2, s2⟩, hW₁, X', ⟨g', mk, t, L, e1, e2, hq, h1, hL, h2, h3⟩, st⟩ := vx_callVW X hx (C := C) (hh := hh) (bytes := bytes) (maxL := maxL) (ret := ret) ho hl hin hse hcode hy hK (by rw [hT]; exact hcB) hoB hclB hg (hsize.trans hml.symm) (argsL := As) (rest := rest) (fun sig h => hn.trans (hlen sig h)) hstack hW (by rw [hb]; exact hdg)
    (fun vm₁ hW₁ => ⟨hf.1, hf.2, hPc (T.setVm vm₁) hT hW₁⟩)
  dsimp only [Pt.U, Pt.locs, Pt.cells, Pt.slots] at X' e1 e2 h1 h2 h3 st
  subst h1; subst h2; subst h3
  exact ⟨v, (T.setVm vm₁).calling g' mk (Value.ref b :: As).toArray, t, U', L, hT, X', hL, e1, e2, hq, st⟩
section
variable {y : MethodName} {bytes cc : ByteArray} {maxL nL mc ms n index : Nat} {ret : Option FieldType} {ws : List Cond} {rm : Room} {Pc : Array Value → State → Prop} {Qc : Array Value → State → Outcome → State → Prop} {XC : String → State → State → Prop} {free : Addr → Prop} {Ts : List Cond} {own C : String} {b : Addr} {As rest : List Value} {g : JFrame}
theorem vx_runVX {hh : List (Nat × Nat × Nat × Nat)} (S : CallFix p m c cc nL s args Ts own) (hM : vx_Met l y ws rm Pc Qc XC mc ms free) (cw : vx_CVW R s args own C index y bytes maxL ret hh ws rm mc ms n) (hp : PreV s H C b Pc As)
    (hg : g.method = m) (hn : As.length = n) (hsize : g.locals.size = nL) (hstack : g.stack = As.reverse ++ .ref b :: rest) (hW : 2 * g.monitorRoom + (rest.map fun v => v.category).sum ≤ 8) (hdg : decode cc g.pc = .ok (.invokevirtual index, 3)) (hf : cells + mc ≤ R.cells ∧ slots + ms ≤ R.slots) :
    vx_Run p l e R s m args below meth c H locs cells slots mc ms g rest (Qc (Value.ref b :: As).toArray) XC free := by
  obtain ⟨⟨hrc, hrs, hfr, hlo, hws, hcw⟩, hcode, hini, hy, hlen, hl, hin, hse⟩ := cw
  have hK : vx_Back l R p e below s args y 3 8 (PreOf R mc ms Pc) (PostOf Qc mc ms free) (vx_Post XC mc ms free) := vx_backW (hh := hh) (bytes := bytes) (maxL := maxL) (ret := ret) hM hp.1 hrc hrs hfr hlo hws hcw (fun a' U hW => word_at hW (Or.inl (by first | rfl | simp [Cond.onTables, Cond.keeps, Cond.steady])) hini)
  obtain ⟨hx, hb, hml, ho, -⟩ := S
  obtain ⟨-, ⟨cellB, hcB, hoB, hclB⟩, hPc⟩ := hp
  intro T hT X
  rcases vx_callVX X hx (C := C) (hh := hh) (bytes := bytes) (maxL := maxL) (ret := ret) ho hl hin hse hcode hy hK (by rw [hT]; exact hcB) hoB hclB hg (hsize.trans hml.symm) (argsL := As) (rest := rest) (fun sig h => hn.trans (hlen sig h)) hstack hW (by rw [hb]; exact hdg)
    (fun vm₁ hW₁ => ⟨hf.1, hf.2, hPc (T.setVm vm₁) hT hW₁⟩) with ⟨v, vm₁, ⟨U', l2, c2, s2⟩, hW₁, X', ⟨g', mk, t, L, e1, e2, hq, h1, hL, h2, h3⟩, st⟩ | ⟨q, vm₁, ⟨U', l2, c2, s2⟩, hW₁, X', ⟨g', mk, t, L, E, ce, e1, e2, hq, hce, hcv, hcl, h1, hL, h2, h3⟩, st⟩
  · dsimp only [Pt.U, Pt.locs, Pt.cells, Pt.slots] at X' e1 e2 h1 h2 h3 st
    subst h1; subst h2; subst h3
    exact Or.inl ⟨v, (T.setVm vm₁).calling g' mk (Value.ref b :: As).toArray, t, U', L, hT, X', hL, e1, e2, hq, st⟩
  · dsimp only [Pt.U, Pt.locs, Pt.cells, Pt.slots] at X' e1 e2 h1 h2 h3 st hcl
    subst h1; subst h2; subst h3
    exact Or.inr ⟨q, (T.setVm vm₁).calling g' mk (Value.ref b :: As).toArray, t, U', L, E, ce, hT, X', hL, e1, e2, hq, hce, hcv, vx_cls hW₁ hcl, st⟩
theorem vx_runSX {hh : List (Nat × Nat × Nat × Nat)} (S : CallFix p m c cc nL s args Ts own) (hM : vx_Met l y ws rm Pc Qc XC mc ms free) (cw : vx_CSW R s args own index y bytes maxL ret hh ws rm mc ms n) (hp : PreS s H Pc As)
    (hg : g.method = m) (hn : As.length = n) (hsize : g.locals.size = nL) (hstack : g.stack = As.reverse ++ rest) (hW : 2 * g.monitorRoom + (rest.map fun v => v.category).sum ≤ 8) (hdg : decode cc g.pc = .ok (.invokestatic index, 3)) (hf : cells + mc ≤ R.cells ∧ slots + ms ≤ R.slots) :
    vx_Run p l e R s m args below meth c H locs cells slots mc ms g rest (Qc As.toArray) XC free := by
  obtain ⟨⟨hrc, hrs, hfr, hlo, hws, hcw⟩, hcode, hini, hy, hlen, hl, hstt⟩ := cw
  have hK : vx_Back l R p e below s args y 3 8 (PreOf R mc ms Pc) (PostOf Qc mc ms free) (vx_Post XC mc ms free) := vx_backW (hh := hh) (bytes := bytes) (maxL := maxL) (ret := ret) hM hp.1 hrc hrs hfr hlo hws hcw (fun a' U hW => word_at hW (Or.inl (by first | rfl | simp [Cond.onTables, Cond.keeps, Cond.steady])) hini)
  obtain ⟨hx, hb, hml, ho, -⟩ := S
  intro T hT X
  rcases vx_callSX X hx (hh := hh) (bytes := bytes) (maxL := maxL) (ret := ret) ho hl hstt hini hcode hy hK hg (hsize.trans hml.symm) (argsL := As) (rest := rest) (fun sig h => hn.trans (hlen sig h)) hstack hW (by rw [hb]; exact hdg)
    (fun vm₁ hW₁ => ⟨hf.1, hf.2, hp.2 (T.setVm vm₁) hT hW₁⟩) with ⟨v, vm₁, ⟨U', l2, c2, s2⟩, hW₁, X', ⟨g', mk, t, L, e1, e2, hq, h1, hL, h2, h3⟩, st⟩ | ⟨q, vm₁, ⟨U', l2, c2, s2⟩, hW₁, X', ⟨g', mk, t, L, E, ce, e1, e2, hq, hce, hcv, hcl, h1, hL, h2, h3⟩, st⟩
  · dsimp only [Pt.U, Pt.locs, Pt.cells, Pt.slots] at X' e1 e2 h1 h2 h3 st
    subst h1; subst h2; subst h3
    exact Or.inl ⟨v, (T.setVm vm₁).calling g' mk As.toArray, t, U', L, hT, X', hL, e1, e2, hq, st⟩
  · dsimp only [Pt.U, Pt.locs, Pt.cells, Pt.slots] at X' e1 e2 h1 h2 h3 st hcl
    subst h1; subst h2; subst h3
    exact Or.inr ⟨q, (T.setVm vm₁).calling g' mk As.toArray, t, U', L, E, ce, hT, X', hL, e1, e2, hq, hce, hcv, vx_cls hW₁ hcl, st⟩
end
end VXH
theorem vx_ofWH {l : Launch} {y : MethodName} {ws ws' : List Cond} {rm : Room} {Pc : Array Value → State → Prop} {Qc : Array Value → State → Outcome → State → Prop} {XC : String → State → State → Prop} {mc ms : Nat} {free : Addr → Prop} {cc : ByteArray} {maxL : Nat} {ret : Option FieldType} {hh : List (Nat × Nat × Nat × Nat)}
    (hy : plainName y.cls = true) (hw : ws = Cond.codeWith y cc maxL ret hh :: ws')
    (body : ∀ p e s m args below meth c s₁, BodyLoose p l y (headSpec ws rm) cc maxL ret e s m args below meth c s₁ → c.maxLocals = maxL → Pc args s →
      W p l e (headSpec ws rm).room s m args below meth c s.heap [] 0 0 (vx_MQ below Qc XC args s mc ms free) (entryFrame m args maxL)) : vx_Met l y ws rm Pc Qc XC mc ms free := by
  refine MetFree.of_bodyS (code := cc) (maxLocals := maxL) (ret := ret) hy ?_ ?_
  · intro args s m h hn
    obtain ⟨m9, meth, c, hn9, h1, h2, h3, h4, -, h5, h6, -⟩ := Cond.codeWith_spec (atoms_spec (ws := ws) h _ (by rw [hw]; exact List.mem_cons_self))
    cases hn.symm.trans hn9
    exact ⟨meth, c, h1, h2, h3, h4, h5, h6⟩
  · intro p e s m args below meth c s₁ B hml hP _
    have hh0 : s₁.heap = s.heap := by rw [B.state]; rfl
    obtain ⟨t, a1, o, b1, b2, b3⟩ := body p e s m args below meth c s₁ B hml hP s₁ hh0 (Stand.of_body B)
    exact ⟨t, o, a1, b1, b2, b3⟩
/-! ===== END ===== -/
end
section
/-! ===== BEGIN printed: names, fields, word lists, decode rows ===== -/
def RX0 : String := "LabelStation$History"
def TX0 : u_T := fun k => match k with
  | 0 => ("LabelStation$History", "slots", "[LLabelStation$State;", true)
  | 1 => ("LabelStation$History", "oldest", "I", false)
  | _ => ("LabelStation$History", "saved", "I", false)
def tyX0 : Nat → FieldType := fun k => match k with
  | 0 => .array (.object "LabelStation$State")
  | 1 => .int
  | _ => .int
abbrev wsX00 : List Cond := u_ws RX0 TX0 3
theorem nmX0 : ∀ a, a < 3 → ∀ b, b < 3 → a ≠ b → (TX0 a).2.1 ≠ (TX0 b).2.1 := by decide +kernel
theorem tyX0_ok : ∀ k, k < 3 → parseFieldDescriptor (TX0 k).2.2.1 = some (tyX0 k) := by decide +kernel
abbrev cX0_init : ByteArray := prog_2_method_1_code
def yX0_init : MethodName := ⟨RX0, "<init>", "()V"⟩
abbrev cX0_count : ByteArray := prog_2_method_2_code
def yX0_count : MethodName := ⟨RX0, "count", "()I"⟩
abbrev cX0_save : ByteArray := prog_2_method_3_code
def yX0_save : MethodName := ⟨RX0, "save", "(LLabelStation$State;)V"⟩
abbrev cX0_prepare : ByteArray := prog_2_method_4_code
def yX0_prepare : MethodName := ⟨RX0, "prepare", "(LLabelStation$State;)V"⟩
abbrev cX0_keepPrepared : ByteArray := prog_2_method_5_code
def yX0_keepPrepared : MethodName := ⟨RX0, "keepPrepared", "()V"⟩
abbrev cX0_bringBackPrepared : ByteArray := prog_2_method_6_code
def yX0_bringBackPrepared : MethodName := ⟨RX0, "bringBackPrepared", "(LLabelStation$State;)V"⟩
abbrev cX0_bringBackLatest : ByteArray := prog_2_method_7_code
def yX0_bringBackLatest : MethodName := ⟨RX0, "bringBackLatest", "(LLabelStation$State;)V"⟩
abbrev cX0_slotAt : ByteArray := prog_2_method_8_code
def yX0_slotAt : MethodName := ⟨RX0, "slotAt", "(I)LLabelStation$State;"⟩
def RX1 : String := "LabelStation$State"
def TX1 : u_T := fun k => match k with
  | 0 => ("LabelStation$State", "settings", "[I", true)
  | 1 => ("LabelStation$State", "places", "[I", true)
  | 2 => ("LabelStation$State", "counters", "[I", true)
  | 3 => ("LabelStation$State", "items", "LLabelStation$Table;", true)
  | 4 => ("LabelStation$State", "records", "LLabelStation$Table;", true)
  | 5 => ("LabelStation$State", "verdicts", "LLabelStation$Table;", true)
  | 6 => ("LabelStation$State", "binArrivals", "LLabelStation$Table;", true)
  | 7 => ("LabelStation$State", "expectations", "LLabelStation$Table;", true)
  | 8 => ("LabelStation$State", "tick", "I", false)
  | 9 => ("LabelStation$State", "running", "Z", false)
  | 10 => ("LabelStation$State", "alarm", "I", false)
  | 11 => ("LabelStation$State", "jammed", "Z", false)
  | 12 => ("LabelStation$State", "consecutiveRejects", "I", false)
  | 13 => ("LabelStation$State", "diverted", "I", false)
  | 14 => ("LabelStation$State", "watched", "I", false)
  | _ => ("LabelStation$State", "outcome", "I", false)
def tyX1 : Nat → FieldType := fun k => match k with
  | 0 => .array .int
  | 1 => .array .int
  | 2 => .array .int
  | 3 => .object "LabelStation$Table"
  | 4 => .object "LabelStation$Table"
  | 5 => .object "LabelStation$Table"
  | 6 => .object "LabelStation$Table"
  | 7 => .object "LabelStation$Table"
  | 8 => .int
  | 9 => .boolean
  | 10 => .int
  | 11 => .boolean
  | 12 => .int
  | 13 => .int
  | 14 => .int
  | _ => .int
abbrev wsX10 : List Cond := u_ws RX1 TX1 16
theorem nmX1 : ∀ a, a < 16 → ∀ b, b < 16 → a ≠ b → (TX1 a).2.1 ≠ (TX1 b).2.1 := by decide +kernel
theorem tyX1_ok : ∀ k, k < 16 → parseFieldDescriptor (TX1 k).2.2.1 = some (tyX1 k) := by decide +kernel
abbrev cX1_init : ByteArray := prog_3_method_1_code
def yX1_init : MethodName := ⟨RX1, "<init>", "()V"⟩
abbrev cX1_copyFrom : ByteArray := prog_3_method_2_code
def yX1_copyFrom : MethodName := ⟨RX1, "copyFrom", "(LLabelStation$State;)V"⟩
abbrev cX1_watch : ByteArray := prog_3_method_3_code
def yX1_watch : MethodName := ⟨RX1, "watch", "(I)V"⟩
abbrev cX1_setting : ByteArray := prog_3_method_4_code
def yX1_setting : MethodName := ⟨RX1, "setting", "(I)I"⟩
abbrev cX1_putSetting : ByteArray := prog_3_method_5_code
def yX1_putSetting : MethodName := ⟨RX1, "putSetting", "(II)V"⟩
abbrev cX1_place : ByteArray := prog_3_method_6_code
def yX1_place : MethodName := ⟨RX1, "place", "(I)I"⟩
abbrev cX1_putPlace : ByteArray := prog_3_method_7_code
def yX1_putPlace : MethodName := ⟨RX1, "putPlace", "(II)V"⟩
abbrev cX1_counted : ByteArray := prog_3_method_8_code
def yX1_counted : MethodName := ⟨RX1, "counted", "(I)I"⟩
abbrev cX1_count : ByteArray := prog_3_method_9_code
def yX1_count : MethodName := ⟨RX1, "count", "(I)V"⟩
abbrev cX1_valueOf : ByteArray := prog_3_method_10_code
def yX1_valueOf : MethodName := ⟨RX1, "valueOf", "(I)I"⟩
abbrev cX1_statusOf : ByteArray := prog_3_method_11_code
def yX1_statusOf : MethodName := ⟨RX1, "statusOf", "(I)I"⟩
abbrev cX1_hasRoom : ByteArray := prog_3_method_12_code
def yX1_hasRoom : MethodName := ⟨RX1, "hasRoom", "()Z"⟩
abbrev cX1_enter : ByteArray := prog_3_method_13_code
def yX1_enter : MethodName := ⟨RX1, "enter", "(I)I"⟩
abbrev cX1_passTick : ByteArray := prog_3_method_14_code
def yX1_passTick : MethodName := ⟨RX1, "passTick", "()V"⟩
abbrev cX1_raise : ByteArray := prog_3_method_15_code
def yX1_raise : MethodName := ⟨RX1, "raise", "(I)V"⟩
abbrev cX1_deliverVerdicts : ByteArray := prog_3_method_16_code
def yX1_deliverVerdicts : MethodName := ⟨RX1, "deliverVerdicts", "()V"⟩
abbrev cX1_deliver : ByteArray := prog_3_method_17_code
def yX1_deliver : MethodName := ⟨RX1, "deliver", "(I)V"⟩
abbrev cX1_fillBin : ByteArray := prog_3_method_18_code
def yX1_fillBin : MethodName := ⟨RX1, "fillBin", "()V"⟩
abbrev cX1_confirmOldest : ByteArray := prog_3_method_19_code
def yX1_confirmOldest : MethodName := ⟨RX1, "confirmOldest", "()V"⟩
abbrev cX1_closeOverdueExpectations : ByteArray := prog_3_method_20_code
def yX1_closeOverdueExpectations : MethodName := ⟨RX1, "closeOverdueExpectations", "()V"⟩
abbrev cX1_pulse : ByteArray := prog_3_method_21_code
def yX1_pulse : MethodName := ⟨RX1, "pulse", "()V"⟩
abbrev cX1_staysInRegister : ByteArray := prog_3_method_22_code
def yX1_staysInRegister : MethodName := ⟨RX1, "staysInRegister", "(I)Z"⟩
abbrev cX1_labelerActs : ByteArray := prog_3_method_23_code
def yX1_labelerActs : MethodName := ⟨RX1, "labelerActs", "(I)V"⟩
abbrev cX1_cameraActs : ByteArray := prog_3_method_24_code
def yX1_cameraActs : MethodName := ⟨RX1, "cameraActs", "(IZ)V"⟩
abbrev cX1_seen : ByteArray := prog_3_method_25_code
def yX1_seen : MethodName := ⟨RX1, "seen", "(IZ)I"⟩
abbrev cX1_mayPass : ByteArray := prog_3_method_26_code
def yX1_mayPass : MethodName := ⟨RX1, "mayPass", "(I)Z"⟩
abbrev cX1_pass : ByteArray := prog_3_method_27_code
def yX1_pass : MethodName := ⟨RX1, "pass", "(I)V"⟩
abbrev cX1_reject : ByteArray := prog_3_method_28_code
def yX1_reject : MethodName := ⟨RX1, "reject", "(I)V"⟩
abbrev cX1_causeOf : ByteArray := prog_3_method_29_code
def yX1_causeOf : MethodName := ⟨RX1, "causeOf", "(I)I"⟩
abbrev cX1_leaveRegister : ByteArray := prog_3_method_30_code
def yX1_leaveRegister : MethodName := ⟨RX1, "leaveRegister", "(II)V"⟩
abbrev cX1_leaveBelt : ByteArray := prog_3_method_31_code
def yX1_leaveBelt : MethodName := ⟨RX1, "leaveBelt", "(I)V"⟩
abbrev cX1_itemAt : ByteArray := prog_3_method_32_code
def yX1_itemAt : MethodName := ⟨RX1, "itemAt", "(I)I"⟩
abbrev cX1_recordForExit : ByteArray := prog_3_method_33_code
def yX1_recordForExit : MethodName := ⟨RX1, "recordForExit", "()I"⟩
def RX2 : String := "LabelStation$Table"
def TX2 : u_T := fun k => match k with
  | 0 => ("LabelStation$Table", "width", "I", true)
  | 1 => ("LabelStation$Table", "room", "I", true)
  | 2 => ("LabelStation$Table", "cells", "[I", true)
  | _ => ("LabelStation$Table", "rows", "I", false)
def tyX2 : Nat → FieldType := fun k => match k with
  | 0 => .int
  | 1 => .int
  | 2 => .array .int
  | _ => .int
abbrev wsX20 : List Cond := u_ws RX2 TX2 4
theorem nmX2 : ∀ a, a < 4 → ∀ b, b < 4 → a ≠ b → (TX2 a).2.1 ≠ (TX2 b).2.1 := by decide +kernel
theorem tyX2_ok : ∀ k, k < 4 → parseFieldDescriptor (TX2 k).2.2.1 = some (tyX2 k) := by decide +kernel
abbrev cX2_init : ByteArray := prog_4_method_1_code
def yX2_init : MethodName := ⟨RX2, "<init>", "(II)V"⟩
abbrev cX2_copyFrom : ByteArray := prog_4_method_2_code
def yX2_copyFrom : MethodName := ⟨RX2, "copyFrom", "(LLabelStation$Table;)V"⟩
abbrev cX2_count : ByteArray := prog_4_method_3_code
def yX2_count : MethodName := ⟨RX2, "count", "()I"⟩
abbrev cX2_get : ByteArray := prog_4_method_4_code
def yX2_get : MethodName := ⟨RX2, "get", "(II)I"⟩
abbrev cX2_put : ByteArray := prog_4_method_5_code
def yX2_put : MethodName := ⟨RX2, "put", "(III)V"⟩
abbrev cX2_addRow : ByteArray := prog_4_method_6_code
def yX2_addRow : MethodName := ⟨RX2, "addRow", "(I)I"⟩
abbrev cX2_removeRow : ByteArray := prog_4_method_7_code
def yX2_removeRow : MethodName := ⟨RX2, "removeRow", "(I)V"⟩
abbrev cX2_removeRowsOf : ByteArray := prog_4_method_8_code
def yX2_removeRowsOf : MethodName := ⟨RX2, "removeRowsOf", "(I)V"⟩
abbrev cX2_find : ByteArray := prog_4_method_9_code
def yX2_find : MethodName := ⟨RX2, "find", "(I)I"⟩
abbrev cX2_hasBelow : ByteArray := prog_4_method_10_code
def yX2_hasBelow : MethodName := ⟨RX2, "hasBelow", "(II)Z"⟩
abbrev cX2_increase : ByteArray := prog_4_method_11_code
def yX2_increase : MethodName := ⟨RX2, "increase", "(I)V"⟩
abbrev cX2_mixInto : ByteArray := prog_4_method_12_code
def yX2_mixInto : MethodName := ⟨RX2, "mixInto", "(J)J"⟩
def RX3 : String := "LabelStation"
def TX3 : u_T := fun k => match k with
  | 0 => ("LabelStation", "state", "LLabelStation$State;", true)
  | 1 => ("LabelStation", "trial", "LLabelStation$State;", true)
  | 2 => ("LabelStation", "history", "LLabelStation$History;", true)
  | 3 => ("LabelStation", "text", "[B", true)
  | _ => ("LabelStation", "textLength", "I", false)
def tyX3 : Nat → FieldType := fun k => match k with
  | 0 => .object "LabelStation$State"
  | 1 => .object "LabelStation$State"
  | 2 => .object "LabelStation$History"
  | 3 => .array .byte
  | _ => .int
abbrev wsX30 : List Cond := u_ws RX3 TX3 5
theorem nmX3 : ∀ a, a < 5 → ∀ b, b < 5 → a ≠ b → (TX3 a).2.1 ≠ (TX3 b).2.1 := by decide +kernel
theorem tyX3_ok : ∀ k, k < 5 → parseFieldDescriptor (TX3 k).2.2.1 = some (tyX3 k) := by decide +kernel
abbrev cX3_init : ByteArray := prog_1_method_1_code
def yX3_init : MethodName := ⟨RX3, "<init>", "()V"⟩
abbrev cX3_setPlaces : ByteArray := prog_1_method_2_code
def yX3_setPlaces : MethodName := ⟨RX3, "setPlaces", "(IIIII)I"⟩
abbrev cX3_set : ByteArray := prog_1_method_3_code
def yX3_set : MethodName := ⟨RX3, "set", "(II)I"⟩
abbrev cX3_value : ByteArray := prog_1_method_4_code
def yX3_value : MethodName := ⟨RX3, "value", "(I)I"⟩
abbrev cX3_jam : ByteArray := prog_1_method_5_code
def yX3_jam : MethodName := ⟨RX3, "jam", "(Z)Z"⟩
abbrev cX3_start : ByteArray := prog_1_method_6_code
def yX3_start : MethodName := ⟨RX3, "start", "()I"⟩
abbrev cX3_stop : ByteArray := prog_1_method_7_code
def yX3_stop : MethodName := ⟨RX3, "stop", "()I"⟩
abbrev cX3_reset : ByteArray := prog_1_method_8_code
def yX3_reset : MethodName := ⟨RX3, "reset", "()I"⟩
abbrev cX3_feed : ByteArray := prog_1_method_9_code
def yX3_feed : MethodName := ⟨RX3, "feed", "(I)I"⟩
abbrev cX3_slip : ByteArray := prog_1_method_10_code
def yX3_slip : MethodName := ⟨RX3, "slip", "(II)I"⟩
abbrev cX3_take : ByteArray := prog_1_method_11_code
def yX3_take : MethodName := ⟨RX3, "take", "(I)I"⟩
abbrev cX3_run : ByteArray := prog_1_method_12_code
def yX3_run : MethodName := ⟨RX3, "run", "(I)I"⟩
abbrev cX3_status : ByteArray := prog_1_method_13_code
def yX3_status : MethodName := ⟨RX3, "status", "(I)I"⟩
abbrev cX3_item : ByteArray := prog_1_method_14_code
def yX3_item : MethodName := ⟨RX3, "item", "(II)I"⟩
abbrev cX3_record : ByteArray := prog_1_method_15_code
def yX3_record : MethodName := ⟨RX3, "record", "(II)I"⟩
abbrev cX3_numberAt : ByteArray := prog_1_method_16_code
def yX3_numberAt : MethodName := ⟨RX3, "numberAt", "(IZ)I"⟩
abbrev cX3_counter : ByteArray := prog_1_method_17_code
def yX3_counter : MethodName := ⟨RX3, "counter", "(I)I"⟩
abbrev cX3_reconcile : ByteArray := prog_1_method_18_code
def yX3_reconcile : MethodName := ⟨RX3, "reconcile", "(Z)I"⟩
abbrev cX3_goodShare : ByteArray := prog_1_method_19_code
def yX3_goodShare : MethodName := ⟨RX3, "goodShare", "()D"⟩
abbrev cX3_recordsThatLeft : ByteArray := prog_1_method_20_code
def yX3_recordsThatLeft : MethodName := ⟨RX3, "recordsThatLeft", "()I"⟩
abbrev cX3_spare : ByteArray := prog_1_method_21_code
def yX3_spare : MethodName := ⟨RX3, "spare", "(I)I"⟩
abbrev cX3_fastest : ByteArray := prog_1_method_22_code
def yX3_fastest : MethodName := ⟨RX3, "fastest", "()I"⟩
abbrev cX3_sparePulses : ByteArray := prog_1_method_23_code
def yX3_sparePulses : MethodName := ⟨RX3, "sparePulses", "(I)I"⟩
abbrev cX3_fate : ByteArray := prog_1_method_24_code
def yX3_fate : MethodName := ⟨RX3, "fate", "(I)I"⟩
abbrev cX3_append : ByteArray := prog_1_method_25_code
def yX3_append : MethodName := ⟨RX3, "append", "(I)I"⟩
abbrev cX3_clearText : ByteArray := prog_1_method_26_code
def yX3_clearText : MethodName := ⟨RX3, "clearText", "()I"⟩
abbrev cX3_carryOut : ByteArray := prog_1_method_27_code
def yX3_carryOut : MethodName := ⟨RX3, "carryOut", "()I"⟩
abbrev cX3_syntaxError : ByteArray := prog_1_method_28_code
def yX3_syntaxError : MethodName := ⟨RX3, "syntaxError", "()I"⟩
abbrev cX3_ticksOf : ByteArray := prog_1_method_29_code
def yX3_ticksOf : MethodName := ⟨RX3, "ticksOf", "(I)I"⟩
abbrev cX3_byteAt : ByteArray := prog_1_method_30_code
def yX3_byteAt : MethodName := ⟨RX3, "byteAt", "(I)I"⟩
abbrev cX3_undo : ByteArray := prog_1_method_31_code
def yX3_undo : MethodName := ⟨RX3, "undo", "()I"⟩
abbrev cX3_digest : ByteArray := prog_1_method_32_code
def yX3_digest : MethodName := ⟨RX3, "digest", "()J"⟩
def RX4 : String := "LabelStationModel"
def TX4 : u_T := fun k => match k with
  | 0 => ("LabelStationModel", "now", "[I", true)
  | 1 => ("LabelStationModel", "past", "[I", true)
  | 2 => ("LabelStationModel", "aside", "[I", true)
  | 3 => ("LabelStationModel", "saved", "I", false)
  | 4 => ("LabelStationModel", "refusal", "I", false)
  | 5 => ("LabelStationModel", "text", "[I", true)
  | 6 => ("LabelStationModel", "length", "I", false)
  | _ => ("LabelStationModel", "hash", "J", false)
def tyX4 : Nat → FieldType := fun k => match k with
  | 0 => .array .int
  | 1 => .array .int
  | 2 => .array .int
  | 3 => .int
  | 4 => .int
  | 5 => .array .int
  | 6 => .int
  | _ => .long
abbrev wsX40 : List Cond := u_ws RX4 TX4 8
theorem nmX4 : ∀ a, a < 8 → ∀ b, b < 8 → a ≠ b → (TX4 a).2.1 ≠ (TX4 b).2.1 := by decide +kernel
theorem tyX4_ok : ∀ k, k < 8 → parseFieldDescriptor (TX4 k).2.2.1 = some (tyX4 k) := by decide +kernel
abbrev cX4_init : ByteArray := prog_6_method_1_code
def yX4_init : MethodName := ⟨RX4, "<init>", "()V"⟩
abbrev cX4_thrown : ByteArray := prog_6_method_2_code
def yX4_thrown : MethodName := ⟨RX4, "thrown", "()I"⟩
abbrev cX4_refused : ByteArray := prog_6_method_3_code
def yX4_refused : MethodName := ⟨RX4, "refused", "(I)Z"⟩
abbrev cX4_within : ByteArray := prog_6_method_4_code
def yX4_within : MethodName := ⟨RX4, "within", "(III)Z"⟩
abbrev cX4_saves : ByteArray := prog_6_method_5_code
def yX4_saves : MethodName := ⟨RX4, "saves", "()V"⟩
abbrev cX4_undo : ByteArray := prog_6_method_6_code
def yX4_undo : MethodName := ⟨RX4, "undo", "()I"⟩
abbrev cX4_laysAside : ByteArray := prog_6_method_7_code
def yX4_laysAside : MethodName := ⟨RX4, "laysAside", "()V"⟩
abbrev cX4_takesBack : ByteArray := prog_6_method_8_code
def yX4_takesBack : MethodName := ⟨RX4, "takesBack", "()V"⟩
abbrev cX4_drops : ByteArray := prog_6_method_9_code
def yX4_drops : MethodName := ⟨RX4, "drops", "(IIII)V"⟩
abbrev cX4_counts : ByteArray := prog_6_method_10_code
def yX4_counts : MethodName := ⟨RX4, "counts", "(I)V"⟩
abbrev cX4_thing : ByteArray := prog_6_method_11_code
def yX4_thing : MethodName := ⟨RX4, "thing", "(II)I"⟩
abbrev cX4_entry : ByteArray := prog_6_method_12_code
def yX4_entry : MethodName := ⟨RX4, "entry", "(II)I"⟩
abbrev cX4_itemOf : ByteArray := prog_6_method_13_code
def yX4_itemOf : MethodName := ⟨RX4, "itemOf", "(I)I"⟩
abbrev cX4_recordOf : ByteArray := prog_6_method_14_code
def yX4_recordOf : MethodName := ⟨RX4, "recordOf", "(I)I"⟩
abbrev cX4_isSetting : ByteArray := prog_6_method_15_code
def yX4_isSetting : MethodName := ⟨RX4, "isSetting", "(II)Z"⟩
abbrev cX4_setPlaces : ByteArray := prog_6_method_16_code
def yX4_setPlaces : MethodName := ⟨RX4, "setPlaces", "(IIIII)I"⟩
abbrev cX4_set : ByteArray := prog_6_method_17_code
def yX4_set : MethodName := ⟨RX4, "set", "(II)I"⟩
abbrev cX4_value : ByteArray := prog_6_method_18_code
def yX4_value : MethodName := ⟨RX4, "value", "(I)I"⟩
abbrev cX4_jam : ByteArray := prog_6_method_19_code
def yX4_jam : MethodName := ⟨RX4, "jam", "(Z)Z"⟩
abbrev cX4_start : ByteArray := prog_6_method_20_code
def yX4_start : MethodName := ⟨RX4, "start", "()I"⟩
abbrev cX4_stop : ByteArray := prog_6_method_21_code
def yX4_stop : MethodName := ⟨RX4, "stop", "()I"⟩
abbrev cX4_reset : ByteArray := prog_6_method_22_code
def yX4_reset : MethodName := ⟨RX4, "reset", "()I"⟩
abbrev cX4_barFeed : ByteArray := prog_6_method_23_code
def yX4_barFeed : MethodName := ⟨RX4, "barFeed", "(I)I"⟩
abbrev cX4_feeds : ByteArray := prog_6_method_24_code
def yX4_feeds : MethodName := ⟨RX4, "feeds", "(I)I"⟩
abbrev cX4_feed : ByteArray := prog_6_method_25_code
def yX4_feed : MethodName := ⟨RX4, "feed", "(I)I"⟩
abbrev cX4_slip : ByteArray := prog_6_method_26_code
def yX4_slip : MethodName := ⟨RX4, "slip", "(II)I"⟩
abbrev cX4_take : ByteArray := prog_6_method_27_code
def yX4_take : MethodName := ⟨RX4, "take", "(I)I"⟩
abbrev cX4_alarms : ByteArray := prog_6_method_28_code
def yX4_alarms : MethodName := ⟨RX4, "alarms", "(I)V"⟩
abbrev cX4_delivers : ByteArray := prog_6_method_29_code
def yX4_delivers : MethodName := ⟨RX4, "delivers", "()V"⟩
abbrev cX4_tells : ByteArray := prog_6_method_30_code
def yX4_tells : MethodName := ⟨RX4, "tells", "(III)V"⟩
abbrev cX4_arrives : ByteArray := prog_6_method_31_code
def yX4_arrives : MethodName := ⟨RX4, "arrives", "()V"⟩
abbrev cX4_itemAt : ByteArray := prog_6_method_32_code
def yX4_itemAt : MethodName := ⟨RX4, "itemAt", "(I)I"⟩
abbrev cX4_labels : ByteArray := prog_6_method_33_code
def yX4_labels : MethodName := ⟨RX4, "labels", "(I)V"⟩
abbrev cX4_looks : ByteArray := prog_6_method_34_code
def yX4_looks : MethodName := ⟨RX4, "looks", "(II)V"⟩
abbrev cX4_leaves : ByteArray := prog_6_method_35_code
def yX4_leaves : MethodName := ⟨RX4, "leaves", "(II)V"⟩
abbrev cX4_gates : ByteArray := prog_6_method_36_code
def yX4_gates : MethodName := ⟨RX4, "gates", "(I)Z"⟩
abbrev cX4_acts : ByteArray := prog_6_method_37_code
def yX4_acts : MethodName := ⟨RX4, "acts", "(I)Z"⟩
abbrev cX4_exits : ByteArray := prog_6_method_38_code
def yX4_exits : MethodName := ⟨RX4, "exits", "()V"⟩
abbrev cX4_pulses : ByteArray := prog_6_method_39_code
def yX4_pulses : MethodName := ⟨RX4, "pulses", "()V"⟩
abbrev cX4_tickOn : ByteArray := prog_6_method_40_code
def yX4_tickOn : MethodName := ⟨RX4, "tickOn", "()V"⟩
abbrev cX4_runs : ByteArray := prog_6_method_41_code
def yX4_runs : MethodName := ⟨RX4, "runs", "(I)I"⟩
abbrev cX4_run : ByteArray := prog_6_method_42_code
def yX4_run : MethodName := ⟨RX4, "run", "(I)I"⟩
abbrev cX4_tellStatus : ByteArray := prog_6_method_43_code
def yX4_tellStatus : MethodName := ⟨RX4, "tellStatus", "(I)I"⟩
abbrev cX4_status : ByteArray := prog_6_method_44_code
def yX4_status : MethodName := ⟨RX4, "status", "(I)I"⟩
abbrev cX4_item : ByteArray := prog_6_method_45_code
def yX4_item : MethodName := ⟨RX4, "item", "(II)I"⟩
abbrev cX4_record : ByteArray := prog_6_method_46_code
def yX4_record : MethodName := ⟨RX4, "record", "(II)I"⟩
abbrev cX4_numberAt : ByteArray := prog_6_method_47_code
def yX4_numberAt : MethodName := ⟨RX4, "numberAt", "(IZ)I"⟩
abbrev cX4_counter : ByteArray := prog_6_method_48_code
def yX4_counter : MethodName := ⟨RX4, "counter", "(I)I"⟩
abbrev cX4_reconcile : ByteArray := prog_6_method_49_code
def yX4_reconcile : MethodName := ⟨RX4, "reconcile", "(Z)I"⟩
abbrev cX4_goodShare : ByteArray := prog_6_method_50_code
def yX4_goodShare : MethodName := ⟨RX4, "goodShare", "()D"⟩
abbrev cX4_spareOf : ByteArray := prog_6_method_51_code
def yX4_spareOf : MethodName := ⟨RX4, "spareOf", "(I)I"⟩
abbrev cX4_spare : ByteArray := prog_6_method_52_code
def yX4_spare : MethodName := ⟨RX4, "spare", "(I)I"⟩
abbrev cX4_fastest : ByteArray := prog_6_method_53_code
def yX4_fastest : MethodName := ⟨RX4, "fastest", "()I"⟩
abbrev cX4_fate : ByteArray := prog_6_method_54_code
def yX4_fate : MethodName := ⟨RX4, "fate", "(I)I"⟩
abbrev cX4_append : ByteArray := prog_6_method_55_code
def yX4_append : MethodName := ⟨RX4, "append", "(I)I"⟩
abbrev cX4_clearText : ByteArray := prog_6_method_56_code
def yX4_clearText : MethodName := ⟨RX4, "clearText", "()I"⟩
abbrev cX4_does : ByteArray := prog_6_method_57_code
def yX4_does : MethodName := ⟨RX4, "does", "(I)Z"⟩
abbrev cX4_carryOut : ByteArray := prog_6_method_58_code
def yX4_carryOut : MethodName := ⟨RX4, "carryOut", "()I"⟩
abbrev cX4_mix : ByteArray := prog_6_method_59_code
def yX4_mix : MethodName := ⟨RX4, "mix", "(I)V"⟩
abbrev cX4_mixAll : ByteArray := prog_6_method_60_code
def yX4_mixAll : MethodName := ⟨RX4, "mixAll", "(II)V"⟩
abbrev cX4_digest : ByteArray := prog_6_method_61_code
def yX4_digest : MethodName := ⟨RX4, "digest", "()J"⟩
def RJx145de : String := "java/io/Serializable"
def TJx145de : u_T := fun k => match k with
  | _ => ("", "", "", false)
def tyJx145de : Nat → FieldType := fun k => match k with
  | _ => .int
abbrev wsJx145de0 : List Cond := u_ws RJx145de TJx145de 0
theorem nmJx145de : ∀ a, a < 0 → ∀ b, b < 0 → a ≠ b → (TJx145de a).2.1 ≠ (TJx145de b).2.1 := by decide +kernel
theorem tyJx145de_ok : ∀ k, k < 0 → parseFieldDescriptor (TJx145de k).2.2.1 = some (tyJx145de k) := by decide +kernel
def RJ9 : String := "java/lang/Math"
def TJ9 : u_T := fun k => match k with
  | _ => ("", "", "", false)
def tyJ9 : Nat → FieldType := fun k => match k with
  | _ => .int
abbrev wsJ90 : List Cond := u_ws RJ9 TJ9 0
theorem nmJ9 : ∀ a, a < 0 → ∀ b, b < 0 → a ≠ b → (TJ9 a).2.1 ≠ (TJ9 b).2.1 := by decide +kernel
theorem tyJ9_ok : ∀ k, k < 0 → parseFieldDescriptor (TJ9 k).2.2.1 = some (tyJ9 k) := by decide +kernel
abbrev cJ9_abs_0f7a4 : ByteArray := prog_12_method_59_code
def yJ9_abs_0f7a4 : MethodName := ⟨RJ9, "abs", "(I)I"⟩
abbrev cJ9_max_7cf53 : ByteArray := prog_12_method_65_code
def yJ9_max_7cf53 : MethodName := ⟨RJ9, "max", "(II)I"⟩
abbrev cJ9_min_7cf53 : ByteArray := prog_12_method_69_code
def yJ9_min_7cf53 : MethodName := ⟨RJ9, "min", "(II)I"⟩
def RJ0 : String := "java/lang/String"
def TJ0 : u_T := fun k => match k with
  | _ => ("", "", "", false)
def tyJ0 : Nat → FieldType := fun k => match k with
  | _ => .int
abbrev wsJ00 : List Cond := u_ws RJ0 TJ0 0
theorem nmJ0 : ∀ a, a < 0 → ∀ b, b < 0 → a ≠ b → (TJ0 a).2.1 ≠ (TJ0 b).2.1 := by decide +kernel
theorem tyJ0_ok : ∀ k, k < 0 → parseFieldDescriptor (TJ0 k).2.2.1 = some (tyJ0 k) := by decide +kernel
def RJ10 : String := "java/lang/System"
def TJ10 : u_T := fun k => match k with
  | _ => ("", "", "", false)
def tyJ10 : Nat → FieldType := fun k => match k with
  | _ => .int
abbrev wsJ100 : List Cond := u_ws RJ10 TJ10 0
theorem nmJ10 : ∀ a, a < 0 → ∀ b, b < 0 → a ≠ b → (TJ10 a).2.1 ≠ (TJ10 b).2.1 := by decide +kernel
theorem tyJ10_ok : ∀ k, k < 0 → parseFieldDescriptor (TJ10 k).2.2.1 = some (tyJ10 k) := by decide +kernel
def RL : String := "LabelStationLaw"
abbrev cL_setPlaces : ByteArray := method_3_code
def yL_setPlaces : MethodName := ⟨RL, "setPlaces", "(LLabelStation;IIIII[J)I"⟩
abbrev cL_set : ByteArray := method_4_code
def yL_set : MethodName := ⟨RL, "set", "(LLabelStation;II[J)I"⟩
abbrev cL_value : ByteArray := method_5_code
def yL_value : MethodName := ⟨RL, "value", "(LLabelStation;I[J)I"⟩
abbrev cL_start : ByteArray := method_6_code
def yL_start : MethodName := ⟨RL, "start", "(LLabelStation;[J)I"⟩
abbrev cL_stop : ByteArray := method_7_code
def yL_stop : MethodName := ⟨RL, "stop", "(LLabelStation;[J)I"⟩
abbrev cL_reset : ByteArray := method_8_code
def yL_reset : MethodName := ⟨RL, "reset", "(LLabelStation;[J)I"⟩
abbrev cL_feed : ByteArray := method_9_code
def yL_feed : MethodName := ⟨RL, "feed", "(LLabelStation;I[J)I"⟩
abbrev cL_slip : ByteArray := method_10_code
def yL_slip : MethodName := ⟨RL, "slip", "(LLabelStation;II[J)I"⟩
abbrev cL_take : ByteArray := method_11_code
def yL_take : MethodName := ⟨RL, "take", "(LLabelStation;I[J)I"⟩
abbrev cL_run : ByteArray := method_12_code
def yL_run : MethodName := ⟨RL, "run", "(LLabelStation;I[J)I"⟩
abbrev cL_status : ByteArray := method_13_code
def yL_status : MethodName := ⟨RL, "status", "(LLabelStation;I[J)I"⟩
abbrev cL_item : ByteArray := method_14_code
def yL_item : MethodName := ⟨RL, "item", "(LLabelStation;II[J)I"⟩
abbrev cL_record : ByteArray := method_15_code
def yL_record : MethodName := ⟨RL, "record", "(LLabelStation;II[J)I"⟩
abbrev cL_numberAt : ByteArray := method_16_code
def yL_numberAt : MethodName := ⟨RL, "numberAt", "(LLabelStation;IZ[J)I"⟩
abbrev cL_counter : ByteArray := method_17_code
def yL_counter : MethodName := ⟨RL, "counter", "(LLabelStation;I[J)I"⟩
abbrev cL_spare : ByteArray := method_18_code
def yL_spare : MethodName := ⟨RL, "spare", "(LLabelStation;I[J)I"⟩
abbrev cL_fate : ByteArray := method_19_code
def yL_fate : MethodName := ⟨RL, "fate", "(LLabelStation;I[J)I"⟩
abbrev cL_append : ByteArray := method_20_code
def yL_append : MethodName := ⟨RL, "append", "(LLabelStation;I[J)I"⟩
abbrev cL_undo : ByteArray := method_21_code
def yL_undo : MethodName := ⟨RL, "undo", "(LLabelStation;[J)I"⟩
abbrev cL_law : ByteArray := code
def yL_law : MethodName := ⟨RL, "law", "([I)Z"⟩
noncomputable def wsX2_init : List Cond := .code yX2_init cX2_init 3 none :: ([.methodLink RX2 3 objectInit, .instanceMethod objectInit, .code objectInit ⟨#[0xb1]⟩ 1 none, .fieldLink RX2 9 "LabelStation$Table" "rows" "I", .methodLink RX2 15 Lib.Math.max.name, .static Lib.Math.max.name, .initialized "java/lang/Math", .code Lib.Math.max.name Lib.Math.max.code 2 (some .int), .fieldLink RX2 21 "LabelStation$Table" "width" "I", .fieldLink RX2 24 "LabelStation$Table" "room" "I", .arrayClass .int, .fieldLink RX2 27 "LabelStation$Table" "cells" "[I"] ++ wsX20)
noncomputable def wsX1_init_r1 : List Cond := [Cond.methodLink RX1 3 objectInit, Cond.instanceMethod objectInit, Cond.code objectInit ⟨#[0xb1]⟩ 1 none, Cond.arrayClass .int, Cond.fieldLink RX1 9 "LabelStation$State" "settings" "[I", Cond.fieldLink RX1 15 "LabelStation$State" "places" "[I", Cond.fieldLink RX1 18 "LabelStation$State" "counters" "[I", Cond.classLink RX1 21 RX2, Cond.instantiable RX2 4, Cond.initialized RX2, Cond.fieldLink RX1 26 "LabelStation$State" "items" "LLabelStation$Table;", Cond.fieldLink RX1 30 "LabelStation$State" "records" "LLabelStation$Table;", Cond.fieldLink RX1 33 "LabelStation$State" "verdicts" "LLabelStation$Table;", Cond.fieldLink RX1 36 "LabelStation$State" "binArrivals" "LLabelStation$Table;", Cond.fieldLink RX1 39 "LabelStation$State" "expectations" "LLabelStation$Table;", Cond.fieldLink RX1 42 "LabelStation$State" "tick" "I", Cond.fieldLink RX1 46 "LabelStation$State" "running" "Z", Cond.fieldLink RX1 50 "LabelStation$State" "alarm" "I", Cond.fieldLink RX1 53 "LabelStation$State" "jammed" "Z", Cond.fieldLink RX1 56 "LabelStation$State" "consecutiveRejects" "I", Cond.fieldLink RX1 59 "LabelStation$State" "diverted" "I", Cond.fieldLink RX1 62 "LabelStation$State" "watched" "I", Cond.fieldLink RX1 65 "LabelStation$State" "outcome" "I", Cond.methodLink RX1 23 yX2_init]
noncomputable def wsX1_init_r2 : List Cond := [Cond.instanceMethod yX2_init, Cond.code yX2_init cX2_init 3 none, Cond.methodLink RX2 3 objectInit, Cond.fieldLink RX2 9 "LabelStation$Table" "rows" "I", Cond.methodLink RX2 15 Lib.Math.max.name, Cond.static Lib.Math.max.name, Cond.initialized "java/lang/Math", Cond.code Lib.Math.max.name Lib.Math.max.code 2 (some .int), Cond.fieldLink RX2 21 "LabelStation$Table" "width" "I", Cond.fieldLink RX2 24 "LabelStation$Table" "room" "I", Cond.fieldLink RX2 27 "LabelStation$Table" "cells" "[I"]
noncomputable def wsX1_init : List Cond := .code yX1_init cX1_init 1 none :: ((wsX1_init_r1 ++ wsX1_init_r2) ++ wsX10 ++ wsX20)
noncomputable def wsX0_init_r1 : List Cond := [Cond.methodLink RX0 3 objectInit, Cond.instanceMethod objectInit, Cond.code objectInit ⟨#[0xb1]⟩ 1 none, Cond.classLink RX0 9 RX1, Cond.fieldLink RX0 11 "LabelStation$History" "slots" "[LLabelStation$State;", Cond.fieldLink RX0 17 "LabelStation$History" "oldest" "I", Cond.fieldLink RX0 21 "LabelStation$History" "saved" "I", Cond.instantiable RX1 16, Cond.initialized RX1, Cond.methodLink RX0 24 yX1_init, Cond.instanceMethod yX1_init, Cond.code yX1_init cX1_init 1 none, Cond.methodLink RX1 3 objectInit, Cond.arrayClass .int, Cond.fieldLink RX1 9 "LabelStation$State" "settings" "[I", Cond.fieldLink RX1 15 "LabelStation$State" "places" "[I", Cond.fieldLink RX1 18 "LabelStation$State" "counters" "[I", Cond.classLink RX1 21 RX2, Cond.instantiable RX2 4, Cond.initialized RX2, Cond.fieldLink RX1 26 "LabelStation$State" "items" "LLabelStation$Table;", Cond.fieldLink RX1 30 "LabelStation$State" "records" "LLabelStation$Table;", Cond.fieldLink RX1 33 "LabelStation$State" "verdicts" "LLabelStation$Table;", Cond.fieldLink RX1 36 "LabelStation$State" "binArrivals" "LLabelStation$Table;"]
noncomputable def wsX0_init_r2 : List Cond := [Cond.fieldLink RX1 39 "LabelStation$State" "expectations" "LLabelStation$Table;", Cond.fieldLink RX1 42 "LabelStation$State" "tick" "I", Cond.fieldLink RX1 46 "LabelStation$State" "running" "Z", Cond.fieldLink RX1 50 "LabelStation$State" "alarm" "I", Cond.fieldLink RX1 53 "LabelStation$State" "jammed" "Z", Cond.fieldLink RX1 56 "LabelStation$State" "consecutiveRejects" "I", Cond.fieldLink RX1 59 "LabelStation$State" "diverted" "I", Cond.fieldLink RX1 62 "LabelStation$State" "watched" "I", Cond.fieldLink RX1 65 "LabelStation$State" "outcome" "I", Cond.methodLink RX1 23 yX2_init, Cond.instanceMethod yX2_init, Cond.code yX2_init cX2_init 3 none, Cond.methodLink RX2 3 objectInit, Cond.fieldLink RX2 9 "LabelStation$Table" "rows" "I", Cond.methodLink RX2 15 Lib.Math.max.name, Cond.static Lib.Math.max.name, Cond.initialized "java/lang/Math", Cond.code Lib.Math.max.name Lib.Math.max.code 2 (some .int), Cond.fieldLink RX2 21 "LabelStation$Table" "width" "I", Cond.fieldLink RX2 24 "LabelStation$Table" "room" "I", Cond.fieldLink RX2 27 "LabelStation$Table" "cells" "[I"]
noncomputable def wsX0_init : List Cond := .code yX0_init cX0_init 2 none :: ((wsX0_init_r1 ++ wsX0_init_r2) ++ wsX00 ++ wsX10 ++ wsX20)
noncomputable def wsX0_count : List Cond := .code yX0_count cX0_count 1 (some .int) :: ([.fieldLink RX0 21 "LabelStation$History" "saved" "I"] ++ wsX00)
noncomputable def wsX0_slotAt : List Cond := .code yX0_slotAt cX0_slotAt 3 (some (.object "LabelStation$State")) :: ([.fieldLink RX0 17 "LabelStation$History" "oldest" "I", .fieldLink RX0 11 "LabelStation$History" "slots" "[LLabelStation$State;"] ++ wsX00)
noncomputable def wsX2_copyFrom : List Cond := .code yX2_copyFrom cX2_copyFrom 2 none :: ([.fieldLink RX2 27 "LabelStation$Table" "cells" "[I", .methodLink RX2 31 arraycopyName, .native arraycopyName, .static arraycopyName, .initialized "java/lang/System", .fieldLink RX2 9 "LabelStation$Table" "rows" "I"] ++ wsX20)
noncomputable def wsX1_copyFrom_r1 : List Cond := [Cond.fieldLink RX1 9 "LabelStation$State" "settings" "[I", Cond.methodLink RX1 68 Lib.Math.min.name, Cond.static Lib.Math.min.name, Cond.initialized "java/lang/Math", Cond.code Lib.Math.min.name Lib.Math.min.code 2 (some .int), Cond.methodLink RX1 74 arraycopyName, Cond.native arraycopyName, Cond.static arraycopyName, Cond.initialized "java/lang/System", Cond.fieldLink RX1 15 "LabelStation$State" "places" "[I", Cond.fieldLink RX1 18 "LabelStation$State" "counters" "[I", Cond.fieldLink RX1 26 "LabelStation$State" "items" "LLabelStation$Table;", Cond.fieldLink RX1 30 "LabelStation$State" "records" "LLabelStation$Table;", Cond.fieldLink RX1 33 "LabelStation$State" "verdicts" "LLabelStation$Table;", Cond.fieldLink RX1 36 "LabelStation$State" "binArrivals" "LLabelStation$Table;", Cond.fieldLink RX1 39 "LabelStation$State" "expectations" "LLabelStation$Table;", Cond.fieldLink RX1 42 "LabelStation$State" "tick" "I", Cond.fieldLink RX1 46 "LabelStation$State" "running" "Z", Cond.fieldLink RX1 50 "LabelStation$State" "alarm" "I", Cond.fieldLink RX1 53 "LabelStation$State" "jammed" "Z", Cond.fieldLink RX1 56 "LabelStation$State" "consecutiveRejects" "I", Cond.fieldLink RX1 59 "LabelStation$State" "diverted" "I", Cond.methodLink RX1 80 yX2_copyFrom, Cond.instanceMethod yX2_copyFrom]
noncomputable def wsX1_copyFrom_r2 : List Cond := [Cond.selects RX2 yX2_copyFrom yX2_copyFrom, Cond.initialized RX2, Cond.code yX2_copyFrom cX2_copyFrom 2 none, Cond.fieldLink RX2 27 "LabelStation$Table" "cells" "[I", Cond.methodLink RX2 31 arraycopyName, Cond.fieldLink RX2 9 "LabelStation$Table" "rows" "I"]
noncomputable def wsX1_copyFrom : List Cond := .code yX1_copyFrom cX1_copyFrom 2 none :: ((wsX1_copyFrom_r1 ++ wsX1_copyFrom_r2) ++ wsX10 ++ wsX20)
noncomputable def wsX0_prepare_r1 : List Cond := [Cond.fieldLink RX0 21 "LabelStation$History" "saved" "I", Cond.methodLink RX0 32 yX0_slotAt, Cond.instanceMethod yX0_slotAt, Cond.selects RX0 yX0_slotAt yX0_slotAt, Cond.initialized RX0, Cond.code yX0_slotAt cX0_slotAt 3 (some (.object "LabelStation$State")), Cond.fieldLink RX0 17 "LabelStation$History" "oldest" "I", Cond.fieldLink RX0 11 "LabelStation$History" "slots" "[LLabelStation$State;", Cond.methodLink RX0 36 yX1_copyFrom, Cond.instanceMethod yX1_copyFrom, Cond.selects RX1 yX1_copyFrom yX1_copyFrom, Cond.initialized RX1, Cond.code yX1_copyFrom cX1_copyFrom 2 none, Cond.fieldLink RX1 9 "LabelStation$State" "settings" "[I", Cond.methodLink RX1 68 Lib.Math.min.name, Cond.static Lib.Math.min.name, Cond.initialized "java/lang/Math", Cond.code Lib.Math.min.name Lib.Math.min.code 2 (some .int), Cond.methodLink RX1 74 arraycopyName, Cond.native arraycopyName, Cond.static arraycopyName, Cond.initialized "java/lang/System", Cond.fieldLink RX1 15 "LabelStation$State" "places" "[I", Cond.fieldLink RX1 18 "LabelStation$State" "counters" "[I"]
noncomputable def wsX0_prepare_r2 : List Cond := [Cond.fieldLink RX1 26 "LabelStation$State" "items" "LLabelStation$Table;", Cond.fieldLink RX1 30 "LabelStation$State" "records" "LLabelStation$Table;", Cond.fieldLink RX1 33 "LabelStation$State" "verdicts" "LLabelStation$Table;", Cond.fieldLink RX1 36 "LabelStation$State" "binArrivals" "LLabelStation$Table;", Cond.fieldLink RX1 39 "LabelStation$State" "expectations" "LLabelStation$Table;", Cond.fieldLink RX1 42 "LabelStation$State" "tick" "I", Cond.fieldLink RX1 46 "LabelStation$State" "running" "Z", Cond.fieldLink RX1 50 "LabelStation$State" "alarm" "I", Cond.fieldLink RX1 53 "LabelStation$State" "jammed" "Z", Cond.fieldLink RX1 56 "LabelStation$State" "consecutiveRejects" "I", Cond.fieldLink RX1 59 "LabelStation$State" "diverted" "I", Cond.methodLink RX1 80 yX2_copyFrom, Cond.instanceMethod yX2_copyFrom, Cond.selects RX2 yX2_copyFrom yX2_copyFrom, Cond.initialized RX2, Cond.code yX2_copyFrom cX2_copyFrom 2 none, Cond.fieldLink RX2 27 "LabelStation$Table" "cells" "[I", Cond.methodLink RX2 31 arraycopyName, Cond.fieldLink RX2 9 "LabelStation$Table" "rows" "I"]
noncomputable def wsX0_prepare : List Cond := .code yX0_prepare cX0_prepare 3 none :: ((wsX0_prepare_r1 ++ wsX0_prepare_r2) ++ wsX00 ++ wsX10 ++ wsX20)
noncomputable def wsX0_keepPrepared : List Cond := .code yX0_keepPrepared cX0_keepPrepared 1 none :: ([.fieldLink RX0 21 "LabelStation$History" "saved" "I", .fieldLink RX0 17 "LabelStation$History" "oldest" "I"] ++ wsX00)
noncomputable def wsX0_save_r1 : List Cond := [Cond.methodLink RX0 25 yX0_prepare, Cond.instanceMethod yX0_prepare, Cond.selects RX0 yX0_prepare yX0_prepare, Cond.initialized RX0, Cond.code yX0_prepare cX0_prepare 3 none, Cond.fieldLink RX0 21 "LabelStation$History" "saved" "I", Cond.methodLink RX0 32 yX0_slotAt, Cond.instanceMethod yX0_slotAt, Cond.selects RX0 yX0_slotAt yX0_slotAt, Cond.code yX0_slotAt cX0_slotAt 3 (some (.object "LabelStation$State")), Cond.fieldLink RX0 17 "LabelStation$History" "oldest" "I", Cond.fieldLink RX0 11 "LabelStation$History" "slots" "[LLabelStation$State;", Cond.methodLink RX0 36 yX1_copyFrom, Cond.instanceMethod yX1_copyFrom, Cond.selects RX1 yX1_copyFrom yX1_copyFrom, Cond.initialized RX1, Cond.code yX1_copyFrom cX1_copyFrom 2 none, Cond.fieldLink RX1 9 "LabelStation$State" "settings" "[I", Cond.methodLink RX1 68 Lib.Math.min.name, Cond.static Lib.Math.min.name, Cond.initialized "java/lang/Math", Cond.code Lib.Math.min.name Lib.Math.min.code 2 (some .int), Cond.methodLink RX1 74 arraycopyName, Cond.native arraycopyName]
noncomputable def wsX0_save_r2 : List Cond := [Cond.static arraycopyName, Cond.initialized "java/lang/System", Cond.fieldLink RX1 15 "LabelStation$State" "places" "[I", Cond.fieldLink RX1 18 "LabelStation$State" "counters" "[I", Cond.fieldLink RX1 26 "LabelStation$State" "items" "LLabelStation$Table;", Cond.fieldLink RX1 30 "LabelStation$State" "records" "LLabelStation$Table;", Cond.fieldLink RX1 33 "LabelStation$State" "verdicts" "LLabelStation$Table;", Cond.fieldLink RX1 36 "LabelStation$State" "binArrivals" "LLabelStation$Table;", Cond.fieldLink RX1 39 "LabelStation$State" "expectations" "LLabelStation$Table;", Cond.fieldLink RX1 42 "LabelStation$State" "tick" "I", Cond.fieldLink RX1 46 "LabelStation$State" "running" "Z", Cond.fieldLink RX1 50 "LabelStation$State" "alarm" "I", Cond.fieldLink RX1 53 "LabelStation$State" "jammed" "Z", Cond.fieldLink RX1 56 "LabelStation$State" "consecutiveRejects" "I", Cond.fieldLink RX1 59 "LabelStation$State" "diverted" "I", Cond.methodLink RX1 80 yX2_copyFrom, Cond.instanceMethod yX2_copyFrom, Cond.selects RX2 yX2_copyFrom yX2_copyFrom, Cond.initialized RX2, Cond.code yX2_copyFrom cX2_copyFrom 2 none, Cond.fieldLink RX2 27 "LabelStation$Table" "cells" "[I", Cond.methodLink RX2 31 arraycopyName, Cond.fieldLink RX2 9 "LabelStation$Table" "rows" "I", Cond.methodLink RX0 29 yX0_keepPrepared]
noncomputable def wsX0_save_r3 : List Cond := [Cond.instanceMethod yX0_keepPrepared, Cond.selects RX0 yX0_keepPrepared yX0_keepPrepared, Cond.code yX0_keepPrepared cX0_keepPrepared 1 none]
noncomputable def wsX0_save : List Cond := .code yX0_save cX0_save 2 none :: ((wsX0_save_r1 ++ (wsX0_save_r2 ++ wsX0_save_r3)) ++ wsX00 ++ wsX10 ++ wsX20)
noncomputable def wsX0_bringBackPrepared_r1 : List Cond := [Cond.fieldLink RX0 21 "LabelStation$History" "saved" "I", Cond.methodLink RX0 32 yX0_slotAt, Cond.instanceMethod yX0_slotAt, Cond.selects RX0 yX0_slotAt yX0_slotAt, Cond.initialized RX0, Cond.code yX0_slotAt cX0_slotAt 3 (some (.object "LabelStation$State")), Cond.fieldLink RX0 17 "LabelStation$History" "oldest" "I", Cond.fieldLink RX0 11 "LabelStation$History" "slots" "[LLabelStation$State;", Cond.methodLink RX0 36 yX1_copyFrom, Cond.instanceMethod yX1_copyFrom, Cond.selects RX1 yX1_copyFrom yX1_copyFrom, Cond.initialized RX1, Cond.code yX1_copyFrom cX1_copyFrom 2 none, Cond.fieldLink RX1 9 "LabelStation$State" "settings" "[I", Cond.methodLink RX1 68 Lib.Math.min.name, Cond.static Lib.Math.min.name, Cond.initialized "java/lang/Math", Cond.code Lib.Math.min.name Lib.Math.min.code 2 (some .int), Cond.methodLink RX1 74 arraycopyName, Cond.native arraycopyName, Cond.static arraycopyName, Cond.initialized "java/lang/System", Cond.fieldLink RX1 15 "LabelStation$State" "places" "[I", Cond.fieldLink RX1 18 "LabelStation$State" "counters" "[I"]
noncomputable def wsX0_bringBackPrepared_r2 : List Cond := [Cond.fieldLink RX1 26 "LabelStation$State" "items" "LLabelStation$Table;", Cond.fieldLink RX1 30 "LabelStation$State" "records" "LLabelStation$Table;", Cond.fieldLink RX1 33 "LabelStation$State" "verdicts" "LLabelStation$Table;", Cond.fieldLink RX1 36 "LabelStation$State" "binArrivals" "LLabelStation$Table;", Cond.fieldLink RX1 39 "LabelStation$State" "expectations" "LLabelStation$Table;", Cond.fieldLink RX1 42 "LabelStation$State" "tick" "I", Cond.fieldLink RX1 46 "LabelStation$State" "running" "Z", Cond.fieldLink RX1 50 "LabelStation$State" "alarm" "I", Cond.fieldLink RX1 53 "LabelStation$State" "jammed" "Z", Cond.fieldLink RX1 56 "LabelStation$State" "consecutiveRejects" "I", Cond.fieldLink RX1 59 "LabelStation$State" "diverted" "I", Cond.methodLink RX1 80 yX2_copyFrom, Cond.instanceMethod yX2_copyFrom, Cond.selects RX2 yX2_copyFrom yX2_copyFrom, Cond.initialized RX2, Cond.code yX2_copyFrom cX2_copyFrom 2 none, Cond.fieldLink RX2 27 "LabelStation$Table" "cells" "[I", Cond.methodLink RX2 31 arraycopyName, Cond.fieldLink RX2 9 "LabelStation$Table" "rows" "I"]
noncomputable def wsX0_bringBackPrepared : List Cond := .code yX0_bringBackPrepared cX0_bringBackPrepared 3 none :: ((wsX0_bringBackPrepared_r1 ++ wsX0_bringBackPrepared_r2) ++ wsX00 ++ wsX10 ++ wsX20)
noncomputable def wsX0_bringBackLatest_r1 : List Cond := [Cond.fieldLink RX0 21 "LabelStation$History" "saved" "I", Cond.methodLink RX0 39 yX0_bringBackPrepared, Cond.instanceMethod yX0_bringBackPrepared, Cond.selects RX0 yX0_bringBackPrepared yX0_bringBackPrepared, Cond.initialized RX0, Cond.code yX0_bringBackPrepared cX0_bringBackPrepared 3 none, Cond.methodLink RX0 32 yX0_slotAt, Cond.instanceMethod yX0_slotAt, Cond.selects RX0 yX0_slotAt yX0_slotAt, Cond.code yX0_slotAt cX0_slotAt 3 (some (.object "LabelStation$State")), Cond.fieldLink RX0 17 "LabelStation$History" "oldest" "I", Cond.fieldLink RX0 11 "LabelStation$History" "slots" "[LLabelStation$State;", Cond.methodLink RX0 36 yX1_copyFrom, Cond.instanceMethod yX1_copyFrom, Cond.selects RX1 yX1_copyFrom yX1_copyFrom, Cond.initialized RX1, Cond.code yX1_copyFrom cX1_copyFrom 2 none, Cond.fieldLink RX1 9 "LabelStation$State" "settings" "[I", Cond.methodLink RX1 68 Lib.Math.min.name, Cond.static Lib.Math.min.name, Cond.initialized "java/lang/Math", Cond.code Lib.Math.min.name Lib.Math.min.code 2 (some .int), Cond.methodLink RX1 74 arraycopyName, Cond.native arraycopyName]
noncomputable def wsX0_bringBackLatest_r2 : List Cond := [Cond.static arraycopyName, Cond.initialized "java/lang/System", Cond.fieldLink RX1 15 "LabelStation$State" "places" "[I", Cond.fieldLink RX1 18 "LabelStation$State" "counters" "[I", Cond.fieldLink RX1 26 "LabelStation$State" "items" "LLabelStation$Table;", Cond.fieldLink RX1 30 "LabelStation$State" "records" "LLabelStation$Table;", Cond.fieldLink RX1 33 "LabelStation$State" "verdicts" "LLabelStation$Table;", Cond.fieldLink RX1 36 "LabelStation$State" "binArrivals" "LLabelStation$Table;", Cond.fieldLink RX1 39 "LabelStation$State" "expectations" "LLabelStation$Table;", Cond.fieldLink RX1 42 "LabelStation$State" "tick" "I", Cond.fieldLink RX1 46 "LabelStation$State" "running" "Z", Cond.fieldLink RX1 50 "LabelStation$State" "alarm" "I", Cond.fieldLink RX1 53 "LabelStation$State" "jammed" "Z", Cond.fieldLink RX1 56 "LabelStation$State" "consecutiveRejects" "I", Cond.fieldLink RX1 59 "LabelStation$State" "diverted" "I", Cond.methodLink RX1 80 yX2_copyFrom, Cond.instanceMethod yX2_copyFrom, Cond.selects RX2 yX2_copyFrom yX2_copyFrom, Cond.initialized RX2, Cond.code yX2_copyFrom cX2_copyFrom 2 none, Cond.fieldLink RX2 27 "LabelStation$Table" "cells" "[I", Cond.methodLink RX2 31 arraycopyName, Cond.fieldLink RX2 9 "LabelStation$Table" "rows" "I"]
noncomputable def wsX0_bringBackLatest : List Cond := .code yX0_bringBackLatest cX0_bringBackLatest 2 none :: ((wsX0_bringBackLatest_r1 ++ wsX0_bringBackLatest_r2) ++ wsX00 ++ wsX10 ++ wsX20)
noncomputable def wsX1_watch : List Cond := .code yX1_watch cX1_watch 2 none :: ([.fieldLink RX1 62 "LabelStation$State" "watched" "I", .fieldLink RX1 65 "LabelStation$State" "outcome" "I"] ++ wsX10)
noncomputable def wsX1_setting : List Cond := .code yX1_setting cX1_setting 2 (some .int) :: ([.fieldLink RX1 9 "LabelStation$State" "settings" "[I"] ++ wsX10)
noncomputable def wsX1_putSetting : List Cond := .code yX1_putSetting cX1_putSetting 3 none :: ([.fieldLink RX1 9 "LabelStation$State" "settings" "[I"] ++ wsX10)
noncomputable def wsX1_place : List Cond := .code yX1_place cX1_place 2 (some .int) :: ([.fieldLink RX1 15 "LabelStation$State" "places" "[I"] ++ wsX10)
noncomputable def wsX1_putPlace : List Cond := .code yX1_putPlace cX1_putPlace 3 none :: ([.fieldLink RX1 15 "LabelStation$State" "places" "[I"] ++ wsX10)
noncomputable def wsX1_counted : List Cond := .code yX1_counted cX1_counted 2 (some .int) :: ([.fieldLink RX1 18 "LabelStation$State" "counters" "[I"] ++ wsX10)
noncomputable def wsX1_count : List Cond := .code yX1_count cX1_count 2 none :: ([.fieldLink RX1 18 "LabelStation$State" "counters" "[I"] ++ wsX10)
noncomputable def wsX1_valueOf : List Cond := .code yX1_valueOf cX1_valueOf 2 (some .int) :: ([.fieldLink RX1 56 "LabelStation$State" "consecutiveRejects" "I", .fieldLink RX1 9 "LabelStation$State" "settings" "[I", .methodLink RX1 84 yX1_setting, .instanceMethod yX1_setting, .selects RX1 yX1_setting yX1_setting, .initialized RX1, .code yX1_setting cX1_setting 2 (some .int), .methodLink RX1 88 yX1_place, .instanceMethod yX1_place, .selects RX1 yX1_place yX1_place, .code yX1_place cX1_place 2 (some .int), .fieldLink RX1 15 "LabelStation$State" "places" "[I"] ++ wsX10)
noncomputable def wsX2_count : List Cond := .code yX2_count cX2_count 1 (some .int) :: ([.fieldLink RX2 9 "LabelStation$Table" "rows" "I"] ++ wsX20)
noncomputable def wsX1_statusOf : List Cond := .code yX1_statusOf cX1_statusOf 2 (some .int) :: ([.fieldLink RX1 42 "LabelStation$State" "tick" "I", .fieldLink RX1 46 "LabelStation$State" "running" "Z", .fieldLink RX1 50 "LabelStation$State" "alarm" "I", .fieldLink RX1 26 "LabelStation$State" "items" "LLabelStation$Table;", .fieldLink RX1 30 "LabelStation$State" "records" "LLabelStation$Table;", .fieldLink RX1 33 "LabelStation$State" "verdicts" "LLabelStation$Table;", .fieldLink RX1 39 "LabelStation$State" "expectations" "LLabelStation$Table;", .fieldLink RX1 36 "LabelStation$State" "binArrivals" "LLabelStation$Table;", .methodLink RX1 91 yX2_count, .instanceMethod yX2_count, .selects RX2 yX2_count yX2_count, .initialized RX2, .code yX2_count cX2_count 1 (some .int), .fieldLink RX2 9 "LabelStation$Table" "rows" "I"] ++ wsX10 ++ wsX20)
noncomputable def wsX2_get : List Cond := .code yX2_get cX2_get 4 (some .int) :: ([.fieldLink RX2 21 "LabelStation$Table" "width" "I", .fieldLink RX2 27 "LabelStation$Table" "cells" "[I"] ++ wsX20)
noncomputable def wsX2_hasBelow : List Cond := .code yX2_hasBelow cX2_hasBelow 4 (some .boolean) :: ([.fieldLink RX2 9 "LabelStation$Table" "rows" "I", .methodLink RX2 41 yX2_get, .instanceMethod yX2_get, .selects RX2 yX2_get yX2_get, .initialized RX2, .code yX2_get cX2_get 4 (some .int), .fieldLink RX2 21 "LabelStation$Table" "width" "I", .fieldLink RX2 27 "LabelStation$Table" "cells" "[I"] ++ wsX20)
noncomputable def wsX1_hasRoom : List Cond := .code yX1_hasRoom cX1_hasRoom 1 (some .boolean) :: ([.fieldLink RX1 26 "LabelStation$State" "items" "LLabelStation$Table;", .fieldLink RX1 30 "LabelStation$State" "records" "LLabelStation$Table;", .methodLink RX1 91 yX2_count, .instanceMethod yX2_count, .selects RX2 yX2_count yX2_count, .initialized RX2, .code yX2_count cX2_count 1 (some .int), .fieldLink RX2 9 "LabelStation$Table" "rows" "I", .methodLink RX1 95 yX2_hasBelow, .instanceMethod yX2_hasBelow, .selects RX2 yX2_hasBelow yX2_hasBelow, .code yX2_hasBelow cX2_hasBelow 4 (some .boolean), .methodLink RX2 41 yX2_get, .instanceMethod yX2_get, .selects RX2 yX2_get yX2_get, .code yX2_get cX2_get 4 (some .int), .fieldLink RX2 21 "LabelStation$Table" "width" "I", .fieldLink RX2 27 "LabelStation$Table" "cells" "[I"] ++ wsX10 ++ wsX20)
noncomputable def wsX2_put : List Cond := .code yX2_put cX2_put 5 none :: ([.fieldLink RX2 21 "LabelStation$Table" "width" "I", .fieldLink RX2 27 "LabelStation$Table" "cells" "[I"] ++ wsX20)
noncomputable def wsX2_addRow : List Cond := .code yX2_addRow cX2_addRow 4 (some .int) :: ([.fieldLink RX2 9 "LabelStation$Table" "rows" "I", .fieldLink RX2 24 "LabelStation$Table" "room" "I", .fieldLink RX2 21 "LabelStation$Table" "width" "I", .methodLink RX2 37 yX2_put, .instanceMethod yX2_put, .selects RX2 yX2_put yX2_put, .initialized RX2, .code yX2_put cX2_put 5 none, .fieldLink RX2 27 "LabelStation$Table" "cells" "[I"] ++ wsX20)
noncomputable def wsX1_enter_r1 : List Cond := [Cond.fieldLink RX1 26 "LabelStation$State" "items" "LLabelStation$Table;", Cond.fieldLink RX1 30 "LabelStation$State" "records" "LLabelStation$Table;", Cond.methodLink RX1 99 yX1_counted, Cond.instanceMethod yX1_counted, Cond.selects RX1 yX1_counted yX1_counted, Cond.initialized RX1, Cond.code yX1_counted cX1_counted 2 (some .int), Cond.fieldLink RX1 18 "LabelStation$State" "counters" "[I", Cond.methodLink RX1 102 yX1_count, Cond.instanceMethod yX1_count, Cond.selects RX1 yX1_count yX1_count, Cond.code yX1_count cX1_count 2 none, Cond.methodLink RX1 105 yX2_addRow, Cond.instanceMethod yX2_addRow, Cond.selects RX2 yX2_addRow yX2_addRow, Cond.initialized RX2, Cond.code yX2_addRow cX2_addRow 4 (some .int), Cond.fieldLink RX2 9 "LabelStation$Table" "rows" "I", Cond.fieldLink RX2 24 "LabelStation$Table" "room" "I", Cond.fieldLink RX2 21 "LabelStation$Table" "width" "I", Cond.methodLink RX2 37 yX2_put, Cond.instanceMethod yX2_put, Cond.selects RX2 yX2_put yX2_put, Cond.code yX2_put cX2_put 5 none]
noncomputable def wsX1_enter_r2 : List Cond := [Cond.fieldLink RX2 27 "LabelStation$Table" "cells" "[I", Cond.methodLink RX1 108 yX2_put]
noncomputable def wsX1_enter : List Cond := .code yX1_enter cX1_enter 4 (some .int) :: ((wsX1_enter_r1 ++ wsX1_enter_r2) ++ wsX10 ++ wsX20)
noncomputable def wsX2_find : List Cond := .code yX2_find cX2_find 3 (some .int) :: ([.fieldLink RX2 9 "LabelStation$Table" "rows" "I", .methodLink RX2 41 yX2_get, .instanceMethod yX2_get, .selects RX2 yX2_get yX2_get, .initialized RX2, .code yX2_get cX2_get 4 (some .int), .fieldLink RX2 21 "LabelStation$Table" "width" "I", .fieldLink RX2 27 "LabelStation$Table" "cells" "[I"] ++ wsX20)
noncomputable def wsX1_deliver_r1 : List Cond := [Cond.fieldLink RX1 30 "LabelStation$State" "records" "LLabelStation$Table;", Cond.fieldLink RX1 33 "LabelStation$State" "verdicts" "LLabelStation$Table;", Cond.methodLink RX1 124 yX2_get, Cond.instanceMethod yX2_get, Cond.selects RX2 yX2_get yX2_get, Cond.initialized RX2, Cond.code yX2_get cX2_get 4 (some .int), Cond.fieldLink RX2 21 "LabelStation$Table" "width" "I", Cond.fieldLink RX2 27 "LabelStation$Table" "cells" "[I", Cond.methodLink RX1 133 yX2_find, Cond.instanceMethod yX2_find, Cond.selects RX2 yX2_find yX2_find, Cond.code yX2_find cX2_find 3 (some .int), Cond.fieldLink RX2 9 "LabelStation$Table" "rows" "I", Cond.methodLink RX2 41 yX2_get, Cond.methodLink RX1 102 yX1_count, Cond.instanceMethod yX1_count, Cond.selects RX1 yX1_count yX1_count, Cond.initialized RX1, Cond.code yX1_count cX1_count 2 none, Cond.fieldLink RX1 18 "LabelStation$State" "counters" "[I", Cond.methodLink RX1 108 yX2_put, Cond.instanceMethod yX2_put, Cond.selects RX2 yX2_put yX2_put]
noncomputable def wsX1_deliver_r2 : List Cond := [Cond.code yX2_put cX2_put 5 none]
noncomputable def wsX1_deliver : List Cond := .code yX1_deliver cX1_deliver 5 none :: ((wsX1_deliver_r1 ++ wsX1_deliver_r2) ++ wsX10 ++ wsX20)
noncomputable def wsX2_removeRow : List Cond := .code yX2_removeRow cX2_removeRow 3 none :: ([.fieldLink RX2 9 "LabelStation$Table" "rows" "I", .fieldLink RX2 21 "LabelStation$Table" "width" "I", .fieldLink RX2 27 "LabelStation$Table" "cells" "[I"] ++ wsX20)
noncomputable def wsX2_removeRowsOf : List Cond := .code yX2_removeRowsOf cX2_removeRowsOf 3 none :: ([.fieldLink RX2 9 "LabelStation$Table" "rows" "I", .methodLink RX2 41 yX2_get, .instanceMethod yX2_get, .selects RX2 yX2_get yX2_get, .initialized RX2, .code yX2_get cX2_get 4 (some .int), .fieldLink RX2 21 "LabelStation$Table" "width" "I", .fieldLink RX2 27 "LabelStation$Table" "cells" "[I", .methodLink RX2 44 yX2_removeRow, .instanceMethod yX2_removeRow, .selects RX2 yX2_removeRow yX2_removeRow, .code yX2_removeRow cX2_removeRow 3 none] ++ wsX20)
noncomputable def wsX1_deliverVerdicts_r1 : List Cond := [Cond.fieldLink RX1 33 "LabelStation$State" "verdicts" "LLabelStation$Table;", Cond.fieldLink RX1 42 "LabelStation$State" "tick" "I", Cond.methodLink RX1 91 yX2_count, Cond.instanceMethod yX2_count, Cond.selects RX2 yX2_count yX2_count, Cond.initialized RX2, Cond.code yX2_count cX2_count 1 (some .int), Cond.fieldLink RX2 9 "LabelStation$Table" "rows" "I", Cond.methodLink RX1 124 yX2_get, Cond.instanceMethod yX2_get, Cond.selects RX2 yX2_get yX2_get, Cond.code yX2_get cX2_get 4 (some .int), Cond.fieldLink RX2 21 "LabelStation$Table" "width" "I", Cond.fieldLink RX2 27 "LabelStation$Table" "cells" "[I", Cond.methodLink RX1 127 yX1_deliver, Cond.instanceMethod yX1_deliver, Cond.selects RX1 yX1_deliver yX1_deliver, Cond.initialized RX1, Cond.code yX1_deliver cX1_deliver 5 none, Cond.fieldLink RX1 30 "LabelStation$State" "records" "LLabelStation$Table;", Cond.methodLink RX1 133 yX2_find, Cond.instanceMethod yX2_find, Cond.selects RX2 yX2_find yX2_find, Cond.code yX2_find cX2_find 3 (some .int)]
noncomputable def wsX1_deliverVerdicts_r2 : List Cond := [Cond.methodLink RX2 41 yX2_get, Cond.methodLink RX1 102 yX1_count, Cond.instanceMethod yX1_count, Cond.selects RX1 yX1_count yX1_count, Cond.code yX1_count cX1_count 2 none, Cond.fieldLink RX1 18 "LabelStation$State" "counters" "[I", Cond.methodLink RX1 108 yX2_put, Cond.instanceMethod yX2_put, Cond.selects RX2 yX2_put yX2_put, Cond.code yX2_put cX2_put 5 none, Cond.methodLink RX1 130 yX2_removeRowsOf, Cond.instanceMethod yX2_removeRowsOf, Cond.selects RX2 yX2_removeRowsOf yX2_removeRowsOf, Cond.code yX2_removeRowsOf cX2_removeRowsOf 3 none, Cond.methodLink RX2 44 yX2_removeRow, Cond.instanceMethod yX2_removeRow, Cond.selects RX2 yX2_removeRow yX2_removeRow, Cond.code yX2_removeRow cX2_removeRow 3 none]
noncomputable def wsX1_deliverVerdicts : List Cond := .code yX1_deliverVerdicts cX1_deliverVerdicts 2 none :: ((wsX1_deliverVerdicts_r1 ++ wsX1_deliverVerdicts_r2) ++ wsX10 ++ wsX20)
noncomputable def wsX1_raise : List Cond := .code yX1_raise cX1_raise 2 none :: ([.fieldLink RX1 50 "LabelStation$State" "alarm" "I", .fieldLink RX1 46 "LabelStation$State" "running" "Z", .methodLink RX1 102 yX1_count, .instanceMethod yX1_count, .selects RX1 yX1_count yX1_count, .initialized RX1, .code yX1_count cX1_count 2 none, .fieldLink RX1 18 "LabelStation$State" "counters" "[I"] ++ wsX10)
noncomputable def wsX1_confirmOldest_r1 : List Cond := [Cond.fieldLink RX1 39 "LabelStation$State" "expectations" "LLabelStation$Table;", Cond.methodLink RX1 91 yX2_count, Cond.instanceMethod yX2_count, Cond.selects RX2 yX2_count yX2_count, Cond.initialized RX2, Cond.code yX2_count cX2_count 1 (some .int), Cond.fieldLink RX2 9 "LabelStation$Table" "rows" "I", Cond.methodLink RX1 139 yX1_raise, Cond.instanceMethod yX1_raise, Cond.selects RX1 yX1_raise yX1_raise, Cond.initialized RX1, Cond.code yX1_raise cX1_raise 2 none, Cond.fieldLink RX1 50 "LabelStation$State" "alarm" "I", Cond.fieldLink RX1 46 "LabelStation$State" "running" "Z", Cond.methodLink RX1 102 yX1_count, Cond.instanceMethod yX1_count, Cond.selects RX1 yX1_count yX1_count, Cond.code yX1_count cX1_count 2 none, Cond.fieldLink RX1 18 "LabelStation$State" "counters" "[I", Cond.methodLink RX1 142 yX2_removeRow, Cond.instanceMethod yX2_removeRow, Cond.selects RX2 yX2_removeRow yX2_removeRow, Cond.code yX2_removeRow cX2_removeRow 3 none, Cond.fieldLink RX2 21 "LabelStation$Table" "width" "I"]
noncomputable def wsX1_confirmOldest_r2 : List Cond := [Cond.fieldLink RX2 27 "LabelStation$Table" "cells" "[I"]
noncomputable def wsX1_confirmOldest : List Cond := .code yX1_confirmOldest cX1_confirmOldest 1 none :: ((wsX1_confirmOldest_r1 ++ wsX1_confirmOldest_r2) ++ wsX10 ++ wsX20)
noncomputable def wsX1_fillBin_r1 : List Cond := [Cond.fieldLink RX1 36 "LabelStation$State" "binArrivals" "LLabelStation$Table;", Cond.fieldLink RX1 42 "LabelStation$State" "tick" "I", Cond.methodLink RX1 91 yX2_count, Cond.instanceMethod yX2_count, Cond.selects RX2 yX2_count yX2_count, Cond.initialized RX2, Cond.code yX2_count cX2_count 1 (some .int), Cond.fieldLink RX2 9 "LabelStation$Table" "rows" "I", Cond.methodLink RX1 124 yX2_get, Cond.instanceMethod yX2_get, Cond.selects RX2 yX2_get yX2_get, Cond.code yX2_get cX2_get 4 (some .int), Cond.fieldLink RX2 21 "LabelStation$Table" "width" "I", Cond.fieldLink RX2 27 "LabelStation$Table" "cells" "[I", Cond.methodLink RX1 136 yX1_confirmOldest, Cond.instanceMethod yX1_confirmOldest, Cond.selects RX1 yX1_confirmOldest yX1_confirmOldest, Cond.initialized RX1, Cond.code yX1_confirmOldest cX1_confirmOldest 1 none, Cond.fieldLink RX1 39 "LabelStation$State" "expectations" "LLabelStation$Table;", Cond.methodLink RX1 139 yX1_raise, Cond.instanceMethod yX1_raise, Cond.selects RX1 yX1_raise yX1_raise, Cond.code yX1_raise cX1_raise 2 none]
noncomputable def wsX1_fillBin_r2 : List Cond := [Cond.fieldLink RX1 50 "LabelStation$State" "alarm" "I", Cond.fieldLink RX1 46 "LabelStation$State" "running" "Z", Cond.methodLink RX1 102 yX1_count, Cond.instanceMethod yX1_count, Cond.selects RX1 yX1_count yX1_count, Cond.code yX1_count cX1_count 2 none, Cond.fieldLink RX1 18 "LabelStation$State" "counters" "[I", Cond.methodLink RX1 142 yX2_removeRow, Cond.instanceMethod yX2_removeRow, Cond.selects RX2 yX2_removeRow yX2_removeRow, Cond.code yX2_removeRow cX2_removeRow 3 none, Cond.methodLink RX1 130 yX2_removeRowsOf, Cond.instanceMethod yX2_removeRowsOf, Cond.selects RX2 yX2_removeRowsOf yX2_removeRowsOf, Cond.code yX2_removeRowsOf cX2_removeRowsOf 3 none, Cond.methodLink RX2 41 yX2_get, Cond.methodLink RX2 44 yX2_removeRow]
noncomputable def wsX1_fillBin : List Cond := .code yX1_fillBin cX1_fillBin 2 none :: ((wsX1_fillBin_r1 ++ wsX1_fillBin_r2) ++ wsX10 ++ wsX20)
noncomputable def wsX1_closeOverdueExpectations_r1 : List Cond := [Cond.fieldLink RX1 39 "LabelStation$State" "expectations" "LLabelStation$Table;", Cond.fieldLink RX1 42 "LabelStation$State" "tick" "I", Cond.methodLink RX1 91 yX2_count, Cond.instanceMethod yX2_count, Cond.selects RX2 yX2_count yX2_count, Cond.initialized RX2, Cond.code yX2_count cX2_count 1 (some .int), Cond.fieldLink RX2 9 "LabelStation$Table" "rows" "I", Cond.methodLink RX1 124 yX2_get, Cond.instanceMethod yX2_get, Cond.selects RX2 yX2_get yX2_get, Cond.code yX2_get cX2_get 4 (some .int), Cond.fieldLink RX2 21 "LabelStation$Table" "width" "I", Cond.fieldLink RX2 27 "LabelStation$Table" "cells" "[I", Cond.methodLink RX1 142 yX2_removeRow, Cond.instanceMethod yX2_removeRow, Cond.selects RX2 yX2_removeRow yX2_removeRow, Cond.code yX2_removeRow cX2_removeRow 3 none, Cond.methodLink RX1 139 yX1_raise, Cond.instanceMethod yX1_raise, Cond.selects RX1 yX1_raise yX1_raise, Cond.initialized RX1, Cond.code yX1_raise cX1_raise 2 none, Cond.fieldLink RX1 50 "LabelStation$State" "alarm" "I"]
noncomputable def wsX1_closeOverdueExpectations_r2 : List Cond := [Cond.fieldLink RX1 46 "LabelStation$State" "running" "Z", Cond.methodLink RX1 102 yX1_count, Cond.instanceMethod yX1_count, Cond.selects RX1 yX1_count yX1_count, Cond.code yX1_count cX1_count 2 none, Cond.fieldLink RX1 18 "LabelStation$State" "counters" "[I"]
noncomputable def wsX1_closeOverdueExpectations : List Cond := .code yX1_closeOverdueExpectations cX1_closeOverdueExpectations 2 none :: ((wsX1_closeOverdueExpectations_r1 ++ wsX1_closeOverdueExpectations_r2) ++ wsX10 ++ wsX20)
noncomputable def wsX2_increase : List Cond := .code yX2_increase cX2_increase 3 none :: ([.fieldLink RX2 9 "LabelStation$Table" "rows" "I", .methodLink RX2 41 yX2_get, .instanceMethod yX2_get, .selects RX2 yX2_get yX2_get, .initialized RX2, .code yX2_get cX2_get 4 (some .int), .fieldLink RX2 21 "LabelStation$Table" "width" "I", .fieldLink RX2 27 "LabelStation$Table" "cells" "[I", .methodLink RX2 37 yX2_put, .instanceMethod yX2_put, .selects RX2 yX2_put yX2_put, .code yX2_put cX2_put 5 none] ++ wsX20)
noncomputable def wsX1_itemAt_r1 : List Cond := [Cond.fieldLink RX1 26 "LabelStation$State" "items" "LLabelStation$Table;", Cond.methodLink RX1 190 Lib.Math.abs.name, Cond.static Lib.Math.abs.name, Cond.initialized "java/lang/Math", Cond.code Lib.Math.abs.name Lib.Math.abs.code 1 (some .int), Cond.methodLink RX1 88 yX1_place, Cond.instanceMethod yX1_place, Cond.selects RX1 yX1_place yX1_place, Cond.initialized RX1, Cond.code yX1_place cX1_place 2 (some .int), Cond.fieldLink RX1 15 "LabelStation$State" "places" "[I", Cond.methodLink RX1 84 yX1_setting, Cond.instanceMethod yX1_setting, Cond.selects RX1 yX1_setting yX1_setting, Cond.code yX1_setting cX1_setting 2 (some .int), Cond.fieldLink RX1 9 "LabelStation$State" "settings" "[I", Cond.methodLink RX1 91 yX2_count, Cond.instanceMethod yX2_count, Cond.selects RX2 yX2_count yX2_count, Cond.initialized RX2, Cond.code yX2_count cX2_count 1 (some .int), Cond.fieldLink RX2 9 "LabelStation$Table" "rows" "I", Cond.methodLink RX1 124 yX2_get, Cond.instanceMethod yX2_get]
noncomputable def wsX1_itemAt_r2 : List Cond := [Cond.selects RX2 yX2_get yX2_get, Cond.code yX2_get cX2_get 4 (some .int), Cond.fieldLink RX2 21 "LabelStation$Table" "width" "I", Cond.fieldLink RX2 27 "LabelStation$Table" "cells" "[I"]
noncomputable def wsX1_itemAt : List Cond := .code yX1_itemAt cX1_itemAt 7 (some .int) :: ((wsX1_itemAt_r1 ++ wsX1_itemAt_r2) ++ wsX10 ++ wsX20)
noncomputable def wsX1_labelerActs_r1 : List Cond := [Cond.fieldLink RX1 53 "LabelStation$State" "jammed" "Z", Cond.fieldLink RX1 30 "LabelStation$State" "records" "LLabelStation$Table;", Cond.fieldLink RX1 26 "LabelStation$State" "items" "LLabelStation$Table;", Cond.methodLink RX1 84 yX1_setting, Cond.instanceMethod yX1_setting, Cond.selects RX1 yX1_setting yX1_setting, Cond.initialized RX1, Cond.code yX1_setting cX1_setting 2 (some .int), Cond.fieldLink RX1 9 "LabelStation$State" "settings" "[I", Cond.methodLink RX1 108 yX2_put, Cond.instanceMethod yX2_put, Cond.selects RX2 yX2_put yX2_put, Cond.initialized RX2, Cond.code yX2_put cX2_put 5 none, Cond.fieldLink RX2 21 "LabelStation$Table" "width" "I", Cond.fieldLink RX2 27 "LabelStation$Table" "cells" "[I", Cond.methodLink RX1 174 yX1_putSetting, Cond.instanceMethod yX1_putSetting, Cond.selects RX1 yX1_putSetting yX1_putSetting, Cond.code yX1_putSetting cX1_putSetting 3 none, Cond.methodLink RX1 177 yX1_itemAt, Cond.instanceMethod yX1_itemAt, Cond.selects RX1 yX1_itemAt yX1_itemAt, Cond.code yX1_itemAt cX1_itemAt 7 (some .int)]
noncomputable def wsX1_labelerActs_r2 : List Cond := [Cond.methodLink RX1 190 Lib.Math.abs.name, Cond.static Lib.Math.abs.name, Cond.initialized "java/lang/Math", Cond.code Lib.Math.abs.name Lib.Math.abs.code 1 (some .int), Cond.methodLink RX1 88 yX1_place, Cond.instanceMethod yX1_place, Cond.selects RX1 yX1_place yX1_place, Cond.code yX1_place cX1_place 2 (some .int), Cond.fieldLink RX1 15 "LabelStation$State" "places" "[I", Cond.methodLink RX1 91 yX2_count, Cond.instanceMethod yX2_count, Cond.selects RX2 yX2_count yX2_count, Cond.code yX2_count cX2_count 1 (some .int), Cond.fieldLink RX2 9 "LabelStation$Table" "rows" "I", Cond.methodLink RX1 124 yX2_get, Cond.instanceMethod yX2_get, Cond.selects RX2 yX2_get yX2_get, Cond.code yX2_get cX2_get 4 (some .int), Cond.methodLink RX1 102 yX1_count, Cond.instanceMethod yX1_count, Cond.selects RX1 yX1_count yX1_count, Cond.code yX1_count cX1_count 2 none, Cond.fieldLink RX1 18 "LabelStation$State" "counters" "[I"]
noncomputable def wsX1_labelerActs : List Cond := .code yX1_labelerActs cX1_labelerActs 3 none :: ((wsX1_labelerActs_r1 ++ wsX1_labelerActs_r2) ++ wsX10 ++ wsX20)
noncomputable def wsX1_seen : List Cond := .code yX1_seen cX1_seen 3 (some .int) :: ([.fieldLink RX1 26 "LabelStation$State" "items" "LLabelStation$Table;", .methodLink RX1 124 yX2_get, .instanceMethod yX2_get, .selects RX2 yX2_get yX2_get, .initialized RX2, .code yX2_get cX2_get 4 (some .int), .fieldLink RX2 21 "LabelStation$Table" "width" "I", .fieldLink RX2 27 "LabelStation$Table" "cells" "[I"] ++ wsX10 ++ wsX20)
noncomputable def wsX1_cameraActs_r1 : List Cond := [Cond.fieldLink RX1 33 "LabelStation$State" "verdicts" "LLabelStation$Table;", Cond.fieldLink RX1 42 "LabelStation$State" "tick" "I", Cond.fieldLink RX1 30 "LabelStation$State" "records" "LLabelStation$Table;", Cond.methodLink RX1 84 yX1_setting, Cond.instanceMethod yX1_setting, Cond.selects RX1 yX1_setting yX1_setting, Cond.initialized RX1, Cond.code yX1_setting cX1_setting 2 (some .int), Cond.fieldLink RX1 9 "LabelStation$State" "settings" "[I", Cond.methodLink RX1 105 yX2_addRow, Cond.instanceMethod yX2_addRow, Cond.selects RX2 yX2_addRow yX2_addRow, Cond.initialized RX2, Cond.code yX2_addRow cX2_addRow 4 (some .int), Cond.fieldLink RX2 9 "LabelStation$Table" "rows" "I", Cond.fieldLink RX2 24 "LabelStation$Table" "room" "I", Cond.fieldLink RX2 21 "LabelStation$Table" "width" "I", Cond.methodLink RX2 37 yX2_put, Cond.instanceMethod yX2_put, Cond.selects RX2 yX2_put yX2_put, Cond.code yX2_put cX2_put 5 none, Cond.fieldLink RX2 27 "LabelStation$Table" "cells" "[I", Cond.methodLink RX1 124 yX2_get, Cond.instanceMethod yX2_get]
noncomputable def wsX1_cameraActs_r2 : List Cond := [Cond.selects RX2 yX2_get yX2_get, Cond.code yX2_get cX2_get 4 (some .int), Cond.methodLink RX1 108 yX2_put, Cond.methodLink RX1 177 yX1_itemAt, Cond.instanceMethod yX1_itemAt, Cond.selects RX1 yX1_itemAt yX1_itemAt, Cond.code yX1_itemAt cX1_itemAt 7 (some .int), Cond.fieldLink RX1 26 "LabelStation$State" "items" "LLabelStation$Table;", Cond.methodLink RX1 190 Lib.Math.abs.name, Cond.static Lib.Math.abs.name, Cond.initialized "java/lang/Math", Cond.code Lib.Math.abs.name Lib.Math.abs.code 1 (some .int), Cond.methodLink RX1 88 yX1_place, Cond.instanceMethod yX1_place, Cond.selects RX1 yX1_place yX1_place, Cond.code yX1_place cX1_place 2 (some .int), Cond.fieldLink RX1 15 "LabelStation$State" "places" "[I", Cond.methodLink RX1 91 yX2_count, Cond.instanceMethod yX2_count, Cond.selects RX2 yX2_count yX2_count, Cond.code yX2_count cX2_count 1 (some .int), Cond.methodLink RX1 180 yX1_seen, Cond.instanceMethod yX1_seen, Cond.selects RX1 yX1_seen yX1_seen]
noncomputable def wsX1_cameraActs_r3 : List Cond := [Cond.code yX1_seen cX1_seen 3 (some .int)]
noncomputable def wsX1_cameraActs : List Cond := .code yX1_cameraActs cX1_cameraActs 4 none :: ((wsX1_cameraActs_r1 ++ (wsX1_cameraActs_r2 ++ wsX1_cameraActs_r3)) ++ wsX10 ++ wsX20)
noncomputable def wsX1_mayPass : List Cond := .code yX1_mayPass cX1_mayPass 2 (some .boolean) :: ([.fieldLink RX1 30 "LabelStation$State" "records" "LLabelStation$Table;", .methodLink RX1 124 yX2_get, .instanceMethod yX2_get, .selects RX2 yX2_get yX2_get, .initialized RX2, .code yX2_get cX2_get 4 (some .int), .fieldLink RX2 21 "LabelStation$Table" "width" "I", .fieldLink RX2 27 "LabelStation$Table" "cells" "[I"] ++ wsX10 ++ wsX20)
noncomputable def wsX1_causeOf : List Cond := .code yX1_causeOf cX1_causeOf 2 (some .int) :: ([.fieldLink RX1 30 "LabelStation$State" "records" "LLabelStation$Table;", .methodLink RX1 124 yX2_get, .instanceMethod yX2_get, .selects RX2 yX2_get yX2_get, .initialized RX2, .code yX2_get cX2_get 4 (some .int), .fieldLink RX2 21 "LabelStation$Table" "width" "I", .fieldLink RX2 27 "LabelStation$Table" "cells" "[I"] ++ wsX10 ++ wsX20)
noncomputable def wsX1_leaveRegister : List Cond := .code yX1_leaveRegister cX1_leaveRegister 3 none :: ([.fieldLink RX1 30 "LabelStation$State" "records" "LLabelStation$Table;", .fieldLink RX1 62 "LabelStation$State" "watched" "I", .fieldLink RX1 65 "LabelStation$State" "outcome" "I", .methodLink RX1 124 yX2_get, .instanceMethod yX2_get, .selects RX2 yX2_get yX2_get, .initialized RX2, .code yX2_get cX2_get 4 (some .int), .fieldLink RX2 21 "LabelStation$Table" "width" "I", .fieldLink RX2 27 "LabelStation$Table" "cells" "[I", .methodLink RX1 102 yX1_count, .instanceMethod yX1_count, .selects RX1 yX1_count yX1_count, .initialized RX1, .code yX1_count cX1_count 2 none, .fieldLink RX1 18 "LabelStation$State" "counters" "[I", .methodLink RX1 142 yX2_removeRow, .instanceMethod yX2_removeRow, .selects RX2 yX2_removeRow yX2_removeRow, .code yX2_removeRow cX2_removeRow 3 none, .fieldLink RX2 9 "LabelStation$Table" "rows" "I"] ++ wsX10 ++ wsX20)
noncomputable def wsX1_reject_r1 : List Cond := [Cond.fieldLink RX1 26 "LabelStation$State" "items" "LLabelStation$Table;", Cond.fieldLink RX1 36 "LabelStation$State" "binArrivals" "LLabelStation$Table;", Cond.fieldLink RX1 42 "LabelStation$State" "tick" "I", Cond.fieldLink RX1 59 "LabelStation$State" "diverted" "I", Cond.fieldLink RX1 39 "LabelStation$State" "expectations" "LLabelStation$Table;", Cond.fieldLink RX1 56 "LabelStation$State" "consecutiveRejects" "I", Cond.methodLink RX1 184 yX1_causeOf, Cond.instanceMethod yX1_causeOf, Cond.selects RX1 yX1_causeOf yX1_causeOf, Cond.initialized RX1, Cond.code yX1_causeOf cX1_causeOf 2 (some .int), Cond.fieldLink RX1 30 "LabelStation$State" "records" "LLabelStation$Table;", Cond.methodLink RX1 124 yX2_get, Cond.instanceMethod yX2_get, Cond.selects RX2 yX2_get yX2_get, Cond.initialized RX2, Cond.code yX2_get cX2_get 4 (some .int), Cond.fieldLink RX2 21 "LabelStation$Table" "width" "I", Cond.fieldLink RX2 27 "LabelStation$Table" "cells" "[I", Cond.methodLink RX1 102 yX1_count, Cond.instanceMethod yX1_count, Cond.selects RX1 yX1_count yX1_count, Cond.code yX1_count cX1_count 2 none, Cond.fieldLink RX1 18 "LabelStation$State" "counters" "[I"]
noncomputable def wsX1_reject_r2 : List Cond := [Cond.methodLink RX1 171 yX1_leaveRegister, Cond.instanceMethod yX1_leaveRegister, Cond.selects RX1 yX1_leaveRegister yX1_leaveRegister, Cond.code yX1_leaveRegister cX1_leaveRegister 3 none, Cond.fieldLink RX1 62 "LabelStation$State" "watched" "I", Cond.fieldLink RX1 65 "LabelStation$State" "outcome" "I", Cond.methodLink RX1 142 yX2_removeRow, Cond.instanceMethod yX2_removeRow, Cond.selects RX2 yX2_removeRow yX2_removeRow, Cond.code yX2_removeRow cX2_removeRow 3 none, Cond.fieldLink RX2 9 "LabelStation$Table" "rows" "I", Cond.methodLink RX1 177 yX1_itemAt, Cond.instanceMethod yX1_itemAt, Cond.selects RX1 yX1_itemAt yX1_itemAt, Cond.code yX1_itemAt cX1_itemAt 7 (some .int), Cond.methodLink RX1 190 Lib.Math.abs.name, Cond.static Lib.Math.abs.name, Cond.initialized "java/lang/Math", Cond.code Lib.Math.abs.name Lib.Math.abs.code 1 (some .int), Cond.methodLink RX1 88 yX1_place, Cond.instanceMethod yX1_place, Cond.selects RX1 yX1_place yX1_place, Cond.code yX1_place cX1_place 2 (some .int), Cond.fieldLink RX1 15 "LabelStation$State" "places" "[I"]
noncomputable def wsX1_reject_r3 : List Cond := [Cond.methodLink RX1 84 yX1_setting, Cond.instanceMethod yX1_setting, Cond.selects RX1 yX1_setting yX1_setting, Cond.code yX1_setting cX1_setting 2 (some .int), Cond.fieldLink RX1 9 "LabelStation$State" "settings" "[I", Cond.methodLink RX1 91 yX2_count, Cond.instanceMethod yX2_count, Cond.selects RX2 yX2_count yX2_count, Cond.code yX2_count cX2_count 1 (some .int), Cond.methodLink RX1 105 yX2_addRow, Cond.instanceMethod yX2_addRow, Cond.selects RX2 yX2_addRow yX2_addRow, Cond.code yX2_addRow cX2_addRow 4 (some .int), Cond.fieldLink RX2 24 "LabelStation$Table" "room" "I", Cond.methodLink RX2 37 yX2_put, Cond.instanceMethod yX2_put, Cond.selects RX2 yX2_put yX2_put, Cond.code yX2_put cX2_put 5 none, Cond.methodLink RX1 139 yX1_raise, Cond.instanceMethod yX1_raise, Cond.selects RX1 yX1_raise yX1_raise, Cond.code yX1_raise cX1_raise 2 none, Cond.fieldLink RX1 50 "LabelStation$State" "alarm" "I", Cond.fieldLink RX1 46 "LabelStation$State" "running" "Z"]
noncomputable def wsX1_reject : List Cond := .code yX1_reject cX1_reject 3 none :: ((wsX1_reject_r1 ++ (wsX1_reject_r2 ++ wsX1_reject_r3)) ++ wsX10 ++ wsX20)
noncomputable def wsX1_pass : List Cond := .code yX1_pass cX1_pass 2 none :: ([.fieldLink RX1 30 "LabelStation$State" "records" "LLabelStation$Table;", .fieldLink RX1 56 "LabelStation$State" "consecutiveRejects" "I", .methodLink RX1 108 yX2_put, .instanceMethod yX2_put, .selects RX2 yX2_put yX2_put, .initialized RX2, .code yX2_put cX2_put 5 none, .fieldLink RX2 21 "LabelStation$Table" "width" "I", .fieldLink RX2 27 "LabelStation$Table" "cells" "[I"] ++ wsX10 ++ wsX20)
noncomputable def wsX1_staysInRegister_r1 : List Cond := [Cond.fieldLink RX1 30 "LabelStation$State" "records" "LLabelStation$Table;", Cond.methodLink RX1 124 yX2_get, Cond.instanceMethod yX2_get, Cond.selects RX2 yX2_get yX2_get, Cond.initialized RX2, Cond.code yX2_get cX2_get 4 (some .int), Cond.fieldLink RX2 21 "LabelStation$Table" "width" "I", Cond.fieldLink RX2 27 "LabelStation$Table" "cells" "[I", Cond.methodLink RX1 88 yX1_place, Cond.instanceMethod yX1_place, Cond.selects RX1 yX1_place yX1_place, Cond.initialized RX1, Cond.code yX1_place cX1_place 2 (some .int), Cond.fieldLink RX1 15 "LabelStation$State" "places" "[I", Cond.methodLink RX1 155 yX1_labelerActs, Cond.instanceMethod yX1_labelerActs, Cond.selects RX1 yX1_labelerActs yX1_labelerActs, Cond.code yX1_labelerActs cX1_labelerActs 3 none, Cond.fieldLink RX1 53 "LabelStation$State" "jammed" "Z", Cond.fieldLink RX1 26 "LabelStation$State" "items" "LLabelStation$Table;", Cond.methodLink RX1 84 yX1_setting, Cond.instanceMethod yX1_setting, Cond.selects RX1 yX1_setting yX1_setting, Cond.code yX1_setting cX1_setting 2 (some .int)]
noncomputable def wsX1_staysInRegister_r2 : List Cond := [Cond.fieldLink RX1 9 "LabelStation$State" "settings" "[I", Cond.methodLink RX1 108 yX2_put, Cond.instanceMethod yX2_put, Cond.selects RX2 yX2_put yX2_put, Cond.code yX2_put cX2_put 5 none, Cond.methodLink RX1 174 yX1_putSetting, Cond.instanceMethod yX1_putSetting, Cond.selects RX1 yX1_putSetting yX1_putSetting, Cond.code yX1_putSetting cX1_putSetting 3 none, Cond.methodLink RX1 177 yX1_itemAt, Cond.instanceMethod yX1_itemAt, Cond.selects RX1 yX1_itemAt yX1_itemAt, Cond.code yX1_itemAt cX1_itemAt 7 (some .int), Cond.methodLink RX1 190 Lib.Math.abs.name, Cond.static Lib.Math.abs.name, Cond.initialized "java/lang/Math", Cond.code Lib.Math.abs.name Lib.Math.abs.code 1 (some .int), Cond.methodLink RX1 91 yX2_count, Cond.instanceMethod yX2_count, Cond.selects RX2 yX2_count yX2_count, Cond.code yX2_count cX2_count 1 (some .int), Cond.fieldLink RX2 9 "LabelStation$Table" "rows" "I", Cond.methodLink RX1 102 yX1_count, Cond.instanceMethod yX1_count]
noncomputable def wsX1_staysInRegister_r3 : List Cond := [Cond.selects RX1 yX1_count yX1_count, Cond.code yX1_count cX1_count 2 none, Cond.fieldLink RX1 18 "LabelStation$State" "counters" "[I", Cond.methodLink RX1 158 yX1_cameraActs, Cond.instanceMethod yX1_cameraActs, Cond.selects RX1 yX1_cameraActs yX1_cameraActs, Cond.code yX1_cameraActs cX1_cameraActs 4 none, Cond.fieldLink RX1 33 "LabelStation$State" "verdicts" "LLabelStation$Table;", Cond.fieldLink RX1 42 "LabelStation$State" "tick" "I", Cond.methodLink RX1 105 yX2_addRow, Cond.instanceMethod yX2_addRow, Cond.selects RX2 yX2_addRow yX2_addRow, Cond.code yX2_addRow cX2_addRow 4 (some .int), Cond.fieldLink RX2 24 "LabelStation$Table" "room" "I", Cond.methodLink RX2 37 yX2_put, Cond.methodLink RX1 180 yX1_seen, Cond.instanceMethod yX1_seen, Cond.selects RX1 yX1_seen yX1_seen, Cond.code yX1_seen cX1_seen 3 (some .int), Cond.methodLink RX1 162 yX1_mayPass, Cond.instanceMethod yX1_mayPass, Cond.selects RX1 yX1_mayPass yX1_mayPass, Cond.code yX1_mayPass cX1_mayPass 2 (some .boolean), Cond.methodLink RX1 165 yX1_reject]
noncomputable def wsX1_staysInRegister_r4 : List Cond := [Cond.instanceMethod yX1_reject, Cond.selects RX1 yX1_reject yX1_reject, Cond.code yX1_reject cX1_reject 3 none, Cond.fieldLink RX1 36 "LabelStation$State" "binArrivals" "LLabelStation$Table;", Cond.fieldLink RX1 59 "LabelStation$State" "diverted" "I", Cond.fieldLink RX1 39 "LabelStation$State" "expectations" "LLabelStation$Table;", Cond.fieldLink RX1 56 "LabelStation$State" "consecutiveRejects" "I", Cond.methodLink RX1 184 yX1_causeOf, Cond.instanceMethod yX1_causeOf, Cond.selects RX1 yX1_causeOf yX1_causeOf, Cond.code yX1_causeOf cX1_causeOf 2 (some .int), Cond.methodLink RX1 171 yX1_leaveRegister, Cond.instanceMethod yX1_leaveRegister, Cond.selects RX1 yX1_leaveRegister yX1_leaveRegister, Cond.code yX1_leaveRegister cX1_leaveRegister 3 none, Cond.fieldLink RX1 62 "LabelStation$State" "watched" "I", Cond.fieldLink RX1 65 "LabelStation$State" "outcome" "I", Cond.methodLink RX1 142 yX2_removeRow, Cond.instanceMethod yX2_removeRow, Cond.selects RX2 yX2_removeRow yX2_removeRow, Cond.code yX2_removeRow cX2_removeRow 3 none, Cond.methodLink RX1 139 yX1_raise, Cond.instanceMethod yX1_raise, Cond.selects RX1 yX1_raise yX1_raise]
noncomputable def wsX1_staysInRegister_r5 : List Cond := [Cond.code yX1_raise cX1_raise 2 none, Cond.fieldLink RX1 50 "LabelStation$State" "alarm" "I", Cond.fieldLink RX1 46 "LabelStation$State" "running" "Z", Cond.methodLink RX1 168 yX1_pass, Cond.instanceMethod yX1_pass, Cond.selects RX1 yX1_pass yX1_pass, Cond.code yX1_pass cX1_pass 2 none]
noncomputable def wsX1_staysInRegister : List Cond := .code yX1_staysInRegister cX1_staysInRegister 3 (some .boolean) :: ((wsX1_staysInRegister_r1 ++ (wsX1_staysInRegister_r2 ++ (wsX1_staysInRegister_r3 ++ (wsX1_staysInRegister_r4 ++ wsX1_staysInRegister_r5)))) ++ wsX10 ++ wsX20)
noncomputable def wsX1_recordForExit_r1 : List Cond := [Cond.fieldLink RX1 30 "LabelStation$State" "records" "LLabelStation$Table;", Cond.methodLink RX1 190 Lib.Math.abs.name, Cond.static Lib.Math.abs.name, Cond.initialized "java/lang/Math", Cond.code Lib.Math.abs.name Lib.Math.abs.code 1 (some .int), Cond.methodLink RX1 88 yX1_place, Cond.instanceMethod yX1_place, Cond.selects RX1 yX1_place yX1_place, Cond.initialized RX1, Cond.code yX1_place cX1_place 2 (some .int), Cond.fieldLink RX1 15 "LabelStation$State" "places" "[I", Cond.methodLink RX1 84 yX1_setting, Cond.instanceMethod yX1_setting, Cond.selects RX1 yX1_setting yX1_setting, Cond.code yX1_setting cX1_setting 2 (some .int), Cond.fieldLink RX1 9 "LabelStation$State" "settings" "[I", Cond.methodLink RX1 91 yX2_count, Cond.instanceMethod yX2_count, Cond.selects RX2 yX2_count yX2_count, Cond.initialized RX2, Cond.code yX2_count cX2_count 1 (some .int), Cond.fieldLink RX2 9 "LabelStation$Table" "rows" "I", Cond.methodLink RX1 124 yX2_get, Cond.instanceMethod yX2_get]
noncomputable def wsX1_recordForExit_r2 : List Cond := [Cond.selects RX2 yX2_get yX2_get, Cond.code yX2_get cX2_get 4 (some .int), Cond.fieldLink RX2 21 "LabelStation$Table" "width" "I", Cond.fieldLink RX2 27 "LabelStation$Table" "cells" "[I"]
noncomputable def wsX1_recordForExit : List Cond := .code yX1_recordForExit cX1_recordForExit 7 (some .int) :: ((wsX1_recordForExit_r1 ++ wsX1_recordForExit_r2) ++ wsX10 ++ wsX20)
noncomputable def wsX1_leaveBelt_r1 : List Cond := [Cond.fieldLink RX1 26 "LabelStation$State" "items" "LLabelStation$Table;", Cond.fieldLink RX1 30 "LabelStation$State" "records" "LLabelStation$Table;", Cond.methodLink RX1 142 yX2_removeRow, Cond.instanceMethod yX2_removeRow, Cond.selects RX2 yX2_removeRow yX2_removeRow, Cond.initialized RX2, Cond.code yX2_removeRow cX2_removeRow 3 none, Cond.fieldLink RX2 9 "LabelStation$Table" "rows" "I", Cond.fieldLink RX2 21 "LabelStation$Table" "width" "I", Cond.fieldLink RX2 27 "LabelStation$Table" "cells" "[I", Cond.methodLink RX1 102 yX1_count, Cond.instanceMethod yX1_count, Cond.selects RX1 yX1_count yX1_count, Cond.initialized RX1, Cond.code yX1_count cX1_count 2 none, Cond.fieldLink RX1 18 "LabelStation$State" "counters" "[I", Cond.methodLink RX1 187 yX1_recordForExit, Cond.instanceMethod yX1_recordForExit, Cond.selects RX1 yX1_recordForExit yX1_recordForExit, Cond.code yX1_recordForExit cX1_recordForExit 7 (some .int), Cond.methodLink RX1 190 Lib.Math.abs.name, Cond.static Lib.Math.abs.name, Cond.initialized "java/lang/Math", Cond.code Lib.Math.abs.name Lib.Math.abs.code 1 (some .int)]
noncomputable def wsX1_leaveBelt_r2 : List Cond := [Cond.methodLink RX1 88 yX1_place, Cond.instanceMethod yX1_place, Cond.selects RX1 yX1_place yX1_place, Cond.code yX1_place cX1_place 2 (some .int), Cond.fieldLink RX1 15 "LabelStation$State" "places" "[I", Cond.methodLink RX1 84 yX1_setting, Cond.instanceMethod yX1_setting, Cond.selects RX1 yX1_setting yX1_setting, Cond.code yX1_setting cX1_setting 2 (some .int), Cond.fieldLink RX1 9 "LabelStation$State" "settings" "[I", Cond.methodLink RX1 91 yX2_count, Cond.instanceMethod yX2_count, Cond.selects RX2 yX2_count yX2_count, Cond.code yX2_count cX2_count 1 (some .int), Cond.methodLink RX1 124 yX2_get, Cond.instanceMethod yX2_get, Cond.selects RX2 yX2_get yX2_get, Cond.code yX2_get cX2_get 4 (some .int), Cond.methodLink RX1 139 yX1_raise, Cond.instanceMethod yX1_raise, Cond.selects RX1 yX1_raise yX1_raise, Cond.code yX1_raise cX1_raise 2 none, Cond.fieldLink RX1 50 "LabelStation$State" "alarm" "I", Cond.fieldLink RX1 46 "LabelStation$State" "running" "Z"]
noncomputable def wsX1_leaveBelt_r3 : List Cond := [Cond.methodLink RX1 108 yX2_put, Cond.instanceMethod yX2_put, Cond.selects RX2 yX2_put yX2_put, Cond.code yX2_put cX2_put 5 none]
noncomputable def wsX1_leaveBelt : List Cond := .code yX1_leaveBelt cX1_leaveBelt 3 none :: ((wsX1_leaveBelt_r1 ++ (wsX1_leaveBelt_r2 ++ wsX1_leaveBelt_r3)) ++ wsX10 ++ wsX20)
noncomputable def wsX1_pulse_r1 : List Cond := [Cond.fieldLink RX1 26 "LabelStation$State" "items" "LLabelStation$Table;", Cond.fieldLink RX1 30 "LabelStation$State" "records" "LLabelStation$Table;", Cond.methodLink RX1 145 yX2_increase, Cond.instanceMethod yX2_increase, Cond.selects RX2 yX2_increase yX2_increase, Cond.initialized RX2, Cond.code yX2_increase cX2_increase 3 none, Cond.fieldLink RX2 9 "LabelStation$Table" "rows" "I", Cond.methodLink RX2 41 yX2_get, Cond.instanceMethod yX2_get, Cond.selects RX2 yX2_get yX2_get, Cond.code yX2_get cX2_get 4 (some .int), Cond.fieldLink RX2 21 "LabelStation$Table" "width" "I", Cond.fieldLink RX2 27 "LabelStation$Table" "cells" "[I", Cond.methodLink RX2 37 yX2_put, Cond.instanceMethod yX2_put, Cond.selects RX2 yX2_put yX2_put, Cond.code yX2_put cX2_put 5 none, Cond.methodLink RX1 91 yX2_count, Cond.instanceMethod yX2_count, Cond.selects RX2 yX2_count yX2_count, Cond.code yX2_count cX2_count 1 (some .int), Cond.methodLink RX1 148 yX1_staysInRegister, Cond.instanceMethod yX1_staysInRegister]
noncomputable def wsX1_pulse_r2 : List Cond := [Cond.selects RX1 yX1_staysInRegister yX1_staysInRegister, Cond.initialized RX1, Cond.code yX1_staysInRegister cX1_staysInRegister 3 (some .boolean), Cond.methodLink RX1 124 yX2_get, Cond.methodLink RX1 88 yX1_place, Cond.instanceMethod yX1_place, Cond.selects RX1 yX1_place yX1_place, Cond.code yX1_place cX1_place 2 (some .int), Cond.fieldLink RX1 15 "LabelStation$State" "places" "[I", Cond.methodLink RX1 155 yX1_labelerActs, Cond.instanceMethod yX1_labelerActs, Cond.selects RX1 yX1_labelerActs yX1_labelerActs, Cond.code yX1_labelerActs cX1_labelerActs 3 none, Cond.fieldLink RX1 53 "LabelStation$State" "jammed" "Z", Cond.methodLink RX1 84 yX1_setting, Cond.instanceMethod yX1_setting, Cond.selects RX1 yX1_setting yX1_setting, Cond.code yX1_setting cX1_setting 2 (some .int), Cond.fieldLink RX1 9 "LabelStation$State" "settings" "[I", Cond.methodLink RX1 108 yX2_put, Cond.methodLink RX1 174 yX1_putSetting, Cond.instanceMethod yX1_putSetting, Cond.selects RX1 yX1_putSetting yX1_putSetting, Cond.code yX1_putSetting cX1_putSetting 3 none]
noncomputable def wsX1_pulse_r3 : List Cond := [Cond.methodLink RX1 177 yX1_itemAt, Cond.instanceMethod yX1_itemAt, Cond.selects RX1 yX1_itemAt yX1_itemAt, Cond.code yX1_itemAt cX1_itemAt 7 (some .int), Cond.methodLink RX1 190 Lib.Math.abs.name, Cond.static Lib.Math.abs.name, Cond.initialized "java/lang/Math", Cond.code Lib.Math.abs.name Lib.Math.abs.code 1 (some .int), Cond.methodLink RX1 102 yX1_count, Cond.instanceMethod yX1_count, Cond.selects RX1 yX1_count yX1_count, Cond.code yX1_count cX1_count 2 none, Cond.fieldLink RX1 18 "LabelStation$State" "counters" "[I", Cond.methodLink RX1 158 yX1_cameraActs, Cond.instanceMethod yX1_cameraActs, Cond.selects RX1 yX1_cameraActs yX1_cameraActs, Cond.code yX1_cameraActs cX1_cameraActs 4 none, Cond.fieldLink RX1 33 "LabelStation$State" "verdicts" "LLabelStation$Table;", Cond.fieldLink RX1 42 "LabelStation$State" "tick" "I", Cond.methodLink RX1 105 yX2_addRow, Cond.instanceMethod yX2_addRow, Cond.selects RX2 yX2_addRow yX2_addRow, Cond.code yX2_addRow cX2_addRow 4 (some .int), Cond.fieldLink RX2 24 "LabelStation$Table" "room" "I"]
noncomputable def wsX1_pulse_r4 : List Cond := [Cond.methodLink RX1 180 yX1_seen, Cond.instanceMethod yX1_seen, Cond.selects RX1 yX1_seen yX1_seen, Cond.code yX1_seen cX1_seen 3 (some .int), Cond.methodLink RX1 162 yX1_mayPass, Cond.instanceMethod yX1_mayPass, Cond.selects RX1 yX1_mayPass yX1_mayPass, Cond.code yX1_mayPass cX1_mayPass 2 (some .boolean), Cond.methodLink RX1 165 yX1_reject, Cond.instanceMethod yX1_reject, Cond.selects RX1 yX1_reject yX1_reject, Cond.code yX1_reject cX1_reject 3 none, Cond.fieldLink RX1 36 "LabelStation$State" "binArrivals" "LLabelStation$Table;", Cond.fieldLink RX1 59 "LabelStation$State" "diverted" "I", Cond.fieldLink RX1 39 "LabelStation$State" "expectations" "LLabelStation$Table;", Cond.fieldLink RX1 56 "LabelStation$State" "consecutiveRejects" "I", Cond.methodLink RX1 184 yX1_causeOf, Cond.instanceMethod yX1_causeOf, Cond.selects RX1 yX1_causeOf yX1_causeOf, Cond.code yX1_causeOf cX1_causeOf 2 (some .int), Cond.methodLink RX1 171 yX1_leaveRegister, Cond.instanceMethod yX1_leaveRegister, Cond.selects RX1 yX1_leaveRegister yX1_leaveRegister, Cond.code yX1_leaveRegister cX1_leaveRegister 3 none]
noncomputable def wsX1_pulse_r5 : List Cond := [Cond.fieldLink RX1 62 "LabelStation$State" "watched" "I", Cond.fieldLink RX1 65 "LabelStation$State" "outcome" "I", Cond.methodLink RX1 142 yX2_removeRow, Cond.instanceMethod yX2_removeRow, Cond.selects RX2 yX2_removeRow yX2_removeRow, Cond.code yX2_removeRow cX2_removeRow 3 none, Cond.methodLink RX1 139 yX1_raise, Cond.instanceMethod yX1_raise, Cond.selects RX1 yX1_raise yX1_raise, Cond.code yX1_raise cX1_raise 2 none, Cond.fieldLink RX1 50 "LabelStation$State" "alarm" "I", Cond.fieldLink RX1 46 "LabelStation$State" "running" "Z", Cond.methodLink RX1 168 yX1_pass, Cond.instanceMethod yX1_pass, Cond.selects RX1 yX1_pass yX1_pass, Cond.code yX1_pass cX1_pass 2 none, Cond.methodLink RX1 152 yX1_leaveBelt, Cond.instanceMethod yX1_leaveBelt, Cond.selects RX1 yX1_leaveBelt yX1_leaveBelt, Cond.code yX1_leaveBelt cX1_leaveBelt 3 none, Cond.methodLink RX1 187 yX1_recordForExit, Cond.instanceMethod yX1_recordForExit, Cond.selects RX1 yX1_recordForExit yX1_recordForExit, Cond.code yX1_recordForExit cX1_recordForExit 7 (some .int)]
noncomputable def wsX1_pulse : List Cond := .code yX1_pulse cX1_pulse 4 none :: ((wsX1_pulse_r1 ++ (wsX1_pulse_r2 ++ (wsX1_pulse_r3 ++ (wsX1_pulse_r4 ++ wsX1_pulse_r5)))) ++ wsX10 ++ wsX20)
noncomputable def wsX1_passTick_r1 : List Cond := [Cond.fieldLink RX1 42 "LabelStation$State" "tick" "I", Cond.fieldLink RX1 46 "LabelStation$State" "running" "Z", Cond.methodLink RX1 112 yX1_deliverVerdicts, Cond.instanceMethod yX1_deliverVerdicts, Cond.selects RX1 yX1_deliverVerdicts yX1_deliverVerdicts, Cond.initialized RX1, Cond.code yX1_deliverVerdicts cX1_deliverVerdicts 2 none, Cond.fieldLink RX1 33 "LabelStation$State" "verdicts" "LLabelStation$Table;", Cond.methodLink RX1 91 yX2_count, Cond.instanceMethod yX2_count, Cond.selects RX2 yX2_count yX2_count, Cond.initialized RX2, Cond.code yX2_count cX2_count 1 (some .int), Cond.fieldLink RX2 9 "LabelStation$Table" "rows" "I", Cond.methodLink RX1 124 yX2_get, Cond.instanceMethod yX2_get, Cond.selects RX2 yX2_get yX2_get, Cond.code yX2_get cX2_get 4 (some .int), Cond.fieldLink RX2 21 "LabelStation$Table" "width" "I", Cond.fieldLink RX2 27 "LabelStation$Table" "cells" "[I", Cond.methodLink RX1 127 yX1_deliver, Cond.instanceMethod yX1_deliver, Cond.selects RX1 yX1_deliver yX1_deliver, Cond.code yX1_deliver cX1_deliver 5 none]
noncomputable def wsX1_passTick_r2 : List Cond := [Cond.fieldLink RX1 30 "LabelStation$State" "records" "LLabelStation$Table;", Cond.methodLink RX1 133 yX2_find, Cond.instanceMethod yX2_find, Cond.selects RX2 yX2_find yX2_find, Cond.code yX2_find cX2_find 3 (some .int), Cond.methodLink RX2 41 yX2_get, Cond.methodLink RX1 102 yX1_count, Cond.instanceMethod yX1_count, Cond.selects RX1 yX1_count yX1_count, Cond.code yX1_count cX1_count 2 none, Cond.fieldLink RX1 18 "LabelStation$State" "counters" "[I", Cond.methodLink RX1 108 yX2_put, Cond.instanceMethod yX2_put, Cond.selects RX2 yX2_put yX2_put, Cond.code yX2_put cX2_put 5 none, Cond.methodLink RX1 130 yX2_removeRowsOf, Cond.instanceMethod yX2_removeRowsOf, Cond.selects RX2 yX2_removeRowsOf yX2_removeRowsOf, Cond.code yX2_removeRowsOf cX2_removeRowsOf 3 none, Cond.methodLink RX2 44 yX2_removeRow, Cond.instanceMethod yX2_removeRow, Cond.selects RX2 yX2_removeRow yX2_removeRow, Cond.code yX2_removeRow cX2_removeRow 3 none, Cond.methodLink RX1 115 yX1_fillBin]
noncomputable def wsX1_passTick_r3 : List Cond := [Cond.instanceMethod yX1_fillBin, Cond.selects RX1 yX1_fillBin yX1_fillBin, Cond.code yX1_fillBin cX1_fillBin 2 none, Cond.fieldLink RX1 36 "LabelStation$State" "binArrivals" "LLabelStation$Table;", Cond.methodLink RX1 136 yX1_confirmOldest, Cond.instanceMethod yX1_confirmOldest, Cond.selects RX1 yX1_confirmOldest yX1_confirmOldest, Cond.code yX1_confirmOldest cX1_confirmOldest 1 none, Cond.fieldLink RX1 39 "LabelStation$State" "expectations" "LLabelStation$Table;", Cond.methodLink RX1 139 yX1_raise, Cond.instanceMethod yX1_raise, Cond.selects RX1 yX1_raise yX1_raise, Cond.code yX1_raise cX1_raise 2 none, Cond.fieldLink RX1 50 "LabelStation$State" "alarm" "I", Cond.methodLink RX1 142 yX2_removeRow, Cond.methodLink RX1 118 yX1_closeOverdueExpectations, Cond.instanceMethod yX1_closeOverdueExpectations, Cond.selects RX1 yX1_closeOverdueExpectations yX1_closeOverdueExpectations, Cond.code yX1_closeOverdueExpectations cX1_closeOverdueExpectations 2 none, Cond.methodLink RX1 84 yX1_setting, Cond.instanceMethod yX1_setting, Cond.selects RX1 yX1_setting yX1_setting, Cond.code yX1_setting cX1_setting 2 (some .int), Cond.fieldLink RX1 9 "LabelStation$State" "settings" "[I"]
noncomputable def wsX1_passTick_r4 : List Cond := [Cond.methodLink RX1 121 yX1_pulse, Cond.instanceMethod yX1_pulse, Cond.selects RX1 yX1_pulse yX1_pulse, Cond.code yX1_pulse cX1_pulse 4 none, Cond.fieldLink RX1 26 "LabelStation$State" "items" "LLabelStation$Table;", Cond.methodLink RX1 145 yX2_increase, Cond.instanceMethod yX2_increase, Cond.selects RX2 yX2_increase yX2_increase, Cond.code yX2_increase cX2_increase 3 none, Cond.methodLink RX2 37 yX2_put, Cond.methodLink RX1 148 yX1_staysInRegister, Cond.instanceMethod yX1_staysInRegister, Cond.selects RX1 yX1_staysInRegister yX1_staysInRegister, Cond.code yX1_staysInRegister cX1_staysInRegister 3 (some .boolean), Cond.methodLink RX1 88 yX1_place, Cond.instanceMethod yX1_place, Cond.selects RX1 yX1_place yX1_place, Cond.code yX1_place cX1_place 2 (some .int), Cond.fieldLink RX1 15 "LabelStation$State" "places" "[I", Cond.methodLink RX1 155 yX1_labelerActs, Cond.instanceMethod yX1_labelerActs, Cond.selects RX1 yX1_labelerActs yX1_labelerActs, Cond.code yX1_labelerActs cX1_labelerActs 3 none, Cond.fieldLink RX1 53 "LabelStation$State" "jammed" "Z"]
noncomputable def wsX1_passTick_r5 : List Cond := [Cond.methodLink RX1 174 yX1_putSetting, Cond.instanceMethod yX1_putSetting, Cond.selects RX1 yX1_putSetting yX1_putSetting, Cond.code yX1_putSetting cX1_putSetting 3 none, Cond.methodLink RX1 177 yX1_itemAt, Cond.instanceMethod yX1_itemAt, Cond.selects RX1 yX1_itemAt yX1_itemAt, Cond.code yX1_itemAt cX1_itemAt 7 (some .int), Cond.methodLink RX1 190 Lib.Math.abs.name, Cond.static Lib.Math.abs.name, Cond.initialized "java/lang/Math", Cond.code Lib.Math.abs.name Lib.Math.abs.code 1 (some .int), Cond.methodLink RX1 158 yX1_cameraActs, Cond.instanceMethod yX1_cameraActs, Cond.selects RX1 yX1_cameraActs yX1_cameraActs, Cond.code yX1_cameraActs cX1_cameraActs 4 none, Cond.methodLink RX1 105 yX2_addRow, Cond.instanceMethod yX2_addRow, Cond.selects RX2 yX2_addRow yX2_addRow, Cond.code yX2_addRow cX2_addRow 4 (some .int), Cond.fieldLink RX2 24 "LabelStation$Table" "room" "I", Cond.methodLink RX1 180 yX1_seen, Cond.instanceMethod yX1_seen, Cond.selects RX1 yX1_seen yX1_seen]
noncomputable def wsX1_passTick_r6 : List Cond := [Cond.code yX1_seen cX1_seen 3 (some .int), Cond.methodLink RX1 162 yX1_mayPass, Cond.instanceMethod yX1_mayPass, Cond.selects RX1 yX1_mayPass yX1_mayPass, Cond.code yX1_mayPass cX1_mayPass 2 (some .boolean), Cond.methodLink RX1 165 yX1_reject, Cond.instanceMethod yX1_reject, Cond.selects RX1 yX1_reject yX1_reject, Cond.code yX1_reject cX1_reject 3 none, Cond.fieldLink RX1 59 "LabelStation$State" "diverted" "I", Cond.fieldLink RX1 56 "LabelStation$State" "consecutiveRejects" "I", Cond.methodLink RX1 184 yX1_causeOf, Cond.instanceMethod yX1_causeOf, Cond.selects RX1 yX1_causeOf yX1_causeOf, Cond.code yX1_causeOf cX1_causeOf 2 (some .int), Cond.methodLink RX1 171 yX1_leaveRegister, Cond.instanceMethod yX1_leaveRegister, Cond.selects RX1 yX1_leaveRegister yX1_leaveRegister, Cond.code yX1_leaveRegister cX1_leaveRegister 3 none, Cond.fieldLink RX1 62 "LabelStation$State" "watched" "I", Cond.fieldLink RX1 65 "LabelStation$State" "outcome" "I", Cond.methodLink RX1 168 yX1_pass, Cond.instanceMethod yX1_pass, Cond.selects RX1 yX1_pass yX1_pass]
noncomputable def wsX1_passTick_r7 : List Cond := [Cond.code yX1_pass cX1_pass 2 none, Cond.methodLink RX1 152 yX1_leaveBelt, Cond.instanceMethod yX1_leaveBelt, Cond.selects RX1 yX1_leaveBelt yX1_leaveBelt, Cond.code yX1_leaveBelt cX1_leaveBelt 3 none, Cond.methodLink RX1 187 yX1_recordForExit, Cond.instanceMethod yX1_recordForExit, Cond.selects RX1 yX1_recordForExit yX1_recordForExit, Cond.code yX1_recordForExit cX1_recordForExit 7 (some .int)]
noncomputable def wsX1_passTick : List Cond := .code yX1_passTick cX1_passTick 3 none :: ((wsX1_passTick_r1 ++ (wsX1_passTick_r2 ++ (wsX1_passTick_r3 ++ (wsX1_passTick_r4 ++ (wsX1_passTick_r5 ++ (wsX1_passTick_r6 ++ wsX1_passTick_r7)))))) ++ wsX10 ++ wsX20)
noncomputable def wsX2_mixInto : List Cond := .code yX2_mixInto cX2_mixInto 7 (some .long) :: ([.fieldLink RX2 9 "LabelStation$Table" "rows" "I", .fieldLink RX2 21 "LabelStation$Table" "width" "I", .constantLong RX2 48 (31), .methodLink RX2 41 yX2_get, .instanceMethod yX2_get, .selects RX2 yX2_get yX2_get, .initialized RX2, .code yX2_get cX2_get 4 (some .int), .fieldLink RX2 27 "LabelStation$Table" "cells" "[I"] ++ wsX20)
noncomputable def wsX3_init_r1 : List Cond := [Cond.methodLink RX3 1 objectInit, Cond.instanceMethod objectInit, Cond.code objectInit ⟨#[0xb1]⟩ 1 none, Cond.classLink RX3 7 RX1, Cond.instantiable RX1 16, Cond.initialized RX1, Cond.fieldLink RX3 10 "LabelStation" "state" "LLabelStation$State;", Cond.fieldLink RX3 16 "LabelStation" "trial" "LLabelStation$State;", Cond.classLink RX3 19 RX0, Cond.instantiable RX0 3, Cond.initialized RX0, Cond.fieldLink RX3 22 "LabelStation" "history" "LLabelStation$History;", Cond.arrayClass .byte, Cond.fieldLink RX3 26 "LabelStation" "text" "[B", Cond.fieldLink RX3 30 "LabelStation" "textLength" "I", Cond.methodLink RX3 9 yX1_init, Cond.instanceMethod yX1_init, Cond.code yX1_init cX1_init 1 none, Cond.methodLink RX1 3 objectInit, Cond.arrayClass .int, Cond.fieldLink RX1 9 "LabelStation$State" "settings" "[I", Cond.fieldLink RX1 15 "LabelStation$State" "places" "[I", Cond.fieldLink RX1 18 "LabelStation$State" "counters" "[I", Cond.classLink RX1 21 RX2]
noncomputable def wsX3_init_r2 : List Cond := [Cond.instantiable RX2 4, Cond.initialized RX2, Cond.fieldLink RX1 26 "LabelStation$State" "items" "LLabelStation$Table;", Cond.fieldLink RX1 30 "LabelStation$State" "records" "LLabelStation$Table;", Cond.fieldLink RX1 33 "LabelStation$State" "verdicts" "LLabelStation$Table;", Cond.fieldLink RX1 36 "LabelStation$State" "binArrivals" "LLabelStation$Table;", Cond.fieldLink RX1 39 "LabelStation$State" "expectations" "LLabelStation$Table;", Cond.fieldLink RX1 42 "LabelStation$State" "tick" "I", Cond.fieldLink RX1 46 "LabelStation$State" "running" "Z", Cond.fieldLink RX1 50 "LabelStation$State" "alarm" "I", Cond.fieldLink RX1 53 "LabelStation$State" "jammed" "Z", Cond.fieldLink RX1 56 "LabelStation$State" "consecutiveRejects" "I", Cond.fieldLink RX1 59 "LabelStation$State" "diverted" "I", Cond.fieldLink RX1 62 "LabelStation$State" "watched" "I", Cond.fieldLink RX1 65 "LabelStation$State" "outcome" "I", Cond.methodLink RX1 23 yX2_init, Cond.instanceMethod yX2_init, Cond.code yX2_init cX2_init 3 none, Cond.methodLink RX2 3 objectInit, Cond.fieldLink RX2 9 "LabelStation$Table" "rows" "I", Cond.methodLink RX2 15 Lib.Math.max.name, Cond.static Lib.Math.max.name, Cond.initialized "java/lang/Math", Cond.code Lib.Math.max.name Lib.Math.max.code 2 (some .int)]
noncomputable def wsX3_init_r3 : List Cond := [Cond.fieldLink RX2 21 "LabelStation$Table" "width" "I", Cond.fieldLink RX2 24 "LabelStation$Table" "room" "I", Cond.fieldLink RX2 27 "LabelStation$Table" "cells" "[I", Cond.methodLink RX3 21 yX0_init, Cond.instanceMethod yX0_init, Cond.code yX0_init cX0_init 2 none, Cond.methodLink RX0 3 objectInit, Cond.classLink RX0 9 RX1, Cond.fieldLink RX0 11 "LabelStation$History" "slots" "[LLabelStation$State;", Cond.fieldLink RX0 17 "LabelStation$History" "oldest" "I", Cond.fieldLink RX0 21 "LabelStation$History" "saved" "I", Cond.methodLink RX0 24 yX1_init]
noncomputable def wsX3_init : List Cond := .code yX3_init cX3_init 1 none :: ((wsX3_init_r1 ++ (wsX3_init_r2 ++ wsX3_init_r3)) ++ wsX10 ++ wsX30 ++ wsX00 ++ wsX20)
noncomputable def wsX3_setPlaces_r1 : List Cond := [Cond.classLink RX3 34 "java/lang/IllegalArgumentException", Cond.initialized "java/lang/IllegalArgumentException", Cond.classLink RX3 54 "java/lang/IllegalStateException", Cond.initialized "java/lang/IllegalStateException", Cond.fieldLink RX3 10 "LabelStation" "state" "LLabelStation$State;", Cond.fieldLink RX3 22 "LabelStation" "history" "LLabelStation$History;", Cond.methodLink RX3 45 yX2_count, Cond.instanceMethod yX2_count, Cond.selects RX2 yX2_count yX2_count, Cond.initialized RX2, Cond.code yX2_count cX2_count 1 (some .int), Cond.fieldLink RX2 9 "LabelStation$Table" "rows" "I", Cond.methodLink RX3 59 yX0_save, Cond.instanceMethod yX0_save, Cond.selects RX0 yX0_save yX0_save, Cond.initialized RX0, Cond.code yX0_save cX0_save 2 none, Cond.methodLink RX0 25 yX0_prepare, Cond.instanceMethod yX0_prepare, Cond.selects RX0 yX0_prepare yX0_prepare, Cond.code yX0_prepare cX0_prepare 3 none, Cond.fieldLink RX0 21 "LabelStation$History" "saved" "I", Cond.methodLink RX0 32 yX0_slotAt, Cond.instanceMethod yX0_slotAt]
noncomputable def wsX3_setPlaces_r2 : List Cond := [Cond.selects RX0 yX0_slotAt yX0_slotAt, Cond.code yX0_slotAt cX0_slotAt 3 (some (.object "LabelStation$State")), Cond.fieldLink RX0 17 "LabelStation$History" "oldest" "I", Cond.fieldLink RX0 11 "LabelStation$History" "slots" "[LLabelStation$State;", Cond.methodLink RX0 36 yX1_copyFrom, Cond.instanceMethod yX1_copyFrom, Cond.selects RX1 yX1_copyFrom yX1_copyFrom, Cond.initialized RX1, Cond.code yX1_copyFrom cX1_copyFrom 2 none, Cond.fieldLink RX1 9 "LabelStation$State" "settings" "[I", Cond.methodLink RX1 68 Lib.Math.min.name, Cond.static Lib.Math.min.name, Cond.initialized "java/lang/Math", Cond.code Lib.Math.min.name Lib.Math.min.code 2 (some .int), Cond.methodLink RX1 74 arraycopyName, Cond.native arraycopyName, Cond.static arraycopyName, Cond.initialized "java/lang/System", Cond.fieldLink RX1 15 "LabelStation$State" "places" "[I", Cond.fieldLink RX1 18 "LabelStation$State" "counters" "[I", Cond.fieldLink RX1 26 "LabelStation$State" "items" "LLabelStation$Table;", Cond.fieldLink RX1 30 "LabelStation$State" "records" "LLabelStation$Table;", Cond.fieldLink RX1 33 "LabelStation$State" "verdicts" "LLabelStation$Table;", Cond.fieldLink RX1 36 "LabelStation$State" "binArrivals" "LLabelStation$Table;"]
noncomputable def wsX3_setPlaces_r3 : List Cond := [Cond.fieldLink RX1 39 "LabelStation$State" "expectations" "LLabelStation$Table;", Cond.fieldLink RX1 42 "LabelStation$State" "tick" "I", Cond.fieldLink RX1 46 "LabelStation$State" "running" "Z", Cond.fieldLink RX1 50 "LabelStation$State" "alarm" "I", Cond.fieldLink RX1 53 "LabelStation$State" "jammed" "Z", Cond.fieldLink RX1 56 "LabelStation$State" "consecutiveRejects" "I", Cond.fieldLink RX1 59 "LabelStation$State" "diverted" "I", Cond.methodLink RX1 80 yX2_copyFrom, Cond.instanceMethod yX2_copyFrom, Cond.selects RX2 yX2_copyFrom yX2_copyFrom, Cond.code yX2_copyFrom cX2_copyFrom 2 none, Cond.fieldLink RX2 27 "LabelStation$Table" "cells" "[I", Cond.methodLink RX2 31 arraycopyName, Cond.methodLink RX0 29 yX0_keepPrepared, Cond.instanceMethod yX0_keepPrepared, Cond.selects RX0 yX0_keepPrepared yX0_keepPrepared, Cond.code yX0_keepPrepared cX0_keepPrepared 1 none, Cond.methodLink RX3 63 yX1_place, Cond.instanceMethod yX1_place, Cond.selects RX1 yX1_place yX1_place, Cond.code yX1_place cX1_place 2 (some .int), Cond.methodLink RX3 67 yX1_putPlace, Cond.instanceMethod yX1_putPlace, Cond.selects RX1 yX1_putPlace yX1_putPlace]
noncomputable def wsX3_setPlaces_r4 : List Cond := [Cond.code yX1_putPlace cX1_putPlace 3 none]
noncomputable def wsX3_setPlaces : List Cond := .code yX3_setPlaces cX3_setPlaces 8 (some .int) :: ((wsX3_setPlaces_r1 ++ (wsX3_setPlaces_r2 ++ (wsX3_setPlaces_r3 ++ wsX3_setPlaces_r4))) ++ wsX30 ++ wsX10 ++ wsX20 ++ wsX00 ++ (vx_atS RX3 38 "java/lang/IllegalArgumentException" ["java/lang/RuntimeException", "java/lang/Exception"]).filter goodWord ++ (vx_atS RX3 58 "java/lang/IllegalStateException" ["java/lang/RuntimeException", "java/lang/Exception"]).filter goodWord)
noncomputable def wsX3_set_r1 : List Cond := [Cond.classLink RX3 34 "java/lang/IllegalArgumentException", Cond.initialized "java/lang/IllegalArgumentException", Cond.fieldLink RX3 71 "LabelStation" "LEAST_SETTING" "[I", Cond.fieldLink RX3 75 "LabelStation" "MOST_SETTING" "[I", Cond.fieldLink RX3 22 "LabelStation" "history" "LLabelStation$History;", Cond.fieldLink RX3 10 "LabelStation" "state" "LLabelStation$State;", Cond.methodLink RX3 59 yX0_save, Cond.instanceMethod yX0_save, Cond.selects RX0 yX0_save yX0_save, Cond.initialized RX0, Cond.code yX0_save cX0_save 2 none, Cond.methodLink RX0 25 yX0_prepare, Cond.instanceMethod yX0_prepare, Cond.selects RX0 yX0_prepare yX0_prepare, Cond.code yX0_prepare cX0_prepare 3 none, Cond.fieldLink RX0 21 "LabelStation$History" "saved" "I", Cond.methodLink RX0 32 yX0_slotAt, Cond.instanceMethod yX0_slotAt, Cond.selects RX0 yX0_slotAt yX0_slotAt, Cond.code yX0_slotAt cX0_slotAt 3 (some (.object "LabelStation$State")), Cond.fieldLink RX0 17 "LabelStation$History" "oldest" "I", Cond.fieldLink RX0 11 "LabelStation$History" "slots" "[LLabelStation$State;", Cond.methodLink RX0 36 yX1_copyFrom, Cond.instanceMethod yX1_copyFrom]
noncomputable def wsX3_set_r2 : List Cond := [Cond.selects RX1 yX1_copyFrom yX1_copyFrom, Cond.initialized RX1, Cond.code yX1_copyFrom cX1_copyFrom 2 none, Cond.fieldLink RX1 9 "LabelStation$State" "settings" "[I", Cond.methodLink RX1 68 Lib.Math.min.name, Cond.static Lib.Math.min.name, Cond.initialized "java/lang/Math", Cond.code Lib.Math.min.name Lib.Math.min.code 2 (some .int), Cond.methodLink RX1 74 arraycopyName, Cond.native arraycopyName, Cond.static arraycopyName, Cond.initialized "java/lang/System", Cond.fieldLink RX1 15 "LabelStation$State" "places" "[I", Cond.fieldLink RX1 18 "LabelStation$State" "counters" "[I", Cond.fieldLink RX1 26 "LabelStation$State" "items" "LLabelStation$Table;", Cond.fieldLink RX1 30 "LabelStation$State" "records" "LLabelStation$Table;", Cond.fieldLink RX1 33 "LabelStation$State" "verdicts" "LLabelStation$Table;", Cond.fieldLink RX1 36 "LabelStation$State" "binArrivals" "LLabelStation$Table;", Cond.fieldLink RX1 39 "LabelStation$State" "expectations" "LLabelStation$Table;", Cond.fieldLink RX1 42 "LabelStation$State" "tick" "I", Cond.fieldLink RX1 46 "LabelStation$State" "running" "Z", Cond.fieldLink RX1 50 "LabelStation$State" "alarm" "I", Cond.fieldLink RX1 53 "LabelStation$State" "jammed" "Z", Cond.fieldLink RX1 56 "LabelStation$State" "consecutiveRejects" "I"]
noncomputable def wsX3_set_r3 : List Cond := [Cond.fieldLink RX1 59 "LabelStation$State" "diverted" "I", Cond.methodLink RX1 80 yX2_copyFrom, Cond.instanceMethod yX2_copyFrom, Cond.selects RX2 yX2_copyFrom yX2_copyFrom, Cond.initialized RX2, Cond.code yX2_copyFrom cX2_copyFrom 2 none, Cond.fieldLink RX2 27 "LabelStation$Table" "cells" "[I", Cond.methodLink RX2 31 arraycopyName, Cond.fieldLink RX2 9 "LabelStation$Table" "rows" "I", Cond.methodLink RX0 29 yX0_keepPrepared, Cond.instanceMethod yX0_keepPrepared, Cond.selects RX0 yX0_keepPrepared yX0_keepPrepared, Cond.code yX0_keepPrepared cX0_keepPrepared 1 none, Cond.methodLink RX3 82 yX1_setting, Cond.instanceMethod yX1_setting, Cond.selects RX1 yX1_setting yX1_setting, Cond.code yX1_setting cX1_setting 2 (some .int), Cond.methodLink RX3 85 yX1_putSetting, Cond.instanceMethod yX1_putSetting, Cond.selects RX1 yX1_putSetting yX1_putSetting, Cond.code yX1_putSetting cX1_putSetting 3 none]
noncomputable def wsX3_set : List Cond := .code yX3_set cX3_set 4 (some .int) :: ((wsX3_set_r1 ++ (wsX3_set_r2 ++ wsX3_set_r3)) ++ wsX30 ++ wsX00 ++ wsX10 ++ wsX20 ++ (vx_atS RX3 38 "java/lang/IllegalArgumentException" ["java/lang/RuntimeException", "java/lang/Exception"]).filter goodWord)
noncomputable def wsX3_value : List Cond := .code yX3_value cX3_value 2 (some .int) :: ([.classLink RX3 34 "java/lang/IllegalArgumentException", .initialized "java/lang/IllegalArgumentException", .fieldLink RX3 10 "LabelStation" "state" "LLabelStation$State;", .methodLink RX3 90 yX1_valueOf, .instanceMethod yX1_valueOf, .selects RX1 yX1_valueOf yX1_valueOf, .initialized RX1, .code yX1_valueOf cX1_valueOf 2 (some .int), .fieldLink RX1 56 "LabelStation$State" "consecutiveRejects" "I", .fieldLink RX1 9 "LabelStation$State" "settings" "[I", .methodLink RX1 84 yX1_setting, .instanceMethod yX1_setting, .selects RX1 yX1_setting yX1_setting, .code yX1_setting cX1_setting 2 (some .int), .methodLink RX1 88 yX1_place, .instanceMethod yX1_place, .selects RX1 yX1_place yX1_place, .code yX1_place cX1_place 2 (some .int), .fieldLink RX1 15 "LabelStation$State" "places" "[I"] ++ wsX30 ++ wsX10 ++ (vx_atS RX3 38 "java/lang/IllegalArgumentException" ["java/lang/RuntimeException", "java/lang/Exception"]).filter goodWord)
noncomputable def wsX3_jam_r1 : List Cond := [Cond.fieldLink RX3 22 "LabelStation" "history" "LLabelStation$History;", Cond.fieldLink RX3 10 "LabelStation" "state" "LLabelStation$State;", Cond.methodLink RX3 59 yX0_save, Cond.instanceMethod yX0_save, Cond.selects RX0 yX0_save yX0_save, Cond.initialized RX0, Cond.code yX0_save cX0_save 2 none, Cond.methodLink RX0 25 yX0_prepare, Cond.instanceMethod yX0_prepare, Cond.selects RX0 yX0_prepare yX0_prepare, Cond.code yX0_prepare cX0_prepare 3 none, Cond.fieldLink RX0 21 "LabelStation$History" "saved" "I", Cond.methodLink RX0 32 yX0_slotAt, Cond.instanceMethod yX0_slotAt, Cond.selects RX0 yX0_slotAt yX0_slotAt, Cond.code yX0_slotAt cX0_slotAt 3 (some (.object "LabelStation$State")), Cond.fieldLink RX0 17 "LabelStation$History" "oldest" "I", Cond.fieldLink RX0 11 "LabelStation$History" "slots" "[LLabelStation$State;", Cond.methodLink RX0 36 yX1_copyFrom, Cond.instanceMethod yX1_copyFrom, Cond.selects RX1 yX1_copyFrom yX1_copyFrom, Cond.initialized RX1, Cond.code yX1_copyFrom cX1_copyFrom 2 none, Cond.fieldLink RX1 9 "LabelStation$State" "settings" "[I"]
noncomputable def wsX3_jam_r2 : List Cond := [Cond.methodLink RX1 68 Lib.Math.min.name, Cond.static Lib.Math.min.name, Cond.initialized "java/lang/Math", Cond.code Lib.Math.min.name Lib.Math.min.code 2 (some .int), Cond.methodLink RX1 74 arraycopyName, Cond.native arraycopyName, Cond.static arraycopyName, Cond.initialized "java/lang/System", Cond.fieldLink RX1 15 "LabelStation$State" "places" "[I", Cond.fieldLink RX1 18 "LabelStation$State" "counters" "[I", Cond.fieldLink RX1 26 "LabelStation$State" "items" "LLabelStation$Table;", Cond.fieldLink RX1 30 "LabelStation$State" "records" "LLabelStation$Table;", Cond.fieldLink RX1 33 "LabelStation$State" "verdicts" "LLabelStation$Table;", Cond.fieldLink RX1 36 "LabelStation$State" "binArrivals" "LLabelStation$Table;", Cond.fieldLink RX1 39 "LabelStation$State" "expectations" "LLabelStation$Table;", Cond.fieldLink RX1 42 "LabelStation$State" "tick" "I", Cond.fieldLink RX1 46 "LabelStation$State" "running" "Z", Cond.fieldLink RX1 50 "LabelStation$State" "alarm" "I", Cond.fieldLink RX1 53 "LabelStation$State" "jammed" "Z", Cond.fieldLink RX1 56 "LabelStation$State" "consecutiveRejects" "I", Cond.fieldLink RX1 59 "LabelStation$State" "diverted" "I", Cond.methodLink RX1 80 yX2_copyFrom, Cond.instanceMethod yX2_copyFrom, Cond.selects RX2 yX2_copyFrom yX2_copyFrom]
noncomputable def wsX3_jam_r3 : List Cond := [Cond.initialized RX2, Cond.code yX2_copyFrom cX2_copyFrom 2 none, Cond.fieldLink RX2 27 "LabelStation$Table" "cells" "[I", Cond.methodLink RX2 31 arraycopyName, Cond.fieldLink RX2 9 "LabelStation$Table" "rows" "I", Cond.methodLink RX0 29 yX0_keepPrepared, Cond.instanceMethod yX0_keepPrepared, Cond.selects RX0 yX0_keepPrepared yX0_keepPrepared, Cond.code yX0_keepPrepared cX0_keepPrepared 1 none]
noncomputable def wsX3_jam : List Cond := .code yX3_jam cX3_jam 3 (some .boolean) :: ((wsX3_jam_r1 ++ (wsX3_jam_r2 ++ wsX3_jam_r3)) ++ wsX30 ++ wsX10 ++ wsX00 ++ wsX20)
noncomputable def wsX3_start_r1 : List Cond := [Cond.classLink RX3 54 "java/lang/IllegalStateException", Cond.initialized "java/lang/IllegalStateException", Cond.fieldLink RX3 10 "LabelStation" "state" "LLabelStation$State;", Cond.fieldLink RX3 22 "LabelStation" "history" "LLabelStation$History;", Cond.methodLink RX3 59 yX0_save, Cond.instanceMethod yX0_save, Cond.selects RX0 yX0_save yX0_save, Cond.initialized RX0, Cond.code yX0_save cX0_save 2 none, Cond.methodLink RX0 25 yX0_prepare, Cond.instanceMethod yX0_prepare, Cond.selects RX0 yX0_prepare yX0_prepare, Cond.code yX0_prepare cX0_prepare 3 none, Cond.fieldLink RX0 21 "LabelStation$History" "saved" "I", Cond.methodLink RX0 32 yX0_slotAt, Cond.instanceMethod yX0_slotAt, Cond.selects RX0 yX0_slotAt yX0_slotAt, Cond.code yX0_slotAt cX0_slotAt 3 (some (.object "LabelStation$State")), Cond.fieldLink RX0 17 "LabelStation$History" "oldest" "I", Cond.fieldLink RX0 11 "LabelStation$History" "slots" "[LLabelStation$State;", Cond.methodLink RX0 36 yX1_copyFrom, Cond.instanceMethod yX1_copyFrom, Cond.selects RX1 yX1_copyFrom yX1_copyFrom, Cond.initialized RX1]
noncomputable def wsX3_start_r2 : List Cond := [Cond.code yX1_copyFrom cX1_copyFrom 2 none, Cond.fieldLink RX1 9 "LabelStation$State" "settings" "[I", Cond.methodLink RX1 68 Lib.Math.min.name, Cond.static Lib.Math.min.name, Cond.initialized "java/lang/Math", Cond.code Lib.Math.min.name Lib.Math.min.code 2 (some .int), Cond.methodLink RX1 74 arraycopyName, Cond.native arraycopyName, Cond.static arraycopyName, Cond.initialized "java/lang/System", Cond.fieldLink RX1 15 "LabelStation$State" "places" "[I", Cond.fieldLink RX1 18 "LabelStation$State" "counters" "[I", Cond.fieldLink RX1 26 "LabelStation$State" "items" "LLabelStation$Table;", Cond.fieldLink RX1 30 "LabelStation$State" "records" "LLabelStation$Table;", Cond.fieldLink RX1 33 "LabelStation$State" "verdicts" "LLabelStation$Table;", Cond.fieldLink RX1 36 "LabelStation$State" "binArrivals" "LLabelStation$Table;", Cond.fieldLink RX1 39 "LabelStation$State" "expectations" "LLabelStation$Table;", Cond.fieldLink RX1 42 "LabelStation$State" "tick" "I", Cond.fieldLink RX1 46 "LabelStation$State" "running" "Z", Cond.fieldLink RX1 50 "LabelStation$State" "alarm" "I", Cond.fieldLink RX1 53 "LabelStation$State" "jammed" "Z", Cond.fieldLink RX1 56 "LabelStation$State" "consecutiveRejects" "I", Cond.fieldLink RX1 59 "LabelStation$State" "diverted" "I", Cond.methodLink RX1 80 yX2_copyFrom]
noncomputable def wsX3_start_r3 : List Cond := [Cond.instanceMethod yX2_copyFrom, Cond.selects RX2 yX2_copyFrom yX2_copyFrom, Cond.initialized RX2, Cond.code yX2_copyFrom cX2_copyFrom 2 none, Cond.fieldLink RX2 27 "LabelStation$Table" "cells" "[I", Cond.methodLink RX2 31 arraycopyName, Cond.fieldLink RX2 9 "LabelStation$Table" "rows" "I", Cond.methodLink RX0 29 yX0_keepPrepared, Cond.instanceMethod yX0_keepPrepared, Cond.selects RX0 yX0_keepPrepared yX0_keepPrepared, Cond.code yX0_keepPrepared cX0_keepPrepared 1 none, Cond.methodLink RX3 45 yX2_count, Cond.instanceMethod yX2_count, Cond.selects RX2 yX2_count yX2_count, Cond.code yX2_count cX2_count 1 (some .int)]
noncomputable def wsX3_start : List Cond := .code yX3_start cX3_start 1 (some .int) :: ((wsX3_start_r1 ++ (wsX3_start_r2 ++ wsX3_start_r3)) ++ wsX30 ++ wsX10 ++ wsX00 ++ wsX20 ++ (vx_atS RX3 58 "java/lang/IllegalStateException" ["java/lang/RuntimeException", "java/lang/Exception"]).filter goodWord)
noncomputable def wsX3_stop_r1 : List Cond := [Cond.classLink RX3 54 "java/lang/IllegalStateException", Cond.initialized "java/lang/IllegalStateException", Cond.fieldLink RX3 10 "LabelStation" "state" "LLabelStation$State;", Cond.fieldLink RX3 22 "LabelStation" "history" "LLabelStation$History;", Cond.methodLink RX3 59 yX0_save, Cond.instanceMethod yX0_save, Cond.selects RX0 yX0_save yX0_save, Cond.initialized RX0, Cond.code yX0_save cX0_save 2 none, Cond.methodLink RX0 25 yX0_prepare, Cond.instanceMethod yX0_prepare, Cond.selects RX0 yX0_prepare yX0_prepare, Cond.code yX0_prepare cX0_prepare 3 none, Cond.fieldLink RX0 21 "LabelStation$History" "saved" "I", Cond.methodLink RX0 32 yX0_slotAt, Cond.instanceMethod yX0_slotAt, Cond.selects RX0 yX0_slotAt yX0_slotAt, Cond.code yX0_slotAt cX0_slotAt 3 (some (.object "LabelStation$State")), Cond.fieldLink RX0 17 "LabelStation$History" "oldest" "I", Cond.fieldLink RX0 11 "LabelStation$History" "slots" "[LLabelStation$State;", Cond.methodLink RX0 36 yX1_copyFrom, Cond.instanceMethod yX1_copyFrom, Cond.selects RX1 yX1_copyFrom yX1_copyFrom, Cond.initialized RX1]
noncomputable def wsX3_stop_r2 : List Cond := [Cond.code yX1_copyFrom cX1_copyFrom 2 none, Cond.fieldLink RX1 9 "LabelStation$State" "settings" "[I", Cond.methodLink RX1 68 Lib.Math.min.name, Cond.static Lib.Math.min.name, Cond.initialized "java/lang/Math", Cond.code Lib.Math.min.name Lib.Math.min.code 2 (some .int), Cond.methodLink RX1 74 arraycopyName, Cond.native arraycopyName, Cond.static arraycopyName, Cond.initialized "java/lang/System", Cond.fieldLink RX1 15 "LabelStation$State" "places" "[I", Cond.fieldLink RX1 18 "LabelStation$State" "counters" "[I", Cond.fieldLink RX1 26 "LabelStation$State" "items" "LLabelStation$Table;", Cond.fieldLink RX1 30 "LabelStation$State" "records" "LLabelStation$Table;", Cond.fieldLink RX1 33 "LabelStation$State" "verdicts" "LLabelStation$Table;", Cond.fieldLink RX1 36 "LabelStation$State" "binArrivals" "LLabelStation$Table;", Cond.fieldLink RX1 39 "LabelStation$State" "expectations" "LLabelStation$Table;", Cond.fieldLink RX1 42 "LabelStation$State" "tick" "I", Cond.fieldLink RX1 46 "LabelStation$State" "running" "Z", Cond.fieldLink RX1 50 "LabelStation$State" "alarm" "I", Cond.fieldLink RX1 53 "LabelStation$State" "jammed" "Z", Cond.fieldLink RX1 56 "LabelStation$State" "consecutiveRejects" "I", Cond.fieldLink RX1 59 "LabelStation$State" "diverted" "I", Cond.methodLink RX1 80 yX2_copyFrom]
noncomputable def wsX3_stop_r3 : List Cond := [Cond.instanceMethod yX2_copyFrom, Cond.selects RX2 yX2_copyFrom yX2_copyFrom, Cond.initialized RX2, Cond.code yX2_copyFrom cX2_copyFrom 2 none, Cond.fieldLink RX2 27 "LabelStation$Table" "cells" "[I", Cond.methodLink RX2 31 arraycopyName, Cond.fieldLink RX2 9 "LabelStation$Table" "rows" "I", Cond.methodLink RX0 29 yX0_keepPrepared, Cond.instanceMethod yX0_keepPrepared, Cond.selects RX0 yX0_keepPrepared yX0_keepPrepared, Cond.code yX0_keepPrepared cX0_keepPrepared 1 none, Cond.methodLink RX3 45 yX2_count, Cond.instanceMethod yX2_count, Cond.selects RX2 yX2_count yX2_count, Cond.code yX2_count cX2_count 1 (some .int)]
noncomputable def wsX3_stop : List Cond := .code yX3_stop cX3_stop 1 (some .int) :: ((wsX3_stop_r1 ++ (wsX3_stop_r2 ++ wsX3_stop_r3)) ++ wsX30 ++ wsX10 ++ wsX00 ++ wsX20 ++ (vx_atS RX3 58 "java/lang/IllegalStateException" ["java/lang/RuntimeException", "java/lang/Exception"]).filter goodWord)
noncomputable def wsX3_reset_r1 : List Cond := [Cond.classLink RX3 54 "java/lang/IllegalStateException", Cond.initialized "java/lang/IllegalStateException", Cond.fieldLink RX3 10 "LabelStation" "state" "LLabelStation$State;", Cond.fieldLink RX3 22 "LabelStation" "history" "LLabelStation$History;", Cond.methodLink RX3 59 yX0_save, Cond.instanceMethod yX0_save, Cond.selects RX0 yX0_save yX0_save, Cond.initialized RX0, Cond.code yX0_save cX0_save 2 none, Cond.methodLink RX0 25 yX0_prepare, Cond.instanceMethod yX0_prepare, Cond.selects RX0 yX0_prepare yX0_prepare, Cond.code yX0_prepare cX0_prepare 3 none, Cond.fieldLink RX0 21 "LabelStation$History" "saved" "I", Cond.methodLink RX0 32 yX0_slotAt, Cond.instanceMethod yX0_slotAt, Cond.selects RX0 yX0_slotAt yX0_slotAt, Cond.code yX0_slotAt cX0_slotAt 3 (some (.object "LabelStation$State")), Cond.fieldLink RX0 17 "LabelStation$History" "oldest" "I", Cond.fieldLink RX0 11 "LabelStation$History" "slots" "[LLabelStation$State;", Cond.methodLink RX0 36 yX1_copyFrom, Cond.instanceMethod yX1_copyFrom, Cond.selects RX1 yX1_copyFrom yX1_copyFrom, Cond.initialized RX1]
noncomputable def wsX3_reset_r2 : List Cond := [Cond.code yX1_copyFrom cX1_copyFrom 2 none, Cond.fieldLink RX1 9 "LabelStation$State" "settings" "[I", Cond.methodLink RX1 68 Lib.Math.min.name, Cond.static Lib.Math.min.name, Cond.initialized "java/lang/Math", Cond.code Lib.Math.min.name Lib.Math.min.code 2 (some .int), Cond.methodLink RX1 74 arraycopyName, Cond.native arraycopyName, Cond.static arraycopyName, Cond.initialized "java/lang/System", Cond.fieldLink RX1 15 "LabelStation$State" "places" "[I", Cond.fieldLink RX1 18 "LabelStation$State" "counters" "[I", Cond.fieldLink RX1 26 "LabelStation$State" "items" "LLabelStation$Table;", Cond.fieldLink RX1 30 "LabelStation$State" "records" "LLabelStation$Table;", Cond.fieldLink RX1 33 "LabelStation$State" "verdicts" "LLabelStation$Table;", Cond.fieldLink RX1 36 "LabelStation$State" "binArrivals" "LLabelStation$Table;", Cond.fieldLink RX1 39 "LabelStation$State" "expectations" "LLabelStation$Table;", Cond.fieldLink RX1 42 "LabelStation$State" "tick" "I", Cond.fieldLink RX1 46 "LabelStation$State" "running" "Z", Cond.fieldLink RX1 50 "LabelStation$State" "alarm" "I", Cond.fieldLink RX1 53 "LabelStation$State" "jammed" "Z", Cond.fieldLink RX1 56 "LabelStation$State" "consecutiveRejects" "I", Cond.fieldLink RX1 59 "LabelStation$State" "diverted" "I", Cond.methodLink RX1 80 yX2_copyFrom]
noncomputable def wsX3_reset_r3 : List Cond := [Cond.instanceMethod yX2_copyFrom, Cond.selects RX2 yX2_copyFrom yX2_copyFrom, Cond.initialized RX2, Cond.code yX2_copyFrom cX2_copyFrom 2 none, Cond.fieldLink RX2 27 "LabelStation$Table" "cells" "[I", Cond.methodLink RX2 31 arraycopyName, Cond.fieldLink RX2 9 "LabelStation$Table" "rows" "I", Cond.methodLink RX0 29 yX0_keepPrepared, Cond.instanceMethod yX0_keepPrepared, Cond.selects RX0 yX0_keepPrepared yX0_keepPrepared, Cond.code yX0_keepPrepared cX0_keepPrepared 1 none]
noncomputable def wsX3_reset : List Cond := .code yX3_reset cX3_reset 2 (some .int) :: ((wsX3_reset_r1 ++ (wsX3_reset_r2 ++ wsX3_reset_r3)) ++ wsX30 ++ wsX10 ++ wsX00 ++ wsX20 ++ (vx_atS RX3 58 "java/lang/IllegalStateException" ["java/lang/RuntimeException", "java/lang/Exception"]).filter goodWord)
noncomputable def wsX3_feed_r1 : List Cond := [Cond.classLink RX3 34 "java/lang/IllegalArgumentException", Cond.initialized "java/lang/IllegalArgumentException", Cond.classLink RX3 54 "java/lang/IllegalStateException", Cond.initialized "java/lang/IllegalStateException", Cond.fieldLink RX3 10 "LabelStation" "state" "LLabelStation$State;", Cond.fieldLink RX3 22 "LabelStation" "history" "LLabelStation$History;", Cond.methodLink RX3 111 yX1_hasRoom, Cond.instanceMethod yX1_hasRoom, Cond.selects RX1 yX1_hasRoom yX1_hasRoom, Cond.initialized RX1, Cond.code yX1_hasRoom cX1_hasRoom 1 (some .boolean), Cond.fieldLink RX1 26 "LabelStation$State" "items" "LLabelStation$Table;", Cond.fieldLink RX1 30 "LabelStation$State" "records" "LLabelStation$Table;", Cond.methodLink RX1 91 yX2_count, Cond.instanceMethod yX2_count, Cond.selects RX2 yX2_count yX2_count, Cond.initialized RX2, Cond.code yX2_count cX2_count 1 (some .int), Cond.fieldLink RX2 9 "LabelStation$Table" "rows" "I", Cond.methodLink RX1 95 yX2_hasBelow, Cond.instanceMethod yX2_hasBelow, Cond.selects RX2 yX2_hasBelow yX2_hasBelow, Cond.code yX2_hasBelow cX2_hasBelow 4 (some .boolean), Cond.methodLink RX2 41 yX2_get]
noncomputable def wsX3_feed_r2 : List Cond := [Cond.instanceMethod yX2_get, Cond.selects RX2 yX2_get yX2_get, Cond.code yX2_get cX2_get 4 (some .int), Cond.fieldLink RX2 21 "LabelStation$Table" "width" "I", Cond.fieldLink RX2 27 "LabelStation$Table" "cells" "[I", Cond.methodLink RX3 59 yX0_save, Cond.instanceMethod yX0_save, Cond.selects RX0 yX0_save yX0_save, Cond.initialized RX0, Cond.code yX0_save cX0_save 2 none, Cond.methodLink RX0 25 yX0_prepare, Cond.instanceMethod yX0_prepare, Cond.selects RX0 yX0_prepare yX0_prepare, Cond.code yX0_prepare cX0_prepare 3 none, Cond.fieldLink RX0 21 "LabelStation$History" "saved" "I", Cond.methodLink RX0 32 yX0_slotAt, Cond.instanceMethod yX0_slotAt, Cond.selects RX0 yX0_slotAt yX0_slotAt, Cond.code yX0_slotAt cX0_slotAt 3 (some (.object "LabelStation$State")), Cond.fieldLink RX0 17 "LabelStation$History" "oldest" "I", Cond.fieldLink RX0 11 "LabelStation$History" "slots" "[LLabelStation$State;", Cond.methodLink RX0 36 yX1_copyFrom, Cond.instanceMethod yX1_copyFrom, Cond.selects RX1 yX1_copyFrom yX1_copyFrom]
noncomputable def wsX3_feed_r3 : List Cond := [Cond.code yX1_copyFrom cX1_copyFrom 2 none, Cond.fieldLink RX1 9 "LabelStation$State" "settings" "[I", Cond.methodLink RX1 68 Lib.Math.min.name, Cond.static Lib.Math.min.name, Cond.initialized "java/lang/Math", Cond.code Lib.Math.min.name Lib.Math.min.code 2 (some .int), Cond.methodLink RX1 74 arraycopyName, Cond.native arraycopyName, Cond.static arraycopyName, Cond.initialized "java/lang/System", Cond.fieldLink RX1 15 "LabelStation$State" "places" "[I", Cond.fieldLink RX1 18 "LabelStation$State" "counters" "[I", Cond.fieldLink RX1 33 "LabelStation$State" "verdicts" "LLabelStation$Table;", Cond.fieldLink RX1 36 "LabelStation$State" "binArrivals" "LLabelStation$Table;", Cond.fieldLink RX1 39 "LabelStation$State" "expectations" "LLabelStation$Table;", Cond.fieldLink RX1 42 "LabelStation$State" "tick" "I", Cond.fieldLink RX1 46 "LabelStation$State" "running" "Z", Cond.fieldLink RX1 50 "LabelStation$State" "alarm" "I", Cond.fieldLink RX1 53 "LabelStation$State" "jammed" "Z", Cond.fieldLink RX1 56 "LabelStation$State" "consecutiveRejects" "I", Cond.fieldLink RX1 59 "LabelStation$State" "diverted" "I", Cond.methodLink RX1 80 yX2_copyFrom, Cond.instanceMethod yX2_copyFrom, Cond.selects RX2 yX2_copyFrom yX2_copyFrom]
noncomputable def wsX3_feed_r4 : List Cond := [Cond.code yX2_copyFrom cX2_copyFrom 2 none, Cond.methodLink RX2 31 arraycopyName, Cond.methodLink RX0 29 yX0_keepPrepared, Cond.instanceMethod yX0_keepPrepared, Cond.selects RX0 yX0_keepPrepared yX0_keepPrepared, Cond.code yX0_keepPrepared cX0_keepPrepared 1 none, Cond.methodLink RX3 117 yX1_enter, Cond.instanceMethod yX1_enter, Cond.selects RX1 yX1_enter yX1_enter, Cond.code yX1_enter cX1_enter 4 (some .int), Cond.methodLink RX1 99 yX1_counted, Cond.instanceMethod yX1_counted, Cond.selects RX1 yX1_counted yX1_counted, Cond.code yX1_counted cX1_counted 2 (some .int), Cond.methodLink RX1 102 yX1_count, Cond.instanceMethod yX1_count, Cond.selects RX1 yX1_count yX1_count, Cond.code yX1_count cX1_count 2 none, Cond.methodLink RX1 105 yX2_addRow, Cond.instanceMethod yX2_addRow, Cond.selects RX2 yX2_addRow yX2_addRow, Cond.code yX2_addRow cX2_addRow 4 (some .int), Cond.fieldLink RX2 24 "LabelStation$Table" "room" "I", Cond.methodLink RX2 37 yX2_put]
noncomputable def wsX3_feed_r5 : List Cond := [Cond.instanceMethod yX2_put, Cond.selects RX2 yX2_put yX2_put, Cond.code yX2_put cX2_put 5 none, Cond.methodLink RX1 108 yX2_put]
noncomputable def wsX3_feed : List Cond := .code yX3_feed cX3_feed 2 (some .int) :: ((wsX3_feed_r1 ++ (wsX3_feed_r2 ++ (wsX3_feed_r3 ++ (wsX3_feed_r4 ++ wsX3_feed_r5)))) ++ wsX30 ++ wsX10 ++ wsX20 ++ wsX00 ++ (vx_atS RX3 38 "java/lang/IllegalArgumentException" ["java/lang/RuntimeException", "java/lang/Exception"]).filter goodWord ++ (vx_atS RX3 58 "java/lang/IllegalStateException" ["java/lang/RuntimeException", "java/lang/Exception"]).filter goodWord)
noncomputable def wsX3_slip_r1 : List Cond := [Cond.classLink RX3 123 "java/util/NoSuchElementException", Cond.initialized "java/util/NoSuchElementException", Cond.classLink RX3 34 "java/lang/IllegalArgumentException", Cond.initialized "java/lang/IllegalArgumentException", Cond.fieldLink RX3 10 "LabelStation" "state" "LLabelStation$State;", Cond.fieldLink RX3 22 "LabelStation" "history" "LLabelStation$History;", Cond.methodLink RX3 120 yX2_find, Cond.instanceMethod yX2_find, Cond.selects RX2 yX2_find yX2_find, Cond.initialized RX2, Cond.code yX2_find cX2_find 3 (some .int), Cond.fieldLink RX2 9 "LabelStation$Table" "rows" "I", Cond.methodLink RX2 41 yX2_get, Cond.instanceMethod yX2_get, Cond.selects RX2 yX2_get yX2_get, Cond.code yX2_get cX2_get 4 (some .int), Cond.fieldLink RX2 21 "LabelStation$Table" "width" "I", Cond.fieldLink RX2 27 "LabelStation$Table" "cells" "[I", Cond.methodLink RX3 130 yX2_get, Cond.methodLink RX3 63 yX1_place, Cond.instanceMethod yX1_place, Cond.selects RX1 yX1_place yX1_place, Cond.initialized RX1, Cond.code yX1_place cX1_place 2 (some .int)]
noncomputable def wsX3_slip_r2 : List Cond := [Cond.fieldLink RX1 15 "LabelStation$State" "places" "[I", Cond.methodLink RX3 59 yX0_save, Cond.instanceMethod yX0_save, Cond.selects RX0 yX0_save yX0_save, Cond.initialized RX0, Cond.code yX0_save cX0_save 2 none, Cond.methodLink RX0 25 yX0_prepare, Cond.instanceMethod yX0_prepare, Cond.selects RX0 yX0_prepare yX0_prepare, Cond.code yX0_prepare cX0_prepare 3 none, Cond.fieldLink RX0 21 "LabelStation$History" "saved" "I", Cond.methodLink RX0 32 yX0_slotAt, Cond.instanceMethod yX0_slotAt, Cond.selects RX0 yX0_slotAt yX0_slotAt, Cond.code yX0_slotAt cX0_slotAt 3 (some (.object "LabelStation$State")), Cond.fieldLink RX0 17 "LabelStation$History" "oldest" "I", Cond.fieldLink RX0 11 "LabelStation$History" "slots" "[LLabelStation$State;", Cond.methodLink RX0 36 yX1_copyFrom, Cond.instanceMethod yX1_copyFrom, Cond.selects RX1 yX1_copyFrom yX1_copyFrom, Cond.code yX1_copyFrom cX1_copyFrom 2 none, Cond.fieldLink RX1 9 "LabelStation$State" "settings" "[I", Cond.methodLink RX1 68 Lib.Math.min.name, Cond.static Lib.Math.min.name]
noncomputable def wsX3_slip_r3 : List Cond := [Cond.initialized "java/lang/Math", Cond.code Lib.Math.min.name Lib.Math.min.code 2 (some .int), Cond.methodLink RX1 74 arraycopyName, Cond.native arraycopyName, Cond.static arraycopyName, Cond.initialized "java/lang/System", Cond.fieldLink RX1 18 "LabelStation$State" "counters" "[I", Cond.fieldLink RX1 26 "LabelStation$State" "items" "LLabelStation$Table;", Cond.fieldLink RX1 30 "LabelStation$State" "records" "LLabelStation$Table;", Cond.fieldLink RX1 33 "LabelStation$State" "verdicts" "LLabelStation$Table;", Cond.fieldLink RX1 36 "LabelStation$State" "binArrivals" "LLabelStation$Table;", Cond.fieldLink RX1 39 "LabelStation$State" "expectations" "LLabelStation$Table;", Cond.fieldLink RX1 42 "LabelStation$State" "tick" "I", Cond.fieldLink RX1 46 "LabelStation$State" "running" "Z", Cond.fieldLink RX1 50 "LabelStation$State" "alarm" "I", Cond.fieldLink RX1 53 "LabelStation$State" "jammed" "Z", Cond.fieldLink RX1 56 "LabelStation$State" "consecutiveRejects" "I", Cond.fieldLink RX1 59 "LabelStation$State" "diverted" "I", Cond.methodLink RX1 80 yX2_copyFrom, Cond.instanceMethod yX2_copyFrom, Cond.selects RX2 yX2_copyFrom yX2_copyFrom, Cond.code yX2_copyFrom cX2_copyFrom 2 none, Cond.methodLink RX2 31 arraycopyName, Cond.methodLink RX0 29 yX0_keepPrepared]
noncomputable def wsX3_slip_r4 : List Cond := [Cond.instanceMethod yX0_keepPrepared, Cond.selects RX0 yX0_keepPrepared yX0_keepPrepared, Cond.code yX0_keepPrepared cX0_keepPrepared 1 none, Cond.methodLink RX3 136 yX2_put, Cond.instanceMethod yX2_put, Cond.selects RX2 yX2_put yX2_put, Cond.code yX2_put cX2_put 5 none]
noncomputable def wsX3_slip : List Cond := .code yX3_slip cX3_slip 5 (some .int) :: ((wsX3_slip_r1 ++ (wsX3_slip_r2 ++ (wsX3_slip_r3 ++ wsX3_slip_r4))) ++ wsX30 ++ wsX10 ++ wsX20 ++ wsX00 ++ (vx_atS RX3 127 "java/util/NoSuchElementException" ["java/lang/RuntimeException", "java/lang/Exception"]).filter goodWord ++ (vx_atS RX3 38 "java/lang/IllegalArgumentException" ["java/lang/RuntimeException", "java/lang/Exception"]).filter goodWord)
noncomputable def wsX3_take_r1 : List Cond := [Cond.classLink RX3 123 "java/util/NoSuchElementException", Cond.initialized "java/util/NoSuchElementException", Cond.fieldLink RX3 10 "LabelStation" "state" "LLabelStation$State;", Cond.fieldLink RX3 22 "LabelStation" "history" "LLabelStation$History;", Cond.methodLink RX3 120 yX2_find, Cond.instanceMethod yX2_find, Cond.selects RX2 yX2_find yX2_find, Cond.initialized RX2, Cond.code yX2_find cX2_find 3 (some .int), Cond.fieldLink RX2 9 "LabelStation$Table" "rows" "I", Cond.methodLink RX2 41 yX2_get, Cond.instanceMethod yX2_get, Cond.selects RX2 yX2_get yX2_get, Cond.code yX2_get cX2_get 4 (some .int), Cond.fieldLink RX2 21 "LabelStation$Table" "width" "I", Cond.fieldLink RX2 27 "LabelStation$Table" "cells" "[I", Cond.methodLink RX3 59 yX0_save, Cond.instanceMethod yX0_save, Cond.selects RX0 yX0_save yX0_save, Cond.initialized RX0, Cond.code yX0_save cX0_save 2 none, Cond.methodLink RX0 25 yX0_prepare, Cond.instanceMethod yX0_prepare, Cond.selects RX0 yX0_prepare yX0_prepare]
noncomputable def wsX3_take_r2 : List Cond := [Cond.code yX0_prepare cX0_prepare 3 none, Cond.fieldLink RX0 21 "LabelStation$History" "saved" "I", Cond.methodLink RX0 32 yX0_slotAt, Cond.instanceMethod yX0_slotAt, Cond.selects RX0 yX0_slotAt yX0_slotAt, Cond.code yX0_slotAt cX0_slotAt 3 (some (.object "LabelStation$State")), Cond.fieldLink RX0 17 "LabelStation$History" "oldest" "I", Cond.fieldLink RX0 11 "LabelStation$History" "slots" "[LLabelStation$State;", Cond.methodLink RX0 36 yX1_copyFrom, Cond.instanceMethod yX1_copyFrom, Cond.selects RX1 yX1_copyFrom yX1_copyFrom, Cond.initialized RX1, Cond.code yX1_copyFrom cX1_copyFrom 2 none, Cond.fieldLink RX1 9 "LabelStation$State" "settings" "[I", Cond.methodLink RX1 68 Lib.Math.min.name, Cond.static Lib.Math.min.name, Cond.initialized "java/lang/Math", Cond.code Lib.Math.min.name Lib.Math.min.code 2 (some .int), Cond.methodLink RX1 74 arraycopyName, Cond.native arraycopyName, Cond.static arraycopyName, Cond.initialized "java/lang/System", Cond.fieldLink RX1 15 "LabelStation$State" "places" "[I", Cond.fieldLink RX1 18 "LabelStation$State" "counters" "[I"]
noncomputable def wsX3_take_r3 : List Cond := [Cond.fieldLink RX1 26 "LabelStation$State" "items" "LLabelStation$Table;", Cond.fieldLink RX1 30 "LabelStation$State" "records" "LLabelStation$Table;", Cond.fieldLink RX1 33 "LabelStation$State" "verdicts" "LLabelStation$Table;", Cond.fieldLink RX1 36 "LabelStation$State" "binArrivals" "LLabelStation$Table;", Cond.fieldLink RX1 39 "LabelStation$State" "expectations" "LLabelStation$Table;", Cond.fieldLink RX1 42 "LabelStation$State" "tick" "I", Cond.fieldLink RX1 46 "LabelStation$State" "running" "Z", Cond.fieldLink RX1 50 "LabelStation$State" "alarm" "I", Cond.fieldLink RX1 53 "LabelStation$State" "jammed" "Z", Cond.fieldLink RX1 56 "LabelStation$State" "consecutiveRejects" "I", Cond.fieldLink RX1 59 "LabelStation$State" "diverted" "I", Cond.methodLink RX1 80 yX2_copyFrom, Cond.instanceMethod yX2_copyFrom, Cond.selects RX2 yX2_copyFrom yX2_copyFrom, Cond.code yX2_copyFrom cX2_copyFrom 2 none, Cond.methodLink RX2 31 arraycopyName, Cond.methodLink RX0 29 yX0_keepPrepared, Cond.instanceMethod yX0_keepPrepared, Cond.selects RX0 yX0_keepPrepared yX0_keepPrepared, Cond.code yX0_keepPrepared cX0_keepPrepared 1 none, Cond.methodLink RX3 130 yX2_get, Cond.methodLink RX3 140 yX2_removeRow, Cond.instanceMethod yX2_removeRow, Cond.selects RX2 yX2_removeRow yX2_removeRow]
noncomputable def wsX3_take_r4 : List Cond := [Cond.code yX2_removeRow cX2_removeRow 3 none, Cond.methodLink RX3 144 yX1_count, Cond.instanceMethod yX1_count, Cond.selects RX1 yX1_count yX1_count, Cond.code yX1_count cX1_count 2 none]
noncomputable def wsX3_take : List Cond := .code yX3_take cX3_take 4 (some .int) :: ((wsX3_take_r1 ++ (wsX3_take_r2 ++ (wsX3_take_r3 ++ wsX3_take_r4))) ++ wsX30 ++ wsX10 ++ wsX20 ++ wsX00 ++ (vx_atS RX3 127 "java/util/NoSuchElementException" ["java/lang/RuntimeException", "java/lang/Exception"]).filter goodWord)
noncomputable def wsX3_run_r1 : List Cond := [Cond.classLink RX3 34 "java/lang/IllegalArgumentException", Cond.initialized "java/lang/IllegalArgumentException", Cond.fieldLink RX3 22 "LabelStation" "history" "LLabelStation$History;", Cond.fieldLink RX3 10 "LabelStation" "state" "LLabelStation$State;", Cond.methodLink RX3 59 yX0_save, Cond.instanceMethod yX0_save, Cond.selects RX0 yX0_save yX0_save, Cond.initialized RX0, Cond.code yX0_save cX0_save 2 none, Cond.methodLink RX0 25 yX0_prepare, Cond.instanceMethod yX0_prepare, Cond.selects RX0 yX0_prepare yX0_prepare, Cond.code yX0_prepare cX0_prepare 3 none, Cond.fieldLink RX0 21 "LabelStation$History" "saved" "I", Cond.methodLink RX0 32 yX0_slotAt, Cond.instanceMethod yX0_slotAt, Cond.selects RX0 yX0_slotAt yX0_slotAt, Cond.code yX0_slotAt cX0_slotAt 3 (some (.object "LabelStation$State")), Cond.fieldLink RX0 17 "LabelStation$History" "oldest" "I", Cond.fieldLink RX0 11 "LabelStation$History" "slots" "[LLabelStation$State;", Cond.methodLink RX0 36 yX1_copyFrom, Cond.instanceMethod yX1_copyFrom, Cond.selects RX1 yX1_copyFrom yX1_copyFrom, Cond.initialized RX1]
noncomputable def wsX3_run_r2 : List Cond := [Cond.code yX1_copyFrom cX1_copyFrom 2 none, Cond.fieldLink RX1 9 "LabelStation$State" "settings" "[I", Cond.methodLink RX1 68 Lib.Math.min.name, Cond.static Lib.Math.min.name, Cond.initialized "java/lang/Math", Cond.code Lib.Math.min.name Lib.Math.min.code 2 (some .int), Cond.methodLink RX1 74 arraycopyName, Cond.native arraycopyName, Cond.static arraycopyName, Cond.initialized "java/lang/System", Cond.fieldLink RX1 15 "LabelStation$State" "places" "[I", Cond.fieldLink RX1 18 "LabelStation$State" "counters" "[I", Cond.fieldLink RX1 26 "LabelStation$State" "items" "LLabelStation$Table;", Cond.fieldLink RX1 30 "LabelStation$State" "records" "LLabelStation$Table;", Cond.fieldLink RX1 33 "LabelStation$State" "verdicts" "LLabelStation$Table;", Cond.fieldLink RX1 36 "LabelStation$State" "binArrivals" "LLabelStation$Table;", Cond.fieldLink RX1 39 "LabelStation$State" "expectations" "LLabelStation$Table;", Cond.fieldLink RX1 42 "LabelStation$State" "tick" "I", Cond.fieldLink RX1 46 "LabelStation$State" "running" "Z", Cond.fieldLink RX1 50 "LabelStation$State" "alarm" "I", Cond.fieldLink RX1 53 "LabelStation$State" "jammed" "Z", Cond.fieldLink RX1 56 "LabelStation$State" "consecutiveRejects" "I", Cond.fieldLink RX1 59 "LabelStation$State" "diverted" "I", Cond.methodLink RX1 80 yX2_copyFrom]
noncomputable def wsX3_run_r3 : List Cond := [Cond.instanceMethod yX2_copyFrom, Cond.selects RX2 yX2_copyFrom yX2_copyFrom, Cond.initialized RX2, Cond.code yX2_copyFrom cX2_copyFrom 2 none, Cond.fieldLink RX2 27 "LabelStation$Table" "cells" "[I", Cond.methodLink RX2 31 arraycopyName, Cond.fieldLink RX2 9 "LabelStation$Table" "rows" "I", Cond.methodLink RX0 29 yX0_keepPrepared, Cond.instanceMethod yX0_keepPrepared, Cond.selects RX0 yX0_keepPrepared yX0_keepPrepared, Cond.code yX0_keepPrepared cX0_keepPrepared 1 none, Cond.methodLink RX3 148 yX1_passTick, Cond.instanceMethod yX1_passTick, Cond.selects RX1 yX1_passTick yX1_passTick, Cond.code yX1_passTick cX1_passTick 3 none, Cond.methodLink RX1 112 yX1_deliverVerdicts, Cond.instanceMethod yX1_deliverVerdicts, Cond.selects RX1 yX1_deliverVerdicts yX1_deliverVerdicts, Cond.code yX1_deliverVerdicts cX1_deliverVerdicts 2 none, Cond.methodLink RX1 91 yX2_count, Cond.instanceMethod yX2_count, Cond.selects RX2 yX2_count yX2_count, Cond.code yX2_count cX2_count 1 (some .int), Cond.methodLink RX1 124 yX2_get]
noncomputable def wsX3_run_r4 : List Cond := [Cond.instanceMethod yX2_get, Cond.selects RX2 yX2_get yX2_get, Cond.code yX2_get cX2_get 4 (some .int), Cond.fieldLink RX2 21 "LabelStation$Table" "width" "I", Cond.methodLink RX1 127 yX1_deliver, Cond.instanceMethod yX1_deliver, Cond.selects RX1 yX1_deliver yX1_deliver, Cond.code yX1_deliver cX1_deliver 5 none, Cond.methodLink RX1 133 yX2_find, Cond.instanceMethod yX2_find, Cond.selects RX2 yX2_find yX2_find, Cond.code yX2_find cX2_find 3 (some .int), Cond.methodLink RX2 41 yX2_get, Cond.methodLink RX1 102 yX1_count, Cond.instanceMethod yX1_count, Cond.selects RX1 yX1_count yX1_count, Cond.code yX1_count cX1_count 2 none, Cond.methodLink RX1 108 yX2_put, Cond.instanceMethod yX2_put, Cond.selects RX2 yX2_put yX2_put, Cond.code yX2_put cX2_put 5 none, Cond.methodLink RX1 130 yX2_removeRowsOf, Cond.instanceMethod yX2_removeRowsOf, Cond.selects RX2 yX2_removeRowsOf yX2_removeRowsOf]
noncomputable def wsX3_run_r5 : List Cond := [Cond.code yX2_removeRowsOf cX2_removeRowsOf 3 none, Cond.methodLink RX2 44 yX2_removeRow, Cond.instanceMethod yX2_removeRow, Cond.selects RX2 yX2_removeRow yX2_removeRow, Cond.code yX2_removeRow cX2_removeRow 3 none, Cond.methodLink RX1 115 yX1_fillBin, Cond.instanceMethod yX1_fillBin, Cond.selects RX1 yX1_fillBin yX1_fillBin, Cond.code yX1_fillBin cX1_fillBin 2 none, Cond.methodLink RX1 136 yX1_confirmOldest, Cond.instanceMethod yX1_confirmOldest, Cond.selects RX1 yX1_confirmOldest yX1_confirmOldest, Cond.code yX1_confirmOldest cX1_confirmOldest 1 none, Cond.methodLink RX1 139 yX1_raise, Cond.instanceMethod yX1_raise, Cond.selects RX1 yX1_raise yX1_raise, Cond.code yX1_raise cX1_raise 2 none, Cond.methodLink RX1 142 yX2_removeRow, Cond.methodLink RX1 118 yX1_closeOverdueExpectations, Cond.instanceMethod yX1_closeOverdueExpectations, Cond.selects RX1 yX1_closeOverdueExpectations yX1_closeOverdueExpectations, Cond.code yX1_closeOverdueExpectations cX1_closeOverdueExpectations 2 none, Cond.methodLink RX1 84 yX1_setting, Cond.instanceMethod yX1_setting]
noncomputable def wsX3_run_r6 : List Cond := [Cond.selects RX1 yX1_setting yX1_setting, Cond.code yX1_setting cX1_setting 2 (some .int), Cond.methodLink RX1 121 yX1_pulse, Cond.instanceMethod yX1_pulse, Cond.selects RX1 yX1_pulse yX1_pulse, Cond.code yX1_pulse cX1_pulse 4 none, Cond.methodLink RX1 145 yX2_increase, Cond.instanceMethod yX2_increase, Cond.selects RX2 yX2_increase yX2_increase, Cond.code yX2_increase cX2_increase 3 none, Cond.methodLink RX2 37 yX2_put, Cond.methodLink RX1 148 yX1_staysInRegister, Cond.instanceMethod yX1_staysInRegister, Cond.selects RX1 yX1_staysInRegister yX1_staysInRegister, Cond.code yX1_staysInRegister cX1_staysInRegister 3 (some .boolean), Cond.methodLink RX1 88 yX1_place, Cond.instanceMethod yX1_place, Cond.selects RX1 yX1_place yX1_place, Cond.code yX1_place cX1_place 2 (some .int), Cond.methodLink RX1 155 yX1_labelerActs, Cond.instanceMethod yX1_labelerActs, Cond.selects RX1 yX1_labelerActs yX1_labelerActs, Cond.code yX1_labelerActs cX1_labelerActs 3 none, Cond.methodLink RX1 174 yX1_putSetting]
noncomputable def wsX3_run_r7 : List Cond := [Cond.instanceMethod yX1_putSetting, Cond.selects RX1 yX1_putSetting yX1_putSetting, Cond.code yX1_putSetting cX1_putSetting 3 none, Cond.methodLink RX1 177 yX1_itemAt, Cond.instanceMethod yX1_itemAt, Cond.selects RX1 yX1_itemAt yX1_itemAt, Cond.code yX1_itemAt cX1_itemAt 7 (some .int), Cond.methodLink RX1 190 Lib.Math.abs.name, Cond.static Lib.Math.abs.name, Cond.code Lib.Math.abs.name Lib.Math.abs.code 1 (some .int), Cond.methodLink RX1 158 yX1_cameraActs, Cond.instanceMethod yX1_cameraActs, Cond.selects RX1 yX1_cameraActs yX1_cameraActs, Cond.code yX1_cameraActs cX1_cameraActs 4 none, Cond.methodLink RX1 105 yX2_addRow, Cond.instanceMethod yX2_addRow, Cond.selects RX2 yX2_addRow yX2_addRow, Cond.code yX2_addRow cX2_addRow 4 (some .int), Cond.fieldLink RX2 24 "LabelStation$Table" "room" "I", Cond.methodLink RX1 180 yX1_seen, Cond.instanceMethod yX1_seen, Cond.selects RX1 yX1_seen yX1_seen, Cond.code yX1_seen cX1_seen 3 (some .int), Cond.methodLink RX1 162 yX1_mayPass]
noncomputable def wsX3_run_r8 : List Cond := [Cond.instanceMethod yX1_mayPass, Cond.selects RX1 yX1_mayPass yX1_mayPass, Cond.code yX1_mayPass cX1_mayPass 2 (some .boolean), Cond.methodLink RX1 165 yX1_reject, Cond.instanceMethod yX1_reject, Cond.selects RX1 yX1_reject yX1_reject, Cond.code yX1_reject cX1_reject 3 none, Cond.methodLink RX1 184 yX1_causeOf, Cond.instanceMethod yX1_causeOf, Cond.selects RX1 yX1_causeOf yX1_causeOf, Cond.code yX1_causeOf cX1_causeOf 2 (some .int), Cond.methodLink RX1 171 yX1_leaveRegister, Cond.instanceMethod yX1_leaveRegister, Cond.selects RX1 yX1_leaveRegister yX1_leaveRegister, Cond.code yX1_leaveRegister cX1_leaveRegister 3 none, Cond.fieldLink RX1 62 "LabelStation$State" "watched" "I", Cond.fieldLink RX1 65 "LabelStation$State" "outcome" "I", Cond.methodLink RX1 168 yX1_pass, Cond.instanceMethod yX1_pass, Cond.selects RX1 yX1_pass yX1_pass, Cond.code yX1_pass cX1_pass 2 none, Cond.methodLink RX1 152 yX1_leaveBelt, Cond.instanceMethod yX1_leaveBelt, Cond.selects RX1 yX1_leaveBelt yX1_leaveBelt]
noncomputable def wsX3_run_r9 : List Cond := [Cond.code yX1_leaveBelt cX1_leaveBelt 3 none, Cond.methodLink RX1 187 yX1_recordForExit, Cond.instanceMethod yX1_recordForExit, Cond.selects RX1 yX1_recordForExit yX1_recordForExit, Cond.code yX1_recordForExit cX1_recordForExit 7 (some .int)]
noncomputable def wsX3_run : List Cond := .code yX3_run cX3_run 3 (some .int) :: ((wsX3_run_r1 ++ (wsX3_run_r2 ++ (wsX3_run_r3 ++ (wsX3_run_r4 ++ (wsX3_run_r5 ++ (wsX3_run_r6 ++ (wsX3_run_r7 ++ (wsX3_run_r8 ++ wsX3_run_r9)))))))) ++ wsX30 ++ wsX10 ++ wsX00 ++ wsX20 ++ (vx_atS RX3 38 "java/lang/IllegalArgumentException" ["java/lang/RuntimeException", "java/lang/Exception"]).filter goodWord)
noncomputable def wsX3_status : List Cond := .code yX3_status cX3_status 2 (some .int) :: ([.classLink RX3 34 "java/lang/IllegalArgumentException", .initialized "java/lang/IllegalArgumentException", .fieldLink RX3 10 "LabelStation" "state" "LLabelStation$State;", .methodLink RX3 156 yX1_statusOf, .instanceMethod yX1_statusOf, .selects RX1 yX1_statusOf yX1_statusOf, .initialized RX1, .code yX1_statusOf cX1_statusOf 2 (some .int), .fieldLink RX1 42 "LabelStation$State" "tick" "I", .fieldLink RX1 46 "LabelStation$State" "running" "Z", .fieldLink RX1 50 "LabelStation$State" "alarm" "I", .fieldLink RX1 26 "LabelStation$State" "items" "LLabelStation$Table;", .fieldLink RX1 30 "LabelStation$State" "records" "LLabelStation$Table;", .fieldLink RX1 33 "LabelStation$State" "verdicts" "LLabelStation$Table;", .fieldLink RX1 39 "LabelStation$State" "expectations" "LLabelStation$Table;", .fieldLink RX1 36 "LabelStation$State" "binArrivals" "LLabelStation$Table;", .methodLink RX1 91 yX2_count, .instanceMethod yX2_count, .selects RX2 yX2_count yX2_count, .initialized RX2, .code yX2_count cX2_count 1 (some .int), .fieldLink RX2 9 "LabelStation$Table" "rows" "I"] ++ wsX30 ++ wsX10 ++ wsX20 ++ (vx_atS RX3 38 "java/lang/IllegalArgumentException" ["java/lang/RuntimeException", "java/lang/Exception"]).filter goodWord)
noncomputable def wsX3_item : List Cond := .code yX3_item cX3_item 4 (some .int) :: ([.classLink RX3 123 "java/util/NoSuchElementException", .initialized "java/util/NoSuchElementException", .classLink RX3 34 "java/lang/IllegalArgumentException", .initialized "java/lang/IllegalArgumentException", .fieldLink RX3 10 "LabelStation" "state" "LLabelStation$State;", .methodLink RX3 120 yX2_find, .instanceMethod yX2_find, .selects RX2 yX2_find yX2_find, .initialized RX2, .code yX2_find cX2_find 3 (some .int), .fieldLink RX2 9 "LabelStation$Table" "rows" "I", .methodLink RX2 41 yX2_get, .instanceMethod yX2_get, .selects RX2 yX2_get yX2_get, .code yX2_get cX2_get 4 (some .int), .fieldLink RX2 21 "LabelStation$Table" "width" "I", .fieldLink RX2 27 "LabelStation$Table" "cells" "[I", .methodLink RX3 130 yX2_get] ++ wsX30 ++ wsX10 ++ wsX20 ++ (vx_atS RX3 127 "java/util/NoSuchElementException" ["java/lang/RuntimeException", "java/lang/Exception"]).filter goodWord ++ (vx_atS RX3 38 "java/lang/IllegalArgumentException" ["java/lang/RuntimeException", "java/lang/Exception"]).filter goodWord)
noncomputable def wsX3_record : List Cond := .code yX3_record cX3_record 4 (some .int) :: ([.classLink RX3 123 "java/util/NoSuchElementException", .initialized "java/util/NoSuchElementException", .classLink RX3 34 "java/lang/IllegalArgumentException", .initialized "java/lang/IllegalArgumentException", .fieldLink RX3 10 "LabelStation" "state" "LLabelStation$State;", .methodLink RX3 120 yX2_find, .instanceMethod yX2_find, .selects RX2 yX2_find yX2_find, .initialized RX2, .code yX2_find cX2_find 3 (some .int), .fieldLink RX2 9 "LabelStation$Table" "rows" "I", .methodLink RX2 41 yX2_get, .instanceMethod yX2_get, .selects RX2 yX2_get yX2_get, .code yX2_get cX2_get 4 (some .int), .fieldLink RX2 21 "LabelStation$Table" "width" "I", .fieldLink RX2 27 "LabelStation$Table" "cells" "[I", .methodLink RX3 130 yX2_get] ++ wsX30 ++ wsX10 ++ wsX20 ++ (vx_atS RX3 127 "java/util/NoSuchElementException" ["java/lang/RuntimeException", "java/lang/Exception"]).filter goodWord ++ (vx_atS RX3 38 "java/lang/IllegalArgumentException" ["java/lang/RuntimeException", "java/lang/Exception"]).filter goodWord)
noncomputable def wsX3_numberAt : List Cond := .code yX3_numberAt cX3_numberAt 4 (some .int) :: ([.classLink RX3 163 "java/lang/IndexOutOfBoundsException", .initialized "java/lang/IndexOutOfBoundsException", .fieldLink RX3 10 "LabelStation" "state" "LLabelStation$State;", .methodLink RX3 45 yX2_count, .instanceMethod yX2_count, .selects RX2 yX2_count yX2_count, .initialized RX2, .code yX2_count cX2_count 1 (some .int), .fieldLink RX2 9 "LabelStation$Table" "rows" "I", .methodLink RX3 130 yX2_get, .instanceMethod yX2_get, .selects RX2 yX2_get yX2_get, .code yX2_get cX2_get 4 (some .int), .fieldLink RX2 21 "LabelStation$Table" "width" "I", .fieldLink RX2 27 "LabelStation$Table" "cells" "[I"] ++ wsX30 ++ wsX10 ++ wsX20 ++ (vx_atS RX3 167 "java/lang/IndexOutOfBoundsException" ["java/lang/RuntimeException", "java/lang/Exception"]).filter goodWord)
noncomputable def wsX3_counter : List Cond := .code yX3_counter cX3_counter 2 (some .int) :: ([.classLink RX3 34 "java/lang/IllegalArgumentException", .initialized "java/lang/IllegalArgumentException", .fieldLink RX3 10 "LabelStation" "state" "LLabelStation$State;", .methodLink RX3 170 yX1_counted, .instanceMethod yX1_counted, .selects RX1 yX1_counted yX1_counted, .initialized RX1, .code yX1_counted cX1_counted 2 (some .int), .fieldLink RX1 18 "LabelStation$State" "counters" "[I"] ++ wsX30 ++ wsX10 ++ (vx_atS RX3 38 "java/lang/IllegalArgumentException" ["java/lang/RuntimeException", "java/lang/Exception"]).filter goodWord)
noncomputable def wsX3_recordsThatLeft : List Cond := .code yX3_recordsThatLeft cX3_recordsThatLeft 1 (some .int) :: ([.fieldLink RX3 10 "LabelStation" "state" "LLabelStation$State;", .methodLink RX3 170 yX1_counted, .instanceMethod yX1_counted, .selects RX1 yX1_counted yX1_counted, .initialized RX1, .code yX1_counted cX1_counted 2 (some .int), .fieldLink RX1 18 "LabelStation$State" "counters" "[I"] ++ wsX30 ++ wsX10)
noncomputable def wsX3_reconcile : List Cond := .code yX3_reconcile cX3_reconcile 3 (some .int) :: ([.fieldLink RX3 10 "LabelStation" "state" "LLabelStation$State;", .methodLink RX3 170 yX1_counted, .instanceMethod yX1_counted, .selects RX1 yX1_counted yX1_counted, .initialized RX1, .code yX1_counted cX1_counted 2 (some .int), .fieldLink RX1 18 "LabelStation$State" "counters" "[I", .methodLink RX3 45 yX2_count, .instanceMethod yX2_count, .selects RX2 yX2_count yX2_count, .initialized RX2, .code yX2_count cX2_count 1 (some .int), .fieldLink RX2 9 "LabelStation$Table" "rows" "I", .methodLink RX3 176 yX3_recordsThatLeft, .instanceMethod yX3_recordsThatLeft, .selects RX3 yX3_recordsThatLeft yX3_recordsThatLeft, .initialized RX3, .code yX3_recordsThatLeft cX3_recordsThatLeft 1 (some .int)] ++ wsX30 ++ wsX10 ++ wsX20)
noncomputable def wsX3_goodShare : List Cond := .code yX3_goodShare cX3_goodShare 2 (some .double) :: ([.fieldLink RX3 10 "LabelStation" "state" "LLabelStation$State;", .methodLink RX3 176 yX3_recordsThatLeft, .instanceMethod yX3_recordsThatLeft, .selects RX3 yX3_recordsThatLeft yX3_recordsThatLeft, .initialized RX3, .code yX3_recordsThatLeft cX3_recordsThatLeft 1 (some .int), .methodLink RX3 170 yX1_counted, .instanceMethod yX1_counted, .selects RX1 yX1_counted yX1_counted, .initialized RX1, .code yX1_counted cX1_counted 2 (some .int), .fieldLink RX1 18 "LabelStation$State" "counters" "[I"] ++ wsX30 ++ wsX10)
noncomputable def wsX3_sparePulses : List Cond := .code yX3_sparePulses cX3_sparePulses 3 (some .int) :: ([.fieldLink RX3 10 "LabelStation" "state" "LLabelStation$State;", .methodLink RX3 82 yX1_setting, .instanceMethod yX1_setting, .selects RX1 yX1_setting yX1_setting, .initialized RX1, .code yX1_setting cX1_setting 2 (some .int), .fieldLink RX1 9 "LabelStation$State" "settings" "[I", .methodLink RX3 63 yX1_place, .instanceMethod yX1_place, .selects RX1 yX1_place yX1_place, .code yX1_place cX1_place 2 (some .int), .fieldLink RX1 15 "LabelStation$State" "places" "[I"] ++ wsX30 ++ wsX10)
noncomputable def wsX3_spare : List Cond := .code yX3_spare cX3_spare 2 (some .int) :: ([.classLink RX3 34 "java/lang/IllegalArgumentException", .initialized "java/lang/IllegalArgumentException", .fieldLink RX3 71 "LabelStation" "LEAST_SETTING" "[I", .fieldLink RX3 75 "LabelStation" "MOST_SETTING" "[I", .methodLink RX3 181 yX3_sparePulses, .instanceMethod yX3_sparePulses, .selects RX3 yX3_sparePulses yX3_sparePulses, .initialized RX3, .code yX3_sparePulses cX3_sparePulses 3 (some .int), .fieldLink RX3 10 "LabelStation" "state" "LLabelStation$State;", .methodLink RX3 82 yX1_setting, .instanceMethod yX1_setting, .selects RX1 yX1_setting yX1_setting, .initialized RX1, .code yX1_setting cX1_setting 2 (some .int), .fieldLink RX1 9 "LabelStation$State" "settings" "[I", .methodLink RX3 63 yX1_place, .instanceMethod yX1_place, .selects RX1 yX1_place yX1_place, .code yX1_place cX1_place 2 (some .int), .fieldLink RX1 15 "LabelStation$State" "places" "[I"] ++ wsX30 ++ wsX10 ++ (vx_atS RX3 38 "java/lang/IllegalArgumentException" ["java/lang/RuntimeException", "java/lang/Exception"]).filter goodWord)
noncomputable def wsX3_fastest : List Cond := .code yX3_fastest cX3_fastest 2 (some .int) :: ([.fieldLink RX3 75 "LabelStation" "MOST_SETTING" "[I", .fieldLink RX3 71 "LabelStation" "LEAST_SETTING" "[I", .methodLink RX3 181 yX3_sparePulses, .instanceMethod yX3_sparePulses, .selects RX3 yX3_sparePulses yX3_sparePulses, .initialized RX3, .code yX3_sparePulses cX3_sparePulses 3 (some .int), .fieldLink RX3 10 "LabelStation" "state" "LLabelStation$State;", .methodLink RX3 82 yX1_setting, .instanceMethod yX1_setting, .selects RX1 yX1_setting yX1_setting, .initialized RX1, .code yX1_setting cX1_setting 2 (some .int), .fieldLink RX1 9 "LabelStation$State" "settings" "[I", .methodLink RX3 63 yX1_place, .instanceMethod yX1_place, .selects RX1 yX1_place yX1_place, .code yX1_place cX1_place 2 (some .int), .fieldLink RX1 15 "LabelStation$State" "places" "[I"] ++ wsX30 ++ wsX10)
noncomputable def wsX3_fate_r1 : List Cond := [Cond.classLink RX3 123 "java/util/NoSuchElementException", Cond.initialized "java/util/NoSuchElementException", Cond.fieldLink RX3 10 "LabelStation" "state" "LLabelStation$State;", Cond.fieldLink RX3 16 "LabelStation" "trial" "LLabelStation$State;", Cond.methodLink RX3 120 yX2_find, Cond.instanceMethod yX2_find, Cond.selects RX2 yX2_find yX2_find, Cond.initialized RX2, Cond.code yX2_find cX2_find 3 (some .int), Cond.fieldLink RX2 9 "LabelStation$Table" "rows" "I", Cond.methodLink RX2 41 yX2_get, Cond.instanceMethod yX2_get, Cond.selects RX2 yX2_get yX2_get, Cond.code yX2_get cX2_get 4 (some .int), Cond.fieldLink RX2 21 "LabelStation$Table" "width" "I", Cond.fieldLink RX2 27 "LabelStation$Table" "cells" "[I", Cond.methodLink RX3 184 yX1_copyFrom, Cond.instanceMethod yX1_copyFrom, Cond.selects RX1 yX1_copyFrom yX1_copyFrom, Cond.initialized RX1, Cond.code yX1_copyFrom cX1_copyFrom 2 none, Cond.fieldLink RX1 9 "LabelStation$State" "settings" "[I", Cond.methodLink RX1 68 Lib.Math.min.name, Cond.static Lib.Math.min.name]
noncomputable def wsX3_fate_r2 : List Cond := [Cond.initialized "java/lang/Math", Cond.code Lib.Math.min.name Lib.Math.min.code 2 (some .int), Cond.methodLink RX1 74 arraycopyName, Cond.native arraycopyName, Cond.static arraycopyName, Cond.initialized "java/lang/System", Cond.fieldLink RX1 15 "LabelStation$State" "places" "[I", Cond.fieldLink RX1 18 "LabelStation$State" "counters" "[I", Cond.fieldLink RX1 26 "LabelStation$State" "items" "LLabelStation$Table;", Cond.fieldLink RX1 30 "LabelStation$State" "records" "LLabelStation$Table;", Cond.fieldLink RX1 33 "LabelStation$State" "verdicts" "LLabelStation$Table;", Cond.fieldLink RX1 36 "LabelStation$State" "binArrivals" "LLabelStation$Table;", Cond.fieldLink RX1 39 "LabelStation$State" "expectations" "LLabelStation$Table;", Cond.fieldLink RX1 42 "LabelStation$State" "tick" "I", Cond.fieldLink RX1 46 "LabelStation$State" "running" "Z", Cond.fieldLink RX1 50 "LabelStation$State" "alarm" "I", Cond.fieldLink RX1 53 "LabelStation$State" "jammed" "Z", Cond.fieldLink RX1 56 "LabelStation$State" "consecutiveRejects" "I", Cond.fieldLink RX1 59 "LabelStation$State" "diverted" "I", Cond.methodLink RX1 80 yX2_copyFrom, Cond.instanceMethod yX2_copyFrom, Cond.selects RX2 yX2_copyFrom yX2_copyFrom, Cond.code yX2_copyFrom cX2_copyFrom 2 none, Cond.methodLink RX2 31 arraycopyName]
noncomputable def wsX3_fate_r3 : List Cond := [Cond.methodLink RX3 187 yX1_watch, Cond.instanceMethod yX1_watch, Cond.selects RX1 yX1_watch yX1_watch, Cond.code yX1_watch cX1_watch 2 none, Cond.fieldLink RX1 62 "LabelStation$State" "watched" "I", Cond.fieldLink RX1 65 "LabelStation$State" "outcome" "I", Cond.methodLink RX3 148 yX1_passTick, Cond.instanceMethod yX1_passTick, Cond.selects RX1 yX1_passTick yX1_passTick, Cond.code yX1_passTick cX1_passTick 3 none, Cond.methodLink RX1 112 yX1_deliverVerdicts, Cond.instanceMethod yX1_deliverVerdicts, Cond.selects RX1 yX1_deliverVerdicts yX1_deliverVerdicts, Cond.code yX1_deliverVerdicts cX1_deliverVerdicts 2 none, Cond.methodLink RX1 91 yX2_count, Cond.instanceMethod yX2_count, Cond.selects RX2 yX2_count yX2_count, Cond.code yX2_count cX2_count 1 (some .int), Cond.methodLink RX1 124 yX2_get, Cond.methodLink RX1 127 yX1_deliver, Cond.instanceMethod yX1_deliver, Cond.selects RX1 yX1_deliver yX1_deliver, Cond.code yX1_deliver cX1_deliver 5 none, Cond.methodLink RX1 133 yX2_find]
noncomputable def wsX3_fate_r4 : List Cond := [Cond.methodLink RX1 102 yX1_count, Cond.instanceMethod yX1_count, Cond.selects RX1 yX1_count yX1_count, Cond.code yX1_count cX1_count 2 none, Cond.methodLink RX1 108 yX2_put, Cond.instanceMethod yX2_put, Cond.selects RX2 yX2_put yX2_put, Cond.code yX2_put cX2_put 5 none, Cond.methodLink RX1 130 yX2_removeRowsOf, Cond.instanceMethod yX2_removeRowsOf, Cond.selects RX2 yX2_removeRowsOf yX2_removeRowsOf, Cond.code yX2_removeRowsOf cX2_removeRowsOf 3 none, Cond.methodLink RX2 44 yX2_removeRow, Cond.instanceMethod yX2_removeRow, Cond.selects RX2 yX2_removeRow yX2_removeRow, Cond.code yX2_removeRow cX2_removeRow 3 none, Cond.methodLink RX1 115 yX1_fillBin, Cond.instanceMethod yX1_fillBin, Cond.selects RX1 yX1_fillBin yX1_fillBin, Cond.code yX1_fillBin cX1_fillBin 2 none, Cond.methodLink RX1 136 yX1_confirmOldest, Cond.instanceMethod yX1_confirmOldest, Cond.selects RX1 yX1_confirmOldest yX1_confirmOldest, Cond.code yX1_confirmOldest cX1_confirmOldest 1 none]
noncomputable def wsX3_fate_r5 : List Cond := [Cond.methodLink RX1 139 yX1_raise, Cond.instanceMethod yX1_raise, Cond.selects RX1 yX1_raise yX1_raise, Cond.code yX1_raise cX1_raise 2 none, Cond.methodLink RX1 142 yX2_removeRow, Cond.methodLink RX1 118 yX1_closeOverdueExpectations, Cond.instanceMethod yX1_closeOverdueExpectations, Cond.selects RX1 yX1_closeOverdueExpectations yX1_closeOverdueExpectations, Cond.code yX1_closeOverdueExpectations cX1_closeOverdueExpectations 2 none, Cond.methodLink RX1 84 yX1_setting, Cond.instanceMethod yX1_setting, Cond.selects RX1 yX1_setting yX1_setting, Cond.code yX1_setting cX1_setting 2 (some .int), Cond.methodLink RX1 121 yX1_pulse, Cond.instanceMethod yX1_pulse, Cond.selects RX1 yX1_pulse yX1_pulse, Cond.code yX1_pulse cX1_pulse 4 none, Cond.methodLink RX1 145 yX2_increase, Cond.instanceMethod yX2_increase, Cond.selects RX2 yX2_increase yX2_increase, Cond.code yX2_increase cX2_increase 3 none, Cond.methodLink RX2 37 yX2_put, Cond.methodLink RX1 148 yX1_staysInRegister, Cond.instanceMethod yX1_staysInRegister]
noncomputable def wsX3_fate_r6 : List Cond := [Cond.selects RX1 yX1_staysInRegister yX1_staysInRegister, Cond.code yX1_staysInRegister cX1_staysInRegister 3 (some .boolean), Cond.methodLink RX1 88 yX1_place, Cond.instanceMethod yX1_place, Cond.selects RX1 yX1_place yX1_place, Cond.code yX1_place cX1_place 2 (some .int), Cond.methodLink RX1 155 yX1_labelerActs, Cond.instanceMethod yX1_labelerActs, Cond.selects RX1 yX1_labelerActs yX1_labelerActs, Cond.code yX1_labelerActs cX1_labelerActs 3 none, Cond.methodLink RX1 174 yX1_putSetting, Cond.instanceMethod yX1_putSetting, Cond.selects RX1 yX1_putSetting yX1_putSetting, Cond.code yX1_putSetting cX1_putSetting 3 none, Cond.methodLink RX1 177 yX1_itemAt, Cond.instanceMethod yX1_itemAt, Cond.selects RX1 yX1_itemAt yX1_itemAt, Cond.code yX1_itemAt cX1_itemAt 7 (some .int), Cond.methodLink RX1 190 Lib.Math.abs.name, Cond.static Lib.Math.abs.name, Cond.code Lib.Math.abs.name Lib.Math.abs.code 1 (some .int), Cond.methodLink RX1 158 yX1_cameraActs, Cond.instanceMethod yX1_cameraActs, Cond.selects RX1 yX1_cameraActs yX1_cameraActs]
noncomputable def wsX3_fate_r7 : List Cond := [Cond.code yX1_cameraActs cX1_cameraActs 4 none, Cond.methodLink RX1 105 yX2_addRow, Cond.instanceMethod yX2_addRow, Cond.selects RX2 yX2_addRow yX2_addRow, Cond.code yX2_addRow cX2_addRow 4 (some .int), Cond.fieldLink RX2 24 "LabelStation$Table" "room" "I", Cond.methodLink RX1 180 yX1_seen, Cond.instanceMethod yX1_seen, Cond.selects RX1 yX1_seen yX1_seen, Cond.code yX1_seen cX1_seen 3 (some .int), Cond.methodLink RX1 162 yX1_mayPass, Cond.instanceMethod yX1_mayPass, Cond.selects RX1 yX1_mayPass yX1_mayPass, Cond.code yX1_mayPass cX1_mayPass 2 (some .boolean), Cond.methodLink RX1 165 yX1_reject, Cond.instanceMethod yX1_reject, Cond.selects RX1 yX1_reject yX1_reject, Cond.code yX1_reject cX1_reject 3 none, Cond.methodLink RX1 184 yX1_causeOf, Cond.instanceMethod yX1_causeOf, Cond.selects RX1 yX1_causeOf yX1_causeOf, Cond.code yX1_causeOf cX1_causeOf 2 (some .int), Cond.methodLink RX1 171 yX1_leaveRegister, Cond.instanceMethod yX1_leaveRegister]
noncomputable def wsX3_fate_r8 : List Cond := [Cond.selects RX1 yX1_leaveRegister yX1_leaveRegister, Cond.code yX1_leaveRegister cX1_leaveRegister 3 none, Cond.methodLink RX1 168 yX1_pass, Cond.instanceMethod yX1_pass, Cond.selects RX1 yX1_pass yX1_pass, Cond.code yX1_pass cX1_pass 2 none, Cond.methodLink RX1 152 yX1_leaveBelt, Cond.instanceMethod yX1_leaveBelt, Cond.selects RX1 yX1_leaveBelt yX1_leaveBelt, Cond.code yX1_leaveBelt cX1_leaveBelt 3 none, Cond.methodLink RX1 187 yX1_recordForExit, Cond.instanceMethod yX1_recordForExit, Cond.selects RX1 yX1_recordForExit yX1_recordForExit, Cond.code yX1_recordForExit cX1_recordForExit 7 (some .int)]
noncomputable def wsX3_fate : List Cond := .code yX3_fate cX3_fate 3 (some .int) :: ((wsX3_fate_r1 ++ (wsX3_fate_r2 ++ (wsX3_fate_r3 ++ (wsX3_fate_r4 ++ (wsX3_fate_r5 ++ (wsX3_fate_r6 ++ (wsX3_fate_r7 ++ wsX3_fate_r8))))))) ++ wsX30 ++ wsX10 ++ wsX20 ++ (vx_atS RX3 127 "java/util/NoSuchElementException" ["java/lang/RuntimeException", "java/lang/Exception"]).filter goodWord)
noncomputable def wsX3_append : List Cond := .code yX3_append cX3_append 2 (some .int) :: ([.classLink RX3 34 "java/lang/IllegalArgumentException", .initialized "java/lang/IllegalArgumentException", .classLink RX3 54 "java/lang/IllegalStateException", .initialized "java/lang/IllegalStateException", .fieldLink RX3 30 "LabelStation" "textLength" "I", .fieldLink RX3 26 "LabelStation" "text" "[B"] ++ wsX30 ++ (vx_atS RX3 38 "java/lang/IllegalArgumentException" ["java/lang/RuntimeException", "java/lang/Exception"]).filter goodWord ++ (vx_atS RX3 58 "java/lang/IllegalStateException" ["java/lang/RuntimeException", "java/lang/Exception"]).filter goodWord)
noncomputable def wsX3_clearText : List Cond := .code yX3_clearText cX3_clearText 2 (some .int) :: ([.fieldLink RX3 30 "LabelStation" "textLength" "I"] ++ wsX30)
noncomputable def wsX3_byteAt : List Cond := .code yX3_byteAt cX3_byteAt 2 (some .int) :: ([.fieldLink RX3 26 "LabelStation" "text" "[B"] ++ wsX30)
noncomputable def wsX3_ticksOf : List Cond := .code yX3_ticksOf cX3_ticksOf 1 (some .int) :: ([])
noncomputable def wsX3_syntaxError : List Cond := .code yX3_syntaxError cX3_syntaxError 4 (some .int) :: ([.fieldLink RX3 30 "LabelStation" "textLength" "I", .methodLink RX3 203 yX3_byteAt, .instanceMethod yX3_byteAt, .selects RX3 yX3_byteAt yX3_byteAt, .initialized RX3, .code yX3_byteAt cX3_byteAt 2 (some .int), .fieldLink RX3 26 "LabelStation" "text" "[B", .methodLink RX3 206 yX3_ticksOf, .static yX3_ticksOf, .code yX3_ticksOf cX3_ticksOf 1 (some .int)] ++ wsX30)
noncomputable def wsX3_carryOut_r1 : List Cond := [Cond.fieldLink RX3 22 "LabelStation" "history" "LLabelStation$History;", Cond.fieldLink RX3 10 "LabelStation" "state" "LLabelStation$State;", Cond.fieldLink RX3 30 "LabelStation" "textLength" "I", Cond.methodLink RX3 197 yX3_syntaxError, Cond.instanceMethod yX3_syntaxError, Cond.selects RX3 yX3_syntaxError yX3_syntaxError, Cond.initialized RX3, Cond.code yX3_syntaxError cX3_syntaxError 4 (some .int), Cond.methodLink RX3 203 yX3_byteAt, Cond.instanceMethod yX3_byteAt, Cond.selects RX3 yX3_byteAt yX3_byteAt, Cond.code yX3_byteAt cX3_byteAt 2 (some .int), Cond.fieldLink RX3 26 "LabelStation" "text" "[B", Cond.methodLink RX3 206 yX3_ticksOf, Cond.static yX3_ticksOf, Cond.code yX3_ticksOf cX3_ticksOf 1 (some .int), Cond.methodLink RX3 200 yX0_prepare, Cond.instanceMethod yX0_prepare, Cond.selects RX0 yX0_prepare yX0_prepare, Cond.initialized RX0, Cond.code yX0_prepare cX0_prepare 3 none, Cond.fieldLink RX0 21 "LabelStation$History" "saved" "I", Cond.methodLink RX0 32 yX0_slotAt, Cond.instanceMethod yX0_slotAt]
noncomputable def wsX3_carryOut_r2 : List Cond := [Cond.selects RX0 yX0_slotAt yX0_slotAt, Cond.code yX0_slotAt cX0_slotAt 3 (some (.object "LabelStation$State")), Cond.fieldLink RX0 17 "LabelStation$History" "oldest" "I", Cond.fieldLink RX0 11 "LabelStation$History" "slots" "[LLabelStation$State;", Cond.methodLink RX0 36 yX1_copyFrom, Cond.instanceMethod yX1_copyFrom, Cond.selects RX1 yX1_copyFrom yX1_copyFrom, Cond.initialized RX1, Cond.code yX1_copyFrom cX1_copyFrom 2 none, Cond.fieldLink RX1 9 "LabelStation$State" "settings" "[I", Cond.methodLink RX1 68 Lib.Math.min.name, Cond.static Lib.Math.min.name, Cond.initialized "java/lang/Math", Cond.code Lib.Math.min.name Lib.Math.min.code 2 (some .int), Cond.methodLink RX1 74 arraycopyName, Cond.native arraycopyName, Cond.static arraycopyName, Cond.initialized "java/lang/System", Cond.fieldLink RX1 15 "LabelStation$State" "places" "[I", Cond.fieldLink RX1 18 "LabelStation$State" "counters" "[I", Cond.fieldLink RX1 26 "LabelStation$State" "items" "LLabelStation$Table;", Cond.fieldLink RX1 30 "LabelStation$State" "records" "LLabelStation$Table;", Cond.fieldLink RX1 33 "LabelStation$State" "verdicts" "LLabelStation$Table;", Cond.fieldLink RX1 36 "LabelStation$State" "binArrivals" "LLabelStation$Table;"]
noncomputable def wsX3_carryOut_r3 : List Cond := [Cond.fieldLink RX1 39 "LabelStation$State" "expectations" "LLabelStation$Table;", Cond.fieldLink RX1 42 "LabelStation$State" "tick" "I", Cond.fieldLink RX1 46 "LabelStation$State" "running" "Z", Cond.fieldLink RX1 50 "LabelStation$State" "alarm" "I", Cond.fieldLink RX1 53 "LabelStation$State" "jammed" "Z", Cond.fieldLink RX1 56 "LabelStation$State" "consecutiveRejects" "I", Cond.fieldLink RX1 59 "LabelStation$State" "diverted" "I", Cond.methodLink RX1 80 yX2_copyFrom, Cond.instanceMethod yX2_copyFrom, Cond.selects RX2 yX2_copyFrom yX2_copyFrom, Cond.initialized RX2, Cond.code yX2_copyFrom cX2_copyFrom 2 none, Cond.fieldLink RX2 27 "LabelStation$Table" "cells" "[I", Cond.methodLink RX2 31 arraycopyName, Cond.fieldLink RX2 9 "LabelStation$Table" "rows" "I", Cond.methodLink RX3 148 yX1_passTick, Cond.instanceMethod yX1_passTick, Cond.selects RX1 yX1_passTick yX1_passTick, Cond.code yX1_passTick cX1_passTick 3 none, Cond.methodLink RX1 112 yX1_deliverVerdicts, Cond.instanceMethod yX1_deliverVerdicts, Cond.selects RX1 yX1_deliverVerdicts yX1_deliverVerdicts, Cond.code yX1_deliverVerdicts cX1_deliverVerdicts 2 none, Cond.methodLink RX1 91 yX2_count]
noncomputable def wsX3_carryOut_r4 : List Cond := [Cond.instanceMethod yX2_count, Cond.selects RX2 yX2_count yX2_count, Cond.code yX2_count cX2_count 1 (some .int), Cond.methodLink RX1 124 yX2_get, Cond.instanceMethod yX2_get, Cond.selects RX2 yX2_get yX2_get, Cond.code yX2_get cX2_get 4 (some .int), Cond.fieldLink RX2 21 "LabelStation$Table" "width" "I", Cond.methodLink RX1 127 yX1_deliver, Cond.instanceMethod yX1_deliver, Cond.selects RX1 yX1_deliver yX1_deliver, Cond.code yX1_deliver cX1_deliver 5 none, Cond.methodLink RX1 133 yX2_find, Cond.instanceMethod yX2_find, Cond.selects RX2 yX2_find yX2_find, Cond.code yX2_find cX2_find 3 (some .int), Cond.methodLink RX2 41 yX2_get, Cond.methodLink RX1 102 yX1_count, Cond.instanceMethod yX1_count, Cond.selects RX1 yX1_count yX1_count, Cond.code yX1_count cX1_count 2 none, Cond.methodLink RX1 108 yX2_put, Cond.instanceMethod yX2_put, Cond.selects RX2 yX2_put yX2_put]
noncomputable def wsX3_carryOut_r5 : List Cond := [Cond.code yX2_put cX2_put 5 none, Cond.methodLink RX1 130 yX2_removeRowsOf, Cond.instanceMethod yX2_removeRowsOf, Cond.selects RX2 yX2_removeRowsOf yX2_removeRowsOf, Cond.code yX2_removeRowsOf cX2_removeRowsOf 3 none, Cond.methodLink RX2 44 yX2_removeRow, Cond.instanceMethod yX2_removeRow, Cond.selects RX2 yX2_removeRow yX2_removeRow, Cond.code yX2_removeRow cX2_removeRow 3 none, Cond.methodLink RX1 115 yX1_fillBin, Cond.instanceMethod yX1_fillBin, Cond.selects RX1 yX1_fillBin yX1_fillBin, Cond.code yX1_fillBin cX1_fillBin 2 none, Cond.methodLink RX1 136 yX1_confirmOldest, Cond.instanceMethod yX1_confirmOldest, Cond.selects RX1 yX1_confirmOldest yX1_confirmOldest, Cond.code yX1_confirmOldest cX1_confirmOldest 1 none, Cond.methodLink RX1 139 yX1_raise, Cond.instanceMethod yX1_raise, Cond.selects RX1 yX1_raise yX1_raise, Cond.code yX1_raise cX1_raise 2 none, Cond.methodLink RX1 142 yX2_removeRow, Cond.methodLink RX1 118 yX1_closeOverdueExpectations, Cond.instanceMethod yX1_closeOverdueExpectations]
noncomputable def wsX3_carryOut_r6 : List Cond := [Cond.selects RX1 yX1_closeOverdueExpectations yX1_closeOverdueExpectations, Cond.code yX1_closeOverdueExpectations cX1_closeOverdueExpectations 2 none, Cond.methodLink RX1 84 yX1_setting, Cond.instanceMethod yX1_setting, Cond.selects RX1 yX1_setting yX1_setting, Cond.code yX1_setting cX1_setting 2 (some .int), Cond.methodLink RX1 121 yX1_pulse, Cond.instanceMethod yX1_pulse, Cond.selects RX1 yX1_pulse yX1_pulse, Cond.code yX1_pulse cX1_pulse 4 none, Cond.methodLink RX1 145 yX2_increase, Cond.instanceMethod yX2_increase, Cond.selects RX2 yX2_increase yX2_increase, Cond.code yX2_increase cX2_increase 3 none, Cond.methodLink RX2 37 yX2_put, Cond.methodLink RX1 148 yX1_staysInRegister, Cond.instanceMethod yX1_staysInRegister, Cond.selects RX1 yX1_staysInRegister yX1_staysInRegister, Cond.code yX1_staysInRegister cX1_staysInRegister 3 (some .boolean), Cond.methodLink RX1 88 yX1_place, Cond.instanceMethod yX1_place, Cond.selects RX1 yX1_place yX1_place, Cond.code yX1_place cX1_place 2 (some .int), Cond.methodLink RX1 155 yX1_labelerActs]
noncomputable def wsX3_carryOut_r7 : List Cond := [Cond.instanceMethod yX1_labelerActs, Cond.selects RX1 yX1_labelerActs yX1_labelerActs, Cond.code yX1_labelerActs cX1_labelerActs 3 none, Cond.methodLink RX1 174 yX1_putSetting, Cond.instanceMethod yX1_putSetting, Cond.selects RX1 yX1_putSetting yX1_putSetting, Cond.code yX1_putSetting cX1_putSetting 3 none, Cond.methodLink RX1 177 yX1_itemAt, Cond.instanceMethod yX1_itemAt, Cond.selects RX1 yX1_itemAt yX1_itemAt, Cond.code yX1_itemAt cX1_itemAt 7 (some .int), Cond.methodLink RX1 190 Lib.Math.abs.name, Cond.static Lib.Math.abs.name, Cond.code Lib.Math.abs.name Lib.Math.abs.code 1 (some .int), Cond.methodLink RX1 158 yX1_cameraActs, Cond.instanceMethod yX1_cameraActs, Cond.selects RX1 yX1_cameraActs yX1_cameraActs, Cond.code yX1_cameraActs cX1_cameraActs 4 none, Cond.methodLink RX1 105 yX2_addRow, Cond.instanceMethod yX2_addRow, Cond.selects RX2 yX2_addRow yX2_addRow, Cond.code yX2_addRow cX2_addRow 4 (some .int), Cond.fieldLink RX2 24 "LabelStation$Table" "room" "I", Cond.methodLink RX1 180 yX1_seen]
noncomputable def wsX3_carryOut_r8 : List Cond := [Cond.instanceMethod yX1_seen, Cond.selects RX1 yX1_seen yX1_seen, Cond.code yX1_seen cX1_seen 3 (some .int), Cond.methodLink RX1 162 yX1_mayPass, Cond.instanceMethod yX1_mayPass, Cond.selects RX1 yX1_mayPass yX1_mayPass, Cond.code yX1_mayPass cX1_mayPass 2 (some .boolean), Cond.methodLink RX1 165 yX1_reject, Cond.instanceMethod yX1_reject, Cond.selects RX1 yX1_reject yX1_reject, Cond.code yX1_reject cX1_reject 3 none, Cond.methodLink RX1 184 yX1_causeOf, Cond.instanceMethod yX1_causeOf, Cond.selects RX1 yX1_causeOf yX1_causeOf, Cond.code yX1_causeOf cX1_causeOf 2 (some .int), Cond.methodLink RX1 171 yX1_leaveRegister, Cond.instanceMethod yX1_leaveRegister, Cond.selects RX1 yX1_leaveRegister yX1_leaveRegister, Cond.code yX1_leaveRegister cX1_leaveRegister 3 none, Cond.fieldLink RX1 62 "LabelStation$State" "watched" "I", Cond.fieldLink RX1 65 "LabelStation$State" "outcome" "I", Cond.methodLink RX1 168 yX1_pass, Cond.instanceMethod yX1_pass, Cond.selects RX1 yX1_pass yX1_pass]
noncomputable def wsX3_carryOut_r9 : List Cond := [Cond.code yX1_pass cX1_pass 2 none, Cond.methodLink RX1 152 yX1_leaveBelt, Cond.instanceMethod yX1_leaveBelt, Cond.selects RX1 yX1_leaveBelt yX1_leaveBelt, Cond.code yX1_leaveBelt cX1_leaveBelt 3 none, Cond.methodLink RX1 187 yX1_recordForExit, Cond.instanceMethod yX1_recordForExit, Cond.selects RX1 yX1_recordForExit yX1_recordForExit, Cond.code yX1_recordForExit cX1_recordForExit 7 (some .int), Cond.methodLink RX3 111 yX1_hasRoom, Cond.instanceMethod yX1_hasRoom, Cond.selects RX1 yX1_hasRoom yX1_hasRoom, Cond.code yX1_hasRoom cX1_hasRoom 1 (some .boolean), Cond.methodLink RX1 95 yX2_hasBelow, Cond.instanceMethod yX2_hasBelow, Cond.selects RX2 yX2_hasBelow yX2_hasBelow, Cond.code yX2_hasBelow cX2_hasBelow 4 (some .boolean), Cond.methodLink RX3 209 yX0_bringBackPrepared, Cond.instanceMethod yX0_bringBackPrepared, Cond.selects RX0 yX0_bringBackPrepared yX0_bringBackPrepared, Cond.code yX0_bringBackPrepared cX0_bringBackPrepared 3 none, Cond.methodLink RX3 117 yX1_enter, Cond.instanceMethod yX1_enter, Cond.selects RX1 yX1_enter yX1_enter]
noncomputable def wsX3_carryOut_r10 : List Cond := [Cond.code yX1_enter cX1_enter 4 (some .int), Cond.methodLink RX1 99 yX1_counted, Cond.instanceMethod yX1_counted, Cond.selects RX1 yX1_counted yX1_counted, Cond.code yX1_counted cX1_counted 2 (some .int), Cond.methodLink RX3 212 yX0_keepPrepared, Cond.instanceMethod yX0_keepPrepared, Cond.selects RX0 yX0_keepPrepared yX0_keepPrepared, Cond.code yX0_keepPrepared cX0_keepPrepared 1 none]
noncomputable def wsX3_carryOut : List Cond := .code yX3_carryOut cX3_carryOut 6 (some .int) :: ((wsX3_carryOut_r1 ++ (wsX3_carryOut_r2 ++ (wsX3_carryOut_r3 ++ (wsX3_carryOut_r4 ++ (wsX3_carryOut_r5 ++ (wsX3_carryOut_r6 ++ (wsX3_carryOut_r7 ++ (wsX3_carryOut_r8 ++ (wsX3_carryOut_r9 ++ wsX3_carryOut_r10))))))))) ++ wsX30 ++ wsX00 ++ wsX10 ++ wsX20)
noncomputable def wsX3_undo_r1 : List Cond := [Cond.classLink RX3 54 "java/lang/IllegalStateException", Cond.initialized "java/lang/IllegalStateException", Cond.fieldLink RX3 22 "LabelStation" "history" "LLabelStation$History;", Cond.fieldLink RX3 10 "LabelStation" "state" "LLabelStation$State;", Cond.methodLink RX3 215 yX0_count, Cond.instanceMethod yX0_count, Cond.selects RX0 yX0_count yX0_count, Cond.initialized RX0, Cond.code yX0_count cX0_count 1 (some .int), Cond.fieldLink RX0 21 "LabelStation$History" "saved" "I", Cond.methodLink RX3 218 yX0_bringBackLatest, Cond.instanceMethod yX0_bringBackLatest, Cond.selects RX0 yX0_bringBackLatest yX0_bringBackLatest, Cond.code yX0_bringBackLatest cX0_bringBackLatest 2 none, Cond.methodLink RX0 39 yX0_bringBackPrepared, Cond.instanceMethod yX0_bringBackPrepared, Cond.selects RX0 yX0_bringBackPrepared yX0_bringBackPrepared, Cond.code yX0_bringBackPrepared cX0_bringBackPrepared 3 none, Cond.methodLink RX0 32 yX0_slotAt, Cond.instanceMethod yX0_slotAt, Cond.selects RX0 yX0_slotAt yX0_slotAt, Cond.code yX0_slotAt cX0_slotAt 3 (some (.object "LabelStation$State")), Cond.fieldLink RX0 17 "LabelStation$History" "oldest" "I", Cond.fieldLink RX0 11 "LabelStation$History" "slots" "[LLabelStation$State;"]
noncomputable def wsX3_undo_r2 : List Cond := [Cond.methodLink RX0 36 yX1_copyFrom, Cond.instanceMethod yX1_copyFrom, Cond.selects RX1 yX1_copyFrom yX1_copyFrom, Cond.initialized RX1, Cond.code yX1_copyFrom cX1_copyFrom 2 none, Cond.fieldLink RX1 9 "LabelStation$State" "settings" "[I", Cond.methodLink RX1 68 Lib.Math.min.name, Cond.static Lib.Math.min.name, Cond.initialized "java/lang/Math", Cond.code Lib.Math.min.name Lib.Math.min.code 2 (some .int), Cond.methodLink RX1 74 arraycopyName, Cond.native arraycopyName, Cond.static arraycopyName, Cond.initialized "java/lang/System", Cond.fieldLink RX1 15 "LabelStation$State" "places" "[I", Cond.fieldLink RX1 18 "LabelStation$State" "counters" "[I", Cond.fieldLink RX1 26 "LabelStation$State" "items" "LLabelStation$Table;", Cond.fieldLink RX1 30 "LabelStation$State" "records" "LLabelStation$Table;", Cond.fieldLink RX1 33 "LabelStation$State" "verdicts" "LLabelStation$Table;", Cond.fieldLink RX1 36 "LabelStation$State" "binArrivals" "LLabelStation$Table;", Cond.fieldLink RX1 39 "LabelStation$State" "expectations" "LLabelStation$Table;", Cond.fieldLink RX1 42 "LabelStation$State" "tick" "I", Cond.fieldLink RX1 46 "LabelStation$State" "running" "Z", Cond.fieldLink RX1 50 "LabelStation$State" "alarm" "I"]
noncomputable def wsX3_undo_r3 : List Cond := [Cond.fieldLink RX1 53 "LabelStation$State" "jammed" "Z", Cond.fieldLink RX1 56 "LabelStation$State" "consecutiveRejects" "I", Cond.fieldLink RX1 59 "LabelStation$State" "diverted" "I", Cond.methodLink RX1 80 yX2_copyFrom, Cond.instanceMethod yX2_copyFrom, Cond.selects RX2 yX2_copyFrom yX2_copyFrom, Cond.initialized RX2, Cond.code yX2_copyFrom cX2_copyFrom 2 none, Cond.fieldLink RX2 27 "LabelStation$Table" "cells" "[I", Cond.methodLink RX2 31 arraycopyName, Cond.fieldLink RX2 9 "LabelStation$Table" "rows" "I"]
noncomputable def wsX3_undo : List Cond := .code yX3_undo cX3_undo 1 (some .int) :: ((wsX3_undo_r1 ++ (wsX3_undo_r2 ++ wsX3_undo_r3)) ++ wsX30 ++ wsX00 ++ wsX10 ++ wsX20 ++ (vx_atS RX3 58 "java/lang/IllegalStateException" ["java/lang/RuntimeException", "java/lang/Exception"]).filter goodWord)
noncomputable def wsX3_digest_r1 : List Cond := [Cond.constantLong RX3 221 (91109), Cond.fieldLink RX3 30 "LabelStation" "textLength" "I", Cond.constantLong RX3 223 (31), Cond.fieldLink RX3 10 "LabelStation" "state" "LLabelStation$State;", Cond.fieldLink RX3 22 "LabelStation" "history" "LLabelStation$History;", Cond.methodLink RX3 90 yX1_valueOf, Cond.instanceMethod yX1_valueOf, Cond.selects RX1 yX1_valueOf yX1_valueOf, Cond.initialized RX1, Cond.code yX1_valueOf cX1_valueOf 2 (some .int), Cond.fieldLink RX1 56 "LabelStation$State" "consecutiveRejects" "I", Cond.fieldLink RX1 9 "LabelStation$State" "settings" "[I", Cond.methodLink RX1 84 yX1_setting, Cond.instanceMethod yX1_setting, Cond.selects RX1 yX1_setting yX1_setting, Cond.code yX1_setting cX1_setting 2 (some .int), Cond.methodLink RX1 88 yX1_place, Cond.instanceMethod yX1_place, Cond.selects RX1 yX1_place yX1_place, Cond.code yX1_place cX1_place 2 (some .int), Cond.fieldLink RX1 15 "LabelStation$State" "places" "[I", Cond.methodLink RX3 156 yX1_statusOf, Cond.instanceMethod yX1_statusOf, Cond.selects RX1 yX1_statusOf yX1_statusOf]
noncomputable def wsX3_digest_r2 : List Cond := [Cond.code yX1_statusOf cX1_statusOf 2 (some .int), Cond.fieldLink RX1 42 "LabelStation$State" "tick" "I", Cond.fieldLink RX1 46 "LabelStation$State" "running" "Z", Cond.fieldLink RX1 50 "LabelStation$State" "alarm" "I", Cond.fieldLink RX1 26 "LabelStation$State" "items" "LLabelStation$Table;", Cond.fieldLink RX1 30 "LabelStation$State" "records" "LLabelStation$Table;", Cond.fieldLink RX1 33 "LabelStation$State" "verdicts" "LLabelStation$Table;", Cond.fieldLink RX1 39 "LabelStation$State" "expectations" "LLabelStation$Table;", Cond.fieldLink RX1 36 "LabelStation$State" "binArrivals" "LLabelStation$Table;", Cond.methodLink RX1 91 yX2_count, Cond.instanceMethod yX2_count, Cond.selects RX2 yX2_count yX2_count, Cond.initialized RX2, Cond.code yX2_count cX2_count 1 (some .int), Cond.fieldLink RX2 9 "LabelStation$Table" "rows" "I", Cond.methodLink RX3 170 yX1_counted, Cond.instanceMethod yX1_counted, Cond.selects RX1 yX1_counted yX1_counted, Cond.code yX1_counted cX1_counted 2 (some .int), Cond.fieldLink RX1 18 "LabelStation$State" "counters" "[I", Cond.methodLink RX3 225 yX2_mixInto, Cond.instanceMethod yX2_mixInto, Cond.selects RX2 yX2_mixInto yX2_mixInto, Cond.code yX2_mixInto cX2_mixInto 7 (some .long)]
noncomputable def wsX3_digest_r3 : List Cond := [Cond.fieldLink RX2 21 "LabelStation$Table" "width" "I", Cond.constantLong RX2 48 (31), Cond.methodLink RX2 41 yX2_get, Cond.instanceMethod yX2_get, Cond.selects RX2 yX2_get yX2_get, Cond.code yX2_get cX2_get 4 (some .int), Cond.fieldLink RX2 27 "LabelStation$Table" "cells" "[I", Cond.methodLink RX3 215 yX0_count, Cond.instanceMethod yX0_count, Cond.selects RX0 yX0_count yX0_count, Cond.initialized RX0, Cond.code yX0_count cX0_count 1 (some .int), Cond.fieldLink RX0 21 "LabelStation$History" "saved" "I"]
noncomputable def wsX3_digest : List Cond := .code yX3_digest cX3_digest 4 (some .long) :: ((wsX3_digest_r1 ++ (wsX3_digest_r2 ++ wsX3_digest_r3)) ++ wsX30 ++ wsX10 ++ wsX20 ++ wsX00)
noncomputable def wsX4_init : List Cond := .code yX4_init cX4_init 1 none :: ([.methodLink RX4 1 objectInit, .instanceMethod objectInit, .code objectInit ⟨#[0xb1]⟩ 1 none, .arrayClass .int, .fieldLink RX4 7 "LabelStationModel" "now" "[I", .fieldLink RX4 13 "LabelStationModel" "past" "[I", .fieldLink RX4 16 "LabelStationModel" "aside" "[I", .fieldLink RX4 19 "LabelStationModel" "text" "[I"] ++ wsX40)
noncomputable def wsX4_thrown : List Cond := .code yX4_thrown cX4_thrown 1 (some .int) :: ([.fieldLink RX4 22 "LabelStationModel" "refusal" "I"] ++ wsX40)
noncomputable def wsX4_refused : List Cond := .code yX4_refused cX4_refused 2 (some .boolean) :: ([.fieldLink RX4 22 "LabelStationModel" "refusal" "I"] ++ wsX40)
noncomputable def wsX4_within : List Cond := .code yX4_within cX4_within 3 (some .boolean) :: ([])
noncomputable def wsX4_saves : List Cond := .code yX4_saves cX4_saves 2 none :: ([.fieldLink RX4 26 "LabelStationModel" "saved" "I", .fieldLink RX4 13 "LabelStationModel" "past" "[I", .fieldLink RX4 7 "LabelStationModel" "now" "[I"] ++ wsX40)
noncomputable def wsX4_undo : List Cond := .code yX4_undo cX4_undo 2 (some .int) :: ([.fieldLink RX4 26 "LabelStationModel" "saved" "I", .fieldLink RX4 7 "LabelStationModel" "now" "[I", .fieldLink RX4 13 "LabelStationModel" "past" "[I", .methodLink RX4 29 yX4_refused, .instanceMethod yX4_refused, .selects RX4 yX4_refused yX4_refused, .initialized RX4, .code yX4_refused cX4_refused 2 (some .boolean), .fieldLink RX4 22 "LabelStationModel" "refusal" "I"] ++ wsX40)
noncomputable def wsX4_laysAside : List Cond := .code yX4_laysAside cX4_laysAside 2 none :: ([.fieldLink RX4 16 "LabelStationModel" "aside" "[I", .fieldLink RX4 7 "LabelStationModel" "now" "[I"] ++ wsX40)
noncomputable def wsX4_takesBack : List Cond := .code yX4_takesBack cX4_takesBack 2 none :: ([.fieldLink RX4 7 "LabelStationModel" "now" "[I", .fieldLink RX4 16 "LabelStationModel" "aside" "[I"] ++ wsX40)
noncomputable def wsX4_drops : List Cond := .code yX4_drops cX4_drops 6 none :: ([.fieldLink RX4 7 "LabelStationModel" "now" "[I"] ++ wsX40)
noncomputable def wsX4_counts : List Cond := .code yX4_counts cX4_counts 2 none :: ([.fieldLink RX4 7 "LabelStationModel" "now" "[I"] ++ wsX40)
noncomputable def wsX4_thing : List Cond := .code yX4_thing cX4_thing 2 (some .int) :: ([])
noncomputable def wsX4_entry : List Cond := .code yX4_entry cX4_entry 2 (some .int) :: ([])
noncomputable def wsX4_itemOf : List Cond := .code yX4_itemOf cX4_itemOf 4 (some .int) :: ([.fieldLink RX4 7 "LabelStationModel" "now" "[I", .methodLink RX4 33 yX4_thing, .static yX4_thing, .initialized RX4, .code yX4_thing cX4_thing 2 (some .int)] ++ wsX40)
noncomputable def wsX4_recordOf : List Cond := .code yX4_recordOf cX4_recordOf 4 (some .int) :: ([.fieldLink RX4 7 "LabelStationModel" "now" "[I", .methodLink RX4 37 yX4_entry, .static yX4_entry, .initialized RX4, .code yX4_entry cX4_entry 2 (some .int)] ++ wsX40)
noncomputable def wsX4_isSetting : List Cond := .code yX4_isSetting cX4_isSetting 2 (some .boolean) :: ([.methodLink RX4 40 yX4_within, .static yX4_within, .initialized RX4, .code yX4_within cX4_within 3 (some .boolean)])
noncomputable def wsX4_setPlaces : List Cond := .code yX4_setPlaces cX4_setPlaces 8 (some .int) :: ([.fieldLink RX4 7 "LabelStationModel" "now" "[I", .methodLink RX4 29 yX4_refused, .instanceMethod yX4_refused, .selects RX4 yX4_refused yX4_refused, .initialized RX4, .code yX4_refused cX4_refused 2 (some .boolean), .fieldLink RX4 22 "LabelStationModel" "refusal" "I", .methodLink RX4 44 yX4_saves, .instanceMethod yX4_saves, .selects RX4 yX4_saves yX4_saves, .code yX4_saves cX4_saves 2 none, .fieldLink RX4 26 "LabelStationModel" "saved" "I", .fieldLink RX4 13 "LabelStationModel" "past" "[I"] ++ wsX40)
noncomputable def wsX4_set : List Cond := .code yX4_set cX4_set 4 (some .int) :: ([.fieldLink RX4 7 "LabelStationModel" "now" "[I", .methodLink RX4 47 yX4_isSetting, .static yX4_isSetting, .initialized RX4, .code yX4_isSetting cX4_isSetting 2 (some .boolean), .methodLink RX4 40 yX4_within, .static yX4_within, .code yX4_within cX4_within 3 (some .boolean), .methodLink RX4 29 yX4_refused, .instanceMethod yX4_refused, .selects RX4 yX4_refused yX4_refused, .code yX4_refused cX4_refused 2 (some .boolean), .fieldLink RX4 22 "LabelStationModel" "refusal" "I", .methodLink RX4 44 yX4_saves, .instanceMethod yX4_saves, .selects RX4 yX4_saves yX4_saves, .code yX4_saves cX4_saves 2 none, .fieldLink RX4 26 "LabelStationModel" "saved" "I", .fieldLink RX4 13 "LabelStationModel" "past" "[I"] ++ wsX40)
noncomputable def wsX4_value : List Cond := .code yX4_value cX4_value 2 (some .int) :: ([.fieldLink RX4 7 "LabelStationModel" "now" "[I", .methodLink RX4 40 yX4_within, .static yX4_within, .initialized RX4, .code yX4_within cX4_within 3 (some .boolean), .methodLink RX4 29 yX4_refused, .instanceMethod yX4_refused, .selects RX4 yX4_refused yX4_refused, .code yX4_refused cX4_refused 2 (some .boolean), .fieldLink RX4 22 "LabelStationModel" "refusal" "I"] ++ wsX40)
noncomputable def wsX4_jam : List Cond := .code yX4_jam cX4_jam 3 (some .boolean) :: ([.fieldLink RX4 22 "LabelStationModel" "refusal" "I", .fieldLink RX4 7 "LabelStationModel" "now" "[I", .methodLink RX4 44 yX4_saves, .instanceMethod yX4_saves, .selects RX4 yX4_saves yX4_saves, .initialized RX4, .code yX4_saves cX4_saves 2 none, .fieldLink RX4 26 "LabelStationModel" "saved" "I", .fieldLink RX4 13 "LabelStationModel" "past" "[I"] ++ wsX40)
noncomputable def wsX4_start : List Cond := .code yX4_start cX4_start 1 (some .int) :: ([.fieldLink RX4 7 "LabelStationModel" "now" "[I", .methodLink RX4 29 yX4_refused, .instanceMethod yX4_refused, .selects RX4 yX4_refused yX4_refused, .initialized RX4, .code yX4_refused cX4_refused 2 (some .boolean), .fieldLink RX4 22 "LabelStationModel" "refusal" "I", .methodLink RX4 44 yX4_saves, .instanceMethod yX4_saves, .selects RX4 yX4_saves yX4_saves, .code yX4_saves cX4_saves 2 none, .fieldLink RX4 26 "LabelStationModel" "saved" "I", .fieldLink RX4 13 "LabelStationModel" "past" "[I"] ++ wsX40)
noncomputable def wsX4_stop : List Cond := .code yX4_stop cX4_stop 1 (some .int) :: ([.fieldLink RX4 7 "LabelStationModel" "now" "[I", .methodLink RX4 29 yX4_refused, .instanceMethod yX4_refused, .selects RX4 yX4_refused yX4_refused, .initialized RX4, .code yX4_refused cX4_refused 2 (some .boolean), .fieldLink RX4 22 "LabelStationModel" "refusal" "I", .methodLink RX4 44 yX4_saves, .instanceMethod yX4_saves, .selects RX4 yX4_saves yX4_saves, .code yX4_saves cX4_saves 2 none, .fieldLink RX4 26 "LabelStationModel" "saved" "I", .fieldLink RX4 13 "LabelStationModel" "past" "[I"] ++ wsX40)
noncomputable def wsX4_reset : List Cond := .code yX4_reset cX4_reset 2 (some .int) :: ([.fieldLink RX4 7 "LabelStationModel" "now" "[I", .methodLink RX4 29 yX4_refused, .instanceMethod yX4_refused, .selects RX4 yX4_refused yX4_refused, .initialized RX4, .code yX4_refused cX4_refused 2 (some .boolean), .fieldLink RX4 22 "LabelStationModel" "refusal" "I", .methodLink RX4 44 yX4_saves, .instanceMethod yX4_saves, .selects RX4 yX4_saves yX4_saves, .code yX4_saves cX4_saves 2 none, .fieldLink RX4 26 "LabelStationModel" "saved" "I", .fieldLink RX4 13 "LabelStationModel" "past" "[I"] ++ wsX40)
noncomputable def wsX4_barFeed : List Cond := .code yX4_barFeed cX4_barFeed 4 (some .int) :: ([.fieldLink RX4 7 "LabelStationModel" "now" "[I", .methodLink RX4 40 yX4_within, .static yX4_within, .initialized RX4, .code yX4_within cX4_within 3 (some .boolean), .methodLink RX4 33 yX4_thing, .static yX4_thing, .code yX4_thing cX4_thing 2 (some .int), .methodLink RX4 37 yX4_entry, .static yX4_entry, .code yX4_entry cX4_entry 2 (some .int)] ++ wsX40)
noncomputable def wsX4_feeds : List Cond := .code yX4_feeds cX4_feeds 6 (some .int) :: ([.fieldLink RX4 7 "LabelStationModel" "now" "[I", .methodLink RX4 51 yX4_counts, .instanceMethod yX4_counts, .selects RX4 yX4_counts yX4_counts, .initialized RX4, .code yX4_counts cX4_counts 2 none, .methodLink RX4 33 yX4_thing, .static yX4_thing, .code yX4_thing cX4_thing 2 (some .int), .methodLink RX4 37 yX4_entry, .static yX4_entry, .code yX4_entry cX4_entry 2 (some .int)] ++ wsX40)
noncomputable def wsX4_feed_r1 : List Cond := [Cond.methodLink RX4 55 yX4_barFeed, Cond.instanceMethod yX4_barFeed, Cond.selects RX4 yX4_barFeed yX4_barFeed, Cond.initialized RX4, Cond.code yX4_barFeed cX4_barFeed 4 (some .int), Cond.fieldLink RX4 7 "LabelStationModel" "now" "[I", Cond.methodLink RX4 40 yX4_within, Cond.static yX4_within, Cond.code yX4_within cX4_within 3 (some .boolean), Cond.methodLink RX4 33 yX4_thing, Cond.static yX4_thing, Cond.code yX4_thing cX4_thing 2 (some .int), Cond.methodLink RX4 37 yX4_entry, Cond.static yX4_entry, Cond.code yX4_entry cX4_entry 2 (some .int), Cond.methodLink RX4 29 yX4_refused, Cond.instanceMethod yX4_refused, Cond.selects RX4 yX4_refused yX4_refused, Cond.code yX4_refused cX4_refused 2 (some .boolean), Cond.fieldLink RX4 22 "LabelStationModel" "refusal" "I", Cond.methodLink RX4 44 yX4_saves, Cond.instanceMethod yX4_saves, Cond.selects RX4 yX4_saves yX4_saves, Cond.code yX4_saves cX4_saves 2 none]
noncomputable def wsX4_feed_r2 : List Cond := [Cond.fieldLink RX4 26 "LabelStationModel" "saved" "I", Cond.fieldLink RX4 13 "LabelStationModel" "past" "[I", Cond.methodLink RX4 59 yX4_feeds, Cond.instanceMethod yX4_feeds, Cond.selects RX4 yX4_feeds yX4_feeds, Cond.code yX4_feeds cX4_feeds 6 (some .int), Cond.methodLink RX4 51 yX4_counts, Cond.instanceMethod yX4_counts, Cond.selects RX4 yX4_counts yX4_counts, Cond.code yX4_counts cX4_counts 2 none]
noncomputable def wsX4_feed : List Cond := .code yX4_feed cX4_feed 2 (some .int) :: ((wsX4_feed_r1 ++ wsX4_feed_r2) ++ wsX40)
noncomputable def wsX4_slip : List Cond := .code yX4_slip cX4_slip 5 (some .int) :: ([.fieldLink RX4 7 "LabelStationModel" "now" "[I", .methodLink RX4 62 yX4_itemOf, .instanceMethod yX4_itemOf, .selects RX4 yX4_itemOf yX4_itemOf, .initialized RX4, .code yX4_itemOf cX4_itemOf 4 (some .int), .methodLink RX4 33 yX4_thing, .static yX4_thing, .code yX4_thing cX4_thing 2 (some .int), .methodLink RX4 40 yX4_within, .static yX4_within, .code yX4_within cX4_within 3 (some .boolean), .methodLink RX4 29 yX4_refused, .instanceMethod yX4_refused, .selects RX4 yX4_refused yX4_refused, .code yX4_refused cX4_refused 2 (some .boolean), .fieldLink RX4 22 "LabelStationModel" "refusal" "I", .methodLink RX4 44 yX4_saves, .instanceMethod yX4_saves, .selects RX4 yX4_saves yX4_saves, .code yX4_saves cX4_saves 2 none, .fieldLink RX4 26 "LabelStationModel" "saved" "I", .fieldLink RX4 13 "LabelStationModel" "past" "[I"] ++ wsX40)
noncomputable def wsX4_take_r1 : List Cond := [Cond.fieldLink RX4 7 "LabelStationModel" "now" "[I", Cond.methodLink RX4 62 yX4_itemOf, Cond.instanceMethod yX4_itemOf, Cond.selects RX4 yX4_itemOf yX4_itemOf, Cond.initialized RX4, Cond.code yX4_itemOf cX4_itemOf 4 (some .int), Cond.methodLink RX4 33 yX4_thing, Cond.static yX4_thing, Cond.code yX4_thing cX4_thing 2 (some .int), Cond.methodLink RX4 29 yX4_refused, Cond.instanceMethod yX4_refused, Cond.selects RX4 yX4_refused yX4_refused, Cond.code yX4_refused cX4_refused 2 (some .boolean), Cond.fieldLink RX4 22 "LabelStationModel" "refusal" "I", Cond.methodLink RX4 44 yX4_saves, Cond.instanceMethod yX4_saves, Cond.selects RX4 yX4_saves yX4_saves, Cond.code yX4_saves cX4_saves 2 none, Cond.fieldLink RX4 26 "LabelStationModel" "saved" "I", Cond.fieldLink RX4 13 "LabelStationModel" "past" "[I", Cond.methodLink RX4 65 yX4_drops, Cond.instanceMethod yX4_drops, Cond.selects RX4 yX4_drops yX4_drops, Cond.code yX4_drops cX4_drops 6 none]
noncomputable def wsX4_take_r2 : List Cond := [Cond.methodLink RX4 51 yX4_counts, Cond.instanceMethod yX4_counts, Cond.selects RX4 yX4_counts yX4_counts, Cond.code yX4_counts cX4_counts 2 none]
noncomputable def wsX4_take : List Cond := .code yX4_take cX4_take 4 (some .int) :: ((wsX4_take_r1 ++ wsX4_take_r2) ++ wsX40)
noncomputable def wsX4_alarms : List Cond := .code yX4_alarms cX4_alarms 2 none :: ([.fieldLink RX4 7 "LabelStationModel" "now" "[I", .methodLink RX4 51 yX4_counts, .instanceMethod yX4_counts, .selects RX4 yX4_counts yX4_counts, .initialized RX4, .code yX4_counts cX4_counts 2 none] ++ wsX40)
noncomputable def wsX4_tells : List Cond := .code yX4_tells cX4_tells 6 none :: ([.fieldLink RX4 7 "LabelStationModel" "now" "[I", .methodLink RX4 73 yX4_recordOf, .instanceMethod yX4_recordOf, .selects RX4 yX4_recordOf yX4_recordOf, .initialized RX4, .code yX4_recordOf cX4_recordOf 4 (some .int), .methodLink RX4 37 yX4_entry, .static yX4_entry, .code yX4_entry cX4_entry 2 (some .int), .methodLink RX4 51 yX4_counts, .instanceMethod yX4_counts, .selects RX4 yX4_counts yX4_counts, .code yX4_counts cX4_counts 2 none] ++ wsX40)
noncomputable def wsX4_delivers : List Cond := .code yX4_delivers cX4_delivers 3 none :: ([.fieldLink RX4 7 "LabelStationModel" "now" "[I", .methodLink RX4 69 yX4_tells, .instanceMethod yX4_tells, .selects RX4 yX4_tells yX4_tells, .initialized RX4, .code yX4_tells cX4_tells 6 none, .methodLink RX4 73 yX4_recordOf, .instanceMethod yX4_recordOf, .selects RX4 yX4_recordOf yX4_recordOf, .code yX4_recordOf cX4_recordOf 4 (some .int), .methodLink RX4 37 yX4_entry, .static yX4_entry, .code yX4_entry cX4_entry 2 (some .int), .methodLink RX4 51 yX4_counts, .instanceMethod yX4_counts, .selects RX4 yX4_counts yX4_counts, .code yX4_counts cX4_counts 2 none, .methodLink RX4 65 yX4_drops, .instanceMethod yX4_drops, .selects RX4 yX4_drops yX4_drops, .code yX4_drops cX4_drops 6 none] ++ wsX40)
noncomputable def wsX4_arrives : List Cond := .code yX4_arrives cX4_arrives 3 none :: ([.fieldLink RX4 7 "LabelStationModel" "now" "[I", .methodLink RX4 65 yX4_drops, .instanceMethod yX4_drops, .selects RX4 yX4_drops yX4_drops, .initialized RX4, .code yX4_drops cX4_drops 6 none, .methodLink RX4 51 yX4_counts, .instanceMethod yX4_counts, .selects RX4 yX4_counts yX4_counts, .code yX4_counts cX4_counts 2 none, .methodLink RX4 76 yX4_alarms, .instanceMethod yX4_alarms, .selects RX4 yX4_alarms yX4_alarms, .code yX4_alarms cX4_alarms 2 none] ++ wsX40)
noncomputable def wsX4_itemAt : List Cond := .code yX4_itemAt cX4_itemAt 6 (some .int) :: ([.fieldLink RX4 7 "LabelStationModel" "now" "[I", .methodLink RX4 33 yX4_thing, .static yX4_thing, .initialized RX4, .code yX4_thing cX4_thing 2 (some .int)] ++ wsX40)
noncomputable def wsX4_labels : List Cond := .code yX4_labels cX4_labels 3 none :: ([.fieldLink RX4 7 "LabelStationModel" "now" "[I", .methodLink RX4 37 yX4_entry, .static yX4_entry, .initialized RX4, .code yX4_entry cX4_entry 2 (some .int), .methodLink RX4 79 yX4_itemAt, .instanceMethod yX4_itemAt, .selects RX4 yX4_itemAt yX4_itemAt, .code yX4_itemAt cX4_itemAt 6 (some .int), .methodLink RX4 33 yX4_thing, .static yX4_thing, .code yX4_thing cX4_thing 2 (some .int), .methodLink RX4 51 yX4_counts, .instanceMethod yX4_counts, .selects RX4 yX4_counts yX4_counts, .code yX4_counts cX4_counts 2 none] ++ wsX40)
noncomputable def wsX4_looks : List Cond := .code yX4_looks cX4_looks 6 none :: ([.fieldLink RX4 7 "LabelStationModel" "now" "[I", .methodLink RX4 37 yX4_entry, .static yX4_entry, .initialized RX4, .code yX4_entry cX4_entry 2 (some .int), .methodLink RX4 79 yX4_itemAt, .instanceMethod yX4_itemAt, .selects RX4 yX4_itemAt yX4_itemAt, .code yX4_itemAt cX4_itemAt 6 (some .int), .methodLink RX4 33 yX4_thing, .static yX4_thing, .code yX4_thing cX4_thing 2 (some .int)] ++ wsX40)
noncomputable def wsX4_leaves : List Cond := .code yX4_leaves cX4_leaves 3 none :: ([.fieldLink RX4 7 "LabelStationModel" "now" "[I", .methodLink RX4 37 yX4_entry, .static yX4_entry, .initialized RX4, .code yX4_entry cX4_entry 2 (some .int), .methodLink RX4 51 yX4_counts, .instanceMethod yX4_counts, .selects RX4 yX4_counts yX4_counts, .code yX4_counts cX4_counts 2 none, .methodLink RX4 65 yX4_drops, .instanceMethod yX4_drops, .selects RX4 yX4_drops yX4_drops, .code yX4_drops cX4_drops 6 none] ++ wsX40)
noncomputable def wsX4_gates_r1 : List Cond := [Cond.fieldLink RX4 7 "LabelStationModel" "now" "[I", Cond.methodLink RX4 37 yX4_entry, Cond.static yX4_entry, Cond.initialized RX4, Cond.code yX4_entry cX4_entry 2 (some .int), Cond.methodLink RX4 51 yX4_counts, Cond.instanceMethod yX4_counts, Cond.selects RX4 yX4_counts yX4_counts, Cond.code yX4_counts cX4_counts 2 none, Cond.methodLink RX4 82 yX4_leaves, Cond.instanceMethod yX4_leaves, Cond.selects RX4 yX4_leaves yX4_leaves, Cond.code yX4_leaves cX4_leaves 3 none, Cond.methodLink RX4 65 yX4_drops, Cond.instanceMethod yX4_drops, Cond.selects RX4 yX4_drops yX4_drops, Cond.code yX4_drops cX4_drops 6 none, Cond.methodLink RX4 79 yX4_itemAt, Cond.instanceMethod yX4_itemAt, Cond.selects RX4 yX4_itemAt yX4_itemAt, Cond.code yX4_itemAt cX4_itemAt 6 (some .int), Cond.methodLink RX4 33 yX4_thing, Cond.static yX4_thing, Cond.code yX4_thing cX4_thing 2 (some .int)]
noncomputable def wsX4_gates_r2 : List Cond := [Cond.methodLink RX4 76 yX4_alarms, Cond.instanceMethod yX4_alarms, Cond.selects RX4 yX4_alarms yX4_alarms, Cond.code yX4_alarms cX4_alarms 2 none]
noncomputable def wsX4_gates : List Cond := .code yX4_gates cX4_gates 5 (some .boolean) :: ((wsX4_gates_r1 ++ wsX4_gates_r2) ++ wsX40)
noncomputable def wsX4_acts_r1 : List Cond := [Cond.fieldLink RX4 7 "LabelStationModel" "now" "[I", Cond.methodLink RX4 37 yX4_entry, Cond.static yX4_entry, Cond.initialized RX4, Cond.code yX4_entry cX4_entry 2 (some .int), Cond.methodLink RX4 86 yX4_labels, Cond.instanceMethod yX4_labels, Cond.selects RX4 yX4_labels yX4_labels, Cond.code yX4_labels cX4_labels 3 none, Cond.methodLink RX4 79 yX4_itemAt, Cond.instanceMethod yX4_itemAt, Cond.selects RX4 yX4_itemAt yX4_itemAt, Cond.code yX4_itemAt cX4_itemAt 6 (some .int), Cond.methodLink RX4 33 yX4_thing, Cond.static yX4_thing, Cond.code yX4_thing cX4_thing 2 (some .int), Cond.methodLink RX4 51 yX4_counts, Cond.instanceMethod yX4_counts, Cond.selects RX4 yX4_counts yX4_counts, Cond.code yX4_counts cX4_counts 2 none, Cond.methodLink RX4 89 yX4_looks, Cond.instanceMethod yX4_looks, Cond.selects RX4 yX4_looks yX4_looks, Cond.code yX4_looks cX4_looks 6 none]
noncomputable def wsX4_acts_r2 : List Cond := [Cond.methodLink RX4 92 yX4_gates, Cond.instanceMethod yX4_gates, Cond.selects RX4 yX4_gates yX4_gates, Cond.code yX4_gates cX4_gates 5 (some .boolean), Cond.methodLink RX4 82 yX4_leaves, Cond.instanceMethod yX4_leaves, Cond.selects RX4 yX4_leaves yX4_leaves, Cond.code yX4_leaves cX4_leaves 3 none, Cond.methodLink RX4 65 yX4_drops, Cond.instanceMethod yX4_drops, Cond.selects RX4 yX4_drops yX4_drops, Cond.code yX4_drops cX4_drops 6 none, Cond.methodLink RX4 76 yX4_alarms, Cond.instanceMethod yX4_alarms, Cond.selects RX4 yX4_alarms yX4_alarms, Cond.code yX4_alarms cX4_alarms 2 none]
noncomputable def wsX4_acts : List Cond := .code yX4_acts cX4_acts 3 (some .boolean) :: ((wsX4_acts_r1 ++ wsX4_acts_r2) ++ wsX40)
noncomputable def wsX4_exits : List Cond := .code yX4_exits cX4_exits 5 none :: ([.fieldLink RX4 7 "LabelStationModel" "now" "[I", .methodLink RX4 51 yX4_counts, .instanceMethod yX4_counts, .selects RX4 yX4_counts yX4_counts, .initialized RX4, .code yX4_counts cX4_counts 2 none, .methodLink RX4 37 yX4_entry, .static yX4_entry, .code yX4_entry cX4_entry 2 (some .int), .methodLink RX4 76 yX4_alarms, .instanceMethod yX4_alarms, .selects RX4 yX4_alarms yX4_alarms, .code yX4_alarms cX4_alarms 2 none] ++ wsX40)
noncomputable def wsX4_pulses_r1 : List Cond := [Cond.fieldLink RX4 7 "LabelStationModel" "now" "[I", Cond.methodLink RX4 33 yX4_thing, Cond.static yX4_thing, Cond.initialized RX4, Cond.code yX4_thing cX4_thing 2 (some .int), Cond.methodLink RX4 37 yX4_entry, Cond.static yX4_entry, Cond.code yX4_entry cX4_entry 2 (some .int), Cond.methodLink RX4 95 yX4_acts, Cond.instanceMethod yX4_acts, Cond.selects RX4 yX4_acts yX4_acts, Cond.code yX4_acts cX4_acts 3 (some .boolean), Cond.methodLink RX4 86 yX4_labels, Cond.instanceMethod yX4_labels, Cond.selects RX4 yX4_labels yX4_labels, Cond.code yX4_labels cX4_labels 3 none, Cond.methodLink RX4 79 yX4_itemAt, Cond.instanceMethod yX4_itemAt, Cond.selects RX4 yX4_itemAt yX4_itemAt, Cond.code yX4_itemAt cX4_itemAt 6 (some .int), Cond.methodLink RX4 51 yX4_counts, Cond.instanceMethod yX4_counts, Cond.selects RX4 yX4_counts yX4_counts, Cond.code yX4_counts cX4_counts 2 none]
noncomputable def wsX4_pulses_r2 : List Cond := [Cond.methodLink RX4 89 yX4_looks, Cond.instanceMethod yX4_looks, Cond.selects RX4 yX4_looks yX4_looks, Cond.code yX4_looks cX4_looks 6 none, Cond.methodLink RX4 92 yX4_gates, Cond.instanceMethod yX4_gates, Cond.selects RX4 yX4_gates yX4_gates, Cond.code yX4_gates cX4_gates 5 (some .boolean), Cond.methodLink RX4 82 yX4_leaves, Cond.instanceMethod yX4_leaves, Cond.selects RX4 yX4_leaves yX4_leaves, Cond.code yX4_leaves cX4_leaves 3 none, Cond.methodLink RX4 65 yX4_drops, Cond.instanceMethod yX4_drops, Cond.selects RX4 yX4_drops yX4_drops, Cond.code yX4_drops cX4_drops 6 none, Cond.methodLink RX4 76 yX4_alarms, Cond.instanceMethod yX4_alarms, Cond.selects RX4 yX4_alarms yX4_alarms, Cond.code yX4_alarms cX4_alarms 2 none, Cond.methodLink RX4 98 yX4_exits, Cond.instanceMethod yX4_exits, Cond.selects RX4 yX4_exits yX4_exits, Cond.code yX4_exits cX4_exits 5 none]
noncomputable def wsX4_pulses : List Cond := .code yX4_pulses cX4_pulses 3 none :: ((wsX4_pulses_r1 ++ wsX4_pulses_r2) ++ wsX40)
noncomputable def wsX4_tickOn_r1 : List Cond := [Cond.fieldLink RX4 7 "LabelStationModel" "now" "[I", Cond.methodLink RX4 101 yX4_delivers, Cond.instanceMethod yX4_delivers, Cond.selects RX4 yX4_delivers yX4_delivers, Cond.initialized RX4, Cond.code yX4_delivers cX4_delivers 3 none, Cond.methodLink RX4 69 yX4_tells, Cond.instanceMethod yX4_tells, Cond.selects RX4 yX4_tells yX4_tells, Cond.code yX4_tells cX4_tells 6 none, Cond.methodLink RX4 73 yX4_recordOf, Cond.instanceMethod yX4_recordOf, Cond.selects RX4 yX4_recordOf yX4_recordOf, Cond.code yX4_recordOf cX4_recordOf 4 (some .int), Cond.methodLink RX4 37 yX4_entry, Cond.static yX4_entry, Cond.code yX4_entry cX4_entry 2 (some .int), Cond.methodLink RX4 51 yX4_counts, Cond.instanceMethod yX4_counts, Cond.selects RX4 yX4_counts yX4_counts, Cond.code yX4_counts cX4_counts 2 none, Cond.methodLink RX4 65 yX4_drops, Cond.instanceMethod yX4_drops, Cond.selects RX4 yX4_drops yX4_drops]
noncomputable def wsX4_tickOn_r2 : List Cond := [Cond.code yX4_drops cX4_drops 6 none, Cond.methodLink RX4 104 yX4_arrives, Cond.instanceMethod yX4_arrives, Cond.selects RX4 yX4_arrives yX4_arrives, Cond.code yX4_arrives cX4_arrives 3 none, Cond.methodLink RX4 76 yX4_alarms, Cond.instanceMethod yX4_alarms, Cond.selects RX4 yX4_alarms yX4_alarms, Cond.code yX4_alarms cX4_alarms 2 none, Cond.methodLink RX4 107 yX4_pulses, Cond.instanceMethod yX4_pulses, Cond.selects RX4 yX4_pulses yX4_pulses, Cond.code yX4_pulses cX4_pulses 3 none, Cond.methodLink RX4 33 yX4_thing, Cond.static yX4_thing, Cond.code yX4_thing cX4_thing 2 (some .int), Cond.methodLink RX4 95 yX4_acts, Cond.instanceMethod yX4_acts, Cond.selects RX4 yX4_acts yX4_acts, Cond.code yX4_acts cX4_acts 3 (some .boolean), Cond.methodLink RX4 86 yX4_labels, Cond.instanceMethod yX4_labels, Cond.selects RX4 yX4_labels yX4_labels, Cond.code yX4_labels cX4_labels 3 none]
noncomputable def wsX4_tickOn_r3 : List Cond := [Cond.methodLink RX4 79 yX4_itemAt, Cond.instanceMethod yX4_itemAt, Cond.selects RX4 yX4_itemAt yX4_itemAt, Cond.code yX4_itemAt cX4_itemAt 6 (some .int), Cond.methodLink RX4 89 yX4_looks, Cond.instanceMethod yX4_looks, Cond.selects RX4 yX4_looks yX4_looks, Cond.code yX4_looks cX4_looks 6 none, Cond.methodLink RX4 92 yX4_gates, Cond.instanceMethod yX4_gates, Cond.selects RX4 yX4_gates yX4_gates, Cond.code yX4_gates cX4_gates 5 (some .boolean), Cond.methodLink RX4 82 yX4_leaves, Cond.instanceMethod yX4_leaves, Cond.selects RX4 yX4_leaves yX4_leaves, Cond.code yX4_leaves cX4_leaves 3 none, Cond.methodLink RX4 98 yX4_exits, Cond.instanceMethod yX4_exits, Cond.selects RX4 yX4_exits yX4_exits, Cond.code yX4_exits cX4_exits 5 none]
noncomputable def wsX4_tickOn : List Cond := .code yX4_tickOn cX4_tickOn 2 none :: ((wsX4_tickOn_r1 ++ (wsX4_tickOn_r2 ++ wsX4_tickOn_r3)) ++ wsX40)
noncomputable def wsX4_runs_r1 : List Cond := [Cond.fieldLink RX4 7 "LabelStationModel" "now" "[I", Cond.methodLink RX4 110 yX4_tickOn, Cond.instanceMethod yX4_tickOn, Cond.selects RX4 yX4_tickOn yX4_tickOn, Cond.initialized RX4, Cond.code yX4_tickOn cX4_tickOn 2 none, Cond.methodLink RX4 101 yX4_delivers, Cond.instanceMethod yX4_delivers, Cond.selects RX4 yX4_delivers yX4_delivers, Cond.code yX4_delivers cX4_delivers 3 none, Cond.methodLink RX4 69 yX4_tells, Cond.instanceMethod yX4_tells, Cond.selects RX4 yX4_tells yX4_tells, Cond.code yX4_tells cX4_tells 6 none, Cond.methodLink RX4 73 yX4_recordOf, Cond.instanceMethod yX4_recordOf, Cond.selects RX4 yX4_recordOf yX4_recordOf, Cond.code yX4_recordOf cX4_recordOf 4 (some .int), Cond.methodLink RX4 37 yX4_entry, Cond.static yX4_entry, Cond.code yX4_entry cX4_entry 2 (some .int), Cond.methodLink RX4 51 yX4_counts, Cond.instanceMethod yX4_counts, Cond.selects RX4 yX4_counts yX4_counts]
noncomputable def wsX4_runs_r2 : List Cond := [Cond.code yX4_counts cX4_counts 2 none, Cond.methodLink RX4 65 yX4_drops, Cond.instanceMethod yX4_drops, Cond.selects RX4 yX4_drops yX4_drops, Cond.code yX4_drops cX4_drops 6 none, Cond.methodLink RX4 104 yX4_arrives, Cond.instanceMethod yX4_arrives, Cond.selects RX4 yX4_arrives yX4_arrives, Cond.code yX4_arrives cX4_arrives 3 none, Cond.methodLink RX4 76 yX4_alarms, Cond.instanceMethod yX4_alarms, Cond.selects RX4 yX4_alarms yX4_alarms, Cond.code yX4_alarms cX4_alarms 2 none, Cond.methodLink RX4 107 yX4_pulses, Cond.instanceMethod yX4_pulses, Cond.selects RX4 yX4_pulses yX4_pulses, Cond.code yX4_pulses cX4_pulses 3 none, Cond.methodLink RX4 33 yX4_thing, Cond.static yX4_thing, Cond.code yX4_thing cX4_thing 2 (some .int), Cond.methodLink RX4 95 yX4_acts, Cond.instanceMethod yX4_acts, Cond.selects RX4 yX4_acts yX4_acts, Cond.code yX4_acts cX4_acts 3 (some .boolean)]
noncomputable def wsX4_runs_r3 : List Cond := [Cond.methodLink RX4 86 yX4_labels, Cond.instanceMethod yX4_labels, Cond.selects RX4 yX4_labels yX4_labels, Cond.code yX4_labels cX4_labels 3 none, Cond.methodLink RX4 79 yX4_itemAt, Cond.instanceMethod yX4_itemAt, Cond.selects RX4 yX4_itemAt yX4_itemAt, Cond.code yX4_itemAt cX4_itemAt 6 (some .int), Cond.methodLink RX4 89 yX4_looks, Cond.instanceMethod yX4_looks, Cond.selects RX4 yX4_looks yX4_looks, Cond.code yX4_looks cX4_looks 6 none, Cond.methodLink RX4 92 yX4_gates, Cond.instanceMethod yX4_gates, Cond.selects RX4 yX4_gates yX4_gates, Cond.code yX4_gates cX4_gates 5 (some .boolean), Cond.methodLink RX4 82 yX4_leaves, Cond.instanceMethod yX4_leaves, Cond.selects RX4 yX4_leaves yX4_leaves, Cond.code yX4_leaves cX4_leaves 3 none, Cond.methodLink RX4 98 yX4_exits, Cond.instanceMethod yX4_exits, Cond.selects RX4 yX4_exits yX4_exits, Cond.code yX4_exits cX4_exits 5 none]
noncomputable def wsX4_runs : List Cond := .code yX4_runs cX4_runs 3 (some .int) :: ((wsX4_runs_r1 ++ (wsX4_runs_r2 ++ wsX4_runs_r3)) ++ wsX40)
noncomputable def wsX4_run_r1 : List Cond := [Cond.methodLink RX4 40 yX4_within, Cond.static yX4_within, Cond.initialized RX4, Cond.code yX4_within cX4_within 3 (some .boolean), Cond.methodLink RX4 29 yX4_refused, Cond.instanceMethod yX4_refused, Cond.selects RX4 yX4_refused yX4_refused, Cond.code yX4_refused cX4_refused 2 (some .boolean), Cond.fieldLink RX4 22 "LabelStationModel" "refusal" "I", Cond.methodLink RX4 44 yX4_saves, Cond.instanceMethod yX4_saves, Cond.selects RX4 yX4_saves yX4_saves, Cond.code yX4_saves cX4_saves 2 none, Cond.fieldLink RX4 26 "LabelStationModel" "saved" "I", Cond.fieldLink RX4 13 "LabelStationModel" "past" "[I", Cond.fieldLink RX4 7 "LabelStationModel" "now" "[I", Cond.methodLink RX4 113 yX4_runs, Cond.instanceMethod yX4_runs, Cond.selects RX4 yX4_runs yX4_runs, Cond.code yX4_runs cX4_runs 3 (some .int), Cond.methodLink RX4 110 yX4_tickOn, Cond.instanceMethod yX4_tickOn, Cond.selects RX4 yX4_tickOn yX4_tickOn, Cond.code yX4_tickOn cX4_tickOn 2 none]
noncomputable def wsX4_run_r2 : List Cond := [Cond.methodLink RX4 101 yX4_delivers, Cond.instanceMethod yX4_delivers, Cond.selects RX4 yX4_delivers yX4_delivers, Cond.code yX4_delivers cX4_delivers 3 none, Cond.methodLink RX4 69 yX4_tells, Cond.instanceMethod yX4_tells, Cond.selects RX4 yX4_tells yX4_tells, Cond.code yX4_tells cX4_tells 6 none, Cond.methodLink RX4 73 yX4_recordOf, Cond.instanceMethod yX4_recordOf, Cond.selects RX4 yX4_recordOf yX4_recordOf, Cond.code yX4_recordOf cX4_recordOf 4 (some .int), Cond.methodLink RX4 37 yX4_entry, Cond.static yX4_entry, Cond.code yX4_entry cX4_entry 2 (some .int), Cond.methodLink RX4 51 yX4_counts, Cond.instanceMethod yX4_counts, Cond.selects RX4 yX4_counts yX4_counts, Cond.code yX4_counts cX4_counts 2 none, Cond.methodLink RX4 65 yX4_drops, Cond.instanceMethod yX4_drops, Cond.selects RX4 yX4_drops yX4_drops, Cond.code yX4_drops cX4_drops 6 none, Cond.methodLink RX4 104 yX4_arrives]
noncomputable def wsX4_run_r3 : List Cond := [Cond.instanceMethod yX4_arrives, Cond.selects RX4 yX4_arrives yX4_arrives, Cond.code yX4_arrives cX4_arrives 3 none, Cond.methodLink RX4 76 yX4_alarms, Cond.instanceMethod yX4_alarms, Cond.selects RX4 yX4_alarms yX4_alarms, Cond.code yX4_alarms cX4_alarms 2 none, Cond.methodLink RX4 107 yX4_pulses, Cond.instanceMethod yX4_pulses, Cond.selects RX4 yX4_pulses yX4_pulses, Cond.code yX4_pulses cX4_pulses 3 none, Cond.methodLink RX4 33 yX4_thing, Cond.static yX4_thing, Cond.code yX4_thing cX4_thing 2 (some .int), Cond.methodLink RX4 95 yX4_acts, Cond.instanceMethod yX4_acts, Cond.selects RX4 yX4_acts yX4_acts, Cond.code yX4_acts cX4_acts 3 (some .boolean), Cond.methodLink RX4 86 yX4_labels, Cond.instanceMethod yX4_labels, Cond.selects RX4 yX4_labels yX4_labels, Cond.code yX4_labels cX4_labels 3 none, Cond.methodLink RX4 79 yX4_itemAt, Cond.instanceMethod yX4_itemAt]
noncomputable def wsX4_run_r4 : List Cond := [Cond.selects RX4 yX4_itemAt yX4_itemAt, Cond.code yX4_itemAt cX4_itemAt 6 (some .int), Cond.methodLink RX4 89 yX4_looks, Cond.instanceMethod yX4_looks, Cond.selects RX4 yX4_looks yX4_looks, Cond.code yX4_looks cX4_looks 6 none, Cond.methodLink RX4 92 yX4_gates, Cond.instanceMethod yX4_gates, Cond.selects RX4 yX4_gates yX4_gates, Cond.code yX4_gates cX4_gates 5 (some .boolean), Cond.methodLink RX4 82 yX4_leaves, Cond.instanceMethod yX4_leaves, Cond.selects RX4 yX4_leaves yX4_leaves, Cond.code yX4_leaves cX4_leaves 3 none, Cond.methodLink RX4 98 yX4_exits, Cond.instanceMethod yX4_exits, Cond.selects RX4 yX4_exits yX4_exits, Cond.code yX4_exits cX4_exits 5 none]
noncomputable def wsX4_run : List Cond := .code yX4_run cX4_run 2 (some .int) :: ((wsX4_run_r1 ++ (wsX4_run_r2 ++ (wsX4_run_r3 ++ wsX4_run_r4))) ++ wsX40)
noncomputable def wsX4_tellStatus : List Cond := .code yX4_tellStatus cX4_tellStatus 2 (some .int) :: ([.fieldLink RX4 7 "LabelStationModel" "now" "[I"] ++ wsX40)
noncomputable def wsX4_status : List Cond := .code yX4_status cX4_status 2 (some .int) :: ([.methodLink RX4 40 yX4_within, .static yX4_within, .initialized RX4, .code yX4_within cX4_within 3 (some .boolean), .methodLink RX4 29 yX4_refused, .instanceMethod yX4_refused, .selects RX4 yX4_refused yX4_refused, .code yX4_refused cX4_refused 2 (some .boolean), .fieldLink RX4 22 "LabelStationModel" "refusal" "I", .methodLink RX4 116 yX4_tellStatus, .instanceMethod yX4_tellStatus, .selects RX4 yX4_tellStatus yX4_tellStatus, .code yX4_tellStatus cX4_tellStatus 2 (some .int), .fieldLink RX4 7 "LabelStationModel" "now" "[I"] ++ wsX40)
noncomputable def wsX4_item : List Cond := .code yX4_item cX4_item 4 (some .int) :: ([.fieldLink RX4 7 "LabelStationModel" "now" "[I", .methodLink RX4 62 yX4_itemOf, .instanceMethod yX4_itemOf, .selects RX4 yX4_itemOf yX4_itemOf, .initialized RX4, .code yX4_itemOf cX4_itemOf 4 (some .int), .methodLink RX4 33 yX4_thing, .static yX4_thing, .code yX4_thing cX4_thing 2 (some .int), .methodLink RX4 40 yX4_within, .static yX4_within, .code yX4_within cX4_within 3 (some .boolean), .methodLink RX4 29 yX4_refused, .instanceMethod yX4_refused, .selects RX4 yX4_refused yX4_refused, .code yX4_refused cX4_refused 2 (some .boolean), .fieldLink RX4 22 "LabelStationModel" "refusal" "I"] ++ wsX40)
noncomputable def wsX4_record : List Cond := .code yX4_record cX4_record 4 (some .int) :: ([.fieldLink RX4 7 "LabelStationModel" "now" "[I", .methodLink RX4 73 yX4_recordOf, .instanceMethod yX4_recordOf, .selects RX4 yX4_recordOf yX4_recordOf, .initialized RX4, .code yX4_recordOf cX4_recordOf 4 (some .int), .methodLink RX4 37 yX4_entry, .static yX4_entry, .code yX4_entry cX4_entry 2 (some .int), .methodLink RX4 40 yX4_within, .static yX4_within, .code yX4_within cX4_within 3 (some .boolean), .methodLink RX4 29 yX4_refused, .instanceMethod yX4_refused, .selects RX4 yX4_refused yX4_refused, .code yX4_refused cX4_refused 2 (some .boolean), .fieldLink RX4 22 "LabelStationModel" "refusal" "I"] ++ wsX40)
noncomputable def wsX4_numberAt : List Cond := .code yX4_numberAt cX4_numberAt 4 (some .int) :: ([.fieldLink RX4 7 "LabelStationModel" "now" "[I", .methodLink RX4 40 yX4_within, .static yX4_within, .initialized RX4, .code yX4_within cX4_within 3 (some .boolean), .methodLink RX4 29 yX4_refused, .instanceMethod yX4_refused, .selects RX4 yX4_refused yX4_refused, .code yX4_refused cX4_refused 2 (some .boolean), .fieldLink RX4 22 "LabelStationModel" "refusal" "I", .methodLink RX4 37 yX4_entry, .static yX4_entry, .code yX4_entry cX4_entry 2 (some .int), .methodLink RX4 33 yX4_thing, .static yX4_thing, .code yX4_thing cX4_thing 2 (some .int)] ++ wsX40)
noncomputable def wsX4_counter : List Cond := .code yX4_counter cX4_counter 2 (some .int) :: ([.fieldLink RX4 7 "LabelStationModel" "now" "[I", .methodLink RX4 40 yX4_within, .static yX4_within, .initialized RX4, .code yX4_within cX4_within 3 (some .boolean), .methodLink RX4 29 yX4_refused, .instanceMethod yX4_refused, .selects RX4 yX4_refused yX4_refused, .code yX4_refused cX4_refused 2 (some .boolean), .fieldLink RX4 22 "LabelStationModel" "refusal" "I"] ++ wsX40)
noncomputable def wsX4_reconcile : List Cond := .code yX4_reconcile cX4_reconcile 3 (some .int) :: ([.fieldLink RX4 22 "LabelStationModel" "refusal" "I", .fieldLink RX4 7 "LabelStationModel" "now" "[I"] ++ wsX40)
noncomputable def wsX4_goodShare : List Cond := .code yX4_goodShare cX4_goodShare 2 (some .double) :: ([.fieldLink RX4 22 "LabelStationModel" "refusal" "I", .fieldLink RX4 7 "LabelStationModel" "now" "[I"] ++ wsX40)
noncomputable def wsX4_spareOf : List Cond := .code yX4_spareOf cX4_spareOf 2 (some .int) :: ([.fieldLink RX4 7 "LabelStationModel" "now" "[I"] ++ wsX40)
noncomputable def wsX4_spare : List Cond := .code yX4_spare cX4_spare 2 (some .int) :: ([.methodLink RX4 40 yX4_within, .static yX4_within, .initialized RX4, .code yX4_within cX4_within 3 (some .boolean), .methodLink RX4 29 yX4_refused, .instanceMethod yX4_refused, .selects RX4 yX4_refused yX4_refused, .code yX4_refused cX4_refused 2 (some .boolean), .fieldLink RX4 22 "LabelStationModel" "refusal" "I", .methodLink RX4 119 yX4_spareOf, .instanceMethod yX4_spareOf, .selects RX4 yX4_spareOf yX4_spareOf, .code yX4_spareOf cX4_spareOf 2 (some .int), .fieldLink RX4 7 "LabelStationModel" "now" "[I"] ++ wsX40)
noncomputable def wsX4_fastest : List Cond := .code yX4_fastest cX4_fastest 3 (some .int) :: ([.fieldLink RX4 22 "LabelStationModel" "refusal" "I", .methodLink RX4 119 yX4_spareOf, .instanceMethod yX4_spareOf, .selects RX4 yX4_spareOf yX4_spareOf, .initialized RX4, .code yX4_spareOf cX4_spareOf 2 (some .int), .fieldLink RX4 7 "LabelStationModel" "now" "[I"] ++ wsX40)
noncomputable def wsX4_fate_r1 : List Cond := [Cond.fieldLink RX4 7 "LabelStationModel" "now" "[I", Cond.methodLink RX4 73 yX4_recordOf, Cond.instanceMethod yX4_recordOf, Cond.selects RX4 yX4_recordOf yX4_recordOf, Cond.initialized RX4, Cond.code yX4_recordOf cX4_recordOf 4 (some .int), Cond.methodLink RX4 37 yX4_entry, Cond.static yX4_entry, Cond.code yX4_entry cX4_entry 2 (some .int), Cond.methodLink RX4 29 yX4_refused, Cond.instanceMethod yX4_refused, Cond.selects RX4 yX4_refused yX4_refused, Cond.code yX4_refused cX4_refused 2 (some .boolean), Cond.fieldLink RX4 22 "LabelStationModel" "refusal" "I", Cond.methodLink RX4 122 yX4_laysAside, Cond.instanceMethod yX4_laysAside, Cond.selects RX4 yX4_laysAside yX4_laysAside, Cond.code yX4_laysAside cX4_laysAside 2 none, Cond.fieldLink RX4 16 "LabelStationModel" "aside" "[I", Cond.methodLink RX4 110 yX4_tickOn, Cond.instanceMethod yX4_tickOn, Cond.selects RX4 yX4_tickOn yX4_tickOn, Cond.code yX4_tickOn cX4_tickOn 2 none, Cond.methodLink RX4 101 yX4_delivers]
noncomputable def wsX4_fate_r2 : List Cond := [Cond.instanceMethod yX4_delivers, Cond.selects RX4 yX4_delivers yX4_delivers, Cond.code yX4_delivers cX4_delivers 3 none, Cond.methodLink RX4 69 yX4_tells, Cond.instanceMethod yX4_tells, Cond.selects RX4 yX4_tells yX4_tells, Cond.code yX4_tells cX4_tells 6 none, Cond.methodLink RX4 51 yX4_counts, Cond.instanceMethod yX4_counts, Cond.selects RX4 yX4_counts yX4_counts, Cond.code yX4_counts cX4_counts 2 none, Cond.methodLink RX4 65 yX4_drops, Cond.instanceMethod yX4_drops, Cond.selects RX4 yX4_drops yX4_drops, Cond.code yX4_drops cX4_drops 6 none, Cond.methodLink RX4 104 yX4_arrives, Cond.instanceMethod yX4_arrives, Cond.selects RX4 yX4_arrives yX4_arrives, Cond.code yX4_arrives cX4_arrives 3 none, Cond.methodLink RX4 76 yX4_alarms, Cond.instanceMethod yX4_alarms, Cond.selects RX4 yX4_alarms yX4_alarms, Cond.code yX4_alarms cX4_alarms 2 none, Cond.methodLink RX4 107 yX4_pulses]
noncomputable def wsX4_fate_r3 : List Cond := [Cond.instanceMethod yX4_pulses, Cond.selects RX4 yX4_pulses yX4_pulses, Cond.code yX4_pulses cX4_pulses 3 none, Cond.methodLink RX4 33 yX4_thing, Cond.static yX4_thing, Cond.code yX4_thing cX4_thing 2 (some .int), Cond.methodLink RX4 95 yX4_acts, Cond.instanceMethod yX4_acts, Cond.selects RX4 yX4_acts yX4_acts, Cond.code yX4_acts cX4_acts 3 (some .boolean), Cond.methodLink RX4 86 yX4_labels, Cond.instanceMethod yX4_labels, Cond.selects RX4 yX4_labels yX4_labels, Cond.code yX4_labels cX4_labels 3 none, Cond.methodLink RX4 79 yX4_itemAt, Cond.instanceMethod yX4_itemAt, Cond.selects RX4 yX4_itemAt yX4_itemAt, Cond.code yX4_itemAt cX4_itemAt 6 (some .int), Cond.methodLink RX4 89 yX4_looks, Cond.instanceMethod yX4_looks, Cond.selects RX4 yX4_looks yX4_looks, Cond.code yX4_looks cX4_looks 6 none, Cond.methodLink RX4 92 yX4_gates, Cond.instanceMethod yX4_gates]
noncomputable def wsX4_fate_r4 : List Cond := [Cond.selects RX4 yX4_gates yX4_gates, Cond.code yX4_gates cX4_gates 5 (some .boolean), Cond.methodLink RX4 82 yX4_leaves, Cond.instanceMethod yX4_leaves, Cond.selects RX4 yX4_leaves yX4_leaves, Cond.code yX4_leaves cX4_leaves 3 none, Cond.methodLink RX4 98 yX4_exits, Cond.instanceMethod yX4_exits, Cond.selects RX4 yX4_exits yX4_exits, Cond.code yX4_exits cX4_exits 5 none, Cond.methodLink RX4 125 yX4_takesBack, Cond.instanceMethod yX4_takesBack, Cond.selects RX4 yX4_takesBack yX4_takesBack, Cond.code yX4_takesBack cX4_takesBack 2 none]
noncomputable def wsX4_fate : List Cond := .code yX4_fate cX4_fate 3 (some .int) :: ((wsX4_fate_r1 ++ (wsX4_fate_r2 ++ (wsX4_fate_r3 ++ wsX4_fate_r4))) ++ wsX40)
noncomputable def wsX4_append : List Cond := .code yX4_append cX4_append 2 (some .int) :: ([.fieldLink RX4 128 "LabelStationModel" "length" "I", .fieldLink RX4 19 "LabelStationModel" "text" "[I", .methodLink RX4 40 yX4_within, .static yX4_within, .initialized RX4, .code yX4_within cX4_within 3 (some .boolean), .methodLink RX4 29 yX4_refused, .instanceMethod yX4_refused, .selects RX4 yX4_refused yX4_refused, .code yX4_refused cX4_refused 2 (some .boolean), .fieldLink RX4 22 "LabelStationModel" "refusal" "I"] ++ wsX40)
noncomputable def wsX4_clearText : List Cond := .code yX4_clearText cX4_clearText 2 (some .int) :: ([.fieldLink RX4 22 "LabelStationModel" "refusal" "I", .fieldLink RX4 128 "LabelStationModel" "length" "I"] ++ wsX40)
noncomputable def wsX4_does_r1 : List Cond := [Cond.methodLink RX4 113 yX4_runs, Cond.instanceMethod yX4_runs, Cond.selects RX4 yX4_runs yX4_runs, Cond.initialized RX4, Cond.code yX4_runs cX4_runs 3 (some .int), Cond.fieldLink RX4 7 "LabelStationModel" "now" "[I", Cond.methodLink RX4 110 yX4_tickOn, Cond.instanceMethod yX4_tickOn, Cond.selects RX4 yX4_tickOn yX4_tickOn, Cond.code yX4_tickOn cX4_tickOn 2 none, Cond.methodLink RX4 101 yX4_delivers, Cond.instanceMethod yX4_delivers, Cond.selects RX4 yX4_delivers yX4_delivers, Cond.code yX4_delivers cX4_delivers 3 none, Cond.methodLink RX4 69 yX4_tells, Cond.instanceMethod yX4_tells, Cond.selects RX4 yX4_tells yX4_tells, Cond.code yX4_tells cX4_tells 6 none, Cond.methodLink RX4 73 yX4_recordOf, Cond.instanceMethod yX4_recordOf, Cond.selects RX4 yX4_recordOf yX4_recordOf, Cond.code yX4_recordOf cX4_recordOf 4 (some .int), Cond.methodLink RX4 37 yX4_entry, Cond.static yX4_entry]
noncomputable def wsX4_does_r2 : List Cond := [Cond.code yX4_entry cX4_entry 2 (some .int), Cond.methodLink RX4 51 yX4_counts, Cond.instanceMethod yX4_counts, Cond.selects RX4 yX4_counts yX4_counts, Cond.code yX4_counts cX4_counts 2 none, Cond.methodLink RX4 65 yX4_drops, Cond.instanceMethod yX4_drops, Cond.selects RX4 yX4_drops yX4_drops, Cond.code yX4_drops cX4_drops 6 none, Cond.methodLink RX4 104 yX4_arrives, Cond.instanceMethod yX4_arrives, Cond.selects RX4 yX4_arrives yX4_arrives, Cond.code yX4_arrives cX4_arrives 3 none, Cond.methodLink RX4 76 yX4_alarms, Cond.instanceMethod yX4_alarms, Cond.selects RX4 yX4_alarms yX4_alarms, Cond.code yX4_alarms cX4_alarms 2 none, Cond.methodLink RX4 107 yX4_pulses, Cond.instanceMethod yX4_pulses, Cond.selects RX4 yX4_pulses yX4_pulses, Cond.code yX4_pulses cX4_pulses 3 none, Cond.methodLink RX4 33 yX4_thing, Cond.static yX4_thing, Cond.code yX4_thing cX4_thing 2 (some .int)]
noncomputable def wsX4_does_r3 : List Cond := [Cond.methodLink RX4 95 yX4_acts, Cond.instanceMethod yX4_acts, Cond.selects RX4 yX4_acts yX4_acts, Cond.code yX4_acts cX4_acts 3 (some .boolean), Cond.methodLink RX4 86 yX4_labels, Cond.instanceMethod yX4_labels, Cond.selects RX4 yX4_labels yX4_labels, Cond.code yX4_labels cX4_labels 3 none, Cond.methodLink RX4 79 yX4_itemAt, Cond.instanceMethod yX4_itemAt, Cond.selects RX4 yX4_itemAt yX4_itemAt, Cond.code yX4_itemAt cX4_itemAt 6 (some .int), Cond.methodLink RX4 89 yX4_looks, Cond.instanceMethod yX4_looks, Cond.selects RX4 yX4_looks yX4_looks, Cond.code yX4_looks cX4_looks 6 none, Cond.methodLink RX4 92 yX4_gates, Cond.instanceMethod yX4_gates, Cond.selects RX4 yX4_gates yX4_gates, Cond.code yX4_gates cX4_gates 5 (some .boolean), Cond.methodLink RX4 82 yX4_leaves, Cond.instanceMethod yX4_leaves, Cond.selects RX4 yX4_leaves yX4_leaves, Cond.code yX4_leaves cX4_leaves 3 none]
noncomputable def wsX4_does_r4 : List Cond := [Cond.methodLink RX4 98 yX4_exits, Cond.instanceMethod yX4_exits, Cond.selects RX4 yX4_exits yX4_exits, Cond.code yX4_exits cX4_exits 5 none, Cond.methodLink RX4 55 yX4_barFeed, Cond.instanceMethod yX4_barFeed, Cond.selects RX4 yX4_barFeed yX4_barFeed, Cond.code yX4_barFeed cX4_barFeed 4 (some .int), Cond.methodLink RX4 40 yX4_within, Cond.static yX4_within, Cond.code yX4_within cX4_within 3 (some .boolean), Cond.methodLink RX4 59 yX4_feeds, Cond.instanceMethod yX4_feeds, Cond.selects RX4 yX4_feeds yX4_feeds, Cond.code yX4_feeds cX4_feeds 6 (some .int)]
noncomputable def wsX4_does : List Cond := .code yX4_does cX4_does 2 (some .boolean) :: ((wsX4_does_r1 ++ (wsX4_does_r2 ++ (wsX4_does_r3 ++ wsX4_does_r4))) ++ wsX40)
noncomputable def wsX4_carryOut_r1 : List Cond := [Cond.fieldLink RX4 22 "LabelStationModel" "refusal" "I", Cond.fieldLink RX4 128 "LabelStationModel" "length" "I", Cond.fieldLink RX4 19 "LabelStationModel" "text" "[I", Cond.fieldLink RX4 7 "LabelStationModel" "now" "[I", Cond.fieldLink RX4 16 "LabelStationModel" "aside" "[I", Cond.methodLink RX4 40 yX4_within, Cond.static yX4_within, Cond.initialized RX4, Cond.code yX4_within cX4_within 3 (some .boolean), Cond.methodLink RX4 122 yX4_laysAside, Cond.instanceMethod yX4_laysAside, Cond.selects RX4 yX4_laysAside yX4_laysAside, Cond.code yX4_laysAside cX4_laysAside 2 none, Cond.methodLink RX4 131 yX4_does, Cond.instanceMethod yX4_does, Cond.selects RX4 yX4_does yX4_does, Cond.code yX4_does cX4_does 2 (some .boolean), Cond.methodLink RX4 113 yX4_runs, Cond.instanceMethod yX4_runs, Cond.selects RX4 yX4_runs yX4_runs, Cond.code yX4_runs cX4_runs 3 (some .int), Cond.methodLink RX4 110 yX4_tickOn, Cond.instanceMethod yX4_tickOn, Cond.selects RX4 yX4_tickOn yX4_tickOn]
noncomputable def wsX4_carryOut_r2 : List Cond := [Cond.code yX4_tickOn cX4_tickOn 2 none, Cond.methodLink RX4 101 yX4_delivers, Cond.instanceMethod yX4_delivers, Cond.selects RX4 yX4_delivers yX4_delivers, Cond.code yX4_delivers cX4_delivers 3 none, Cond.methodLink RX4 69 yX4_tells, Cond.instanceMethod yX4_tells, Cond.selects RX4 yX4_tells yX4_tells, Cond.code yX4_tells cX4_tells 6 none, Cond.methodLink RX4 73 yX4_recordOf, Cond.instanceMethod yX4_recordOf, Cond.selects RX4 yX4_recordOf yX4_recordOf, Cond.code yX4_recordOf cX4_recordOf 4 (some .int), Cond.methodLink RX4 37 yX4_entry, Cond.static yX4_entry, Cond.code yX4_entry cX4_entry 2 (some .int), Cond.methodLink RX4 51 yX4_counts, Cond.instanceMethod yX4_counts, Cond.selects RX4 yX4_counts yX4_counts, Cond.code yX4_counts cX4_counts 2 none, Cond.methodLink RX4 65 yX4_drops, Cond.instanceMethod yX4_drops, Cond.selects RX4 yX4_drops yX4_drops, Cond.code yX4_drops cX4_drops 6 none]
noncomputable def wsX4_carryOut_r3 : List Cond := [Cond.methodLink RX4 104 yX4_arrives, Cond.instanceMethod yX4_arrives, Cond.selects RX4 yX4_arrives yX4_arrives, Cond.code yX4_arrives cX4_arrives 3 none, Cond.methodLink RX4 76 yX4_alarms, Cond.instanceMethod yX4_alarms, Cond.selects RX4 yX4_alarms yX4_alarms, Cond.code yX4_alarms cX4_alarms 2 none, Cond.methodLink RX4 107 yX4_pulses, Cond.instanceMethod yX4_pulses, Cond.selects RX4 yX4_pulses yX4_pulses, Cond.code yX4_pulses cX4_pulses 3 none, Cond.methodLink RX4 33 yX4_thing, Cond.static yX4_thing, Cond.code yX4_thing cX4_thing 2 (some .int), Cond.methodLink RX4 95 yX4_acts, Cond.instanceMethod yX4_acts, Cond.selects RX4 yX4_acts yX4_acts, Cond.code yX4_acts cX4_acts 3 (some .boolean), Cond.methodLink RX4 86 yX4_labels, Cond.instanceMethod yX4_labels, Cond.selects RX4 yX4_labels yX4_labels, Cond.code yX4_labels cX4_labels 3 none, Cond.methodLink RX4 79 yX4_itemAt]
noncomputable def wsX4_carryOut_r4 : List Cond := [Cond.instanceMethod yX4_itemAt, Cond.selects RX4 yX4_itemAt yX4_itemAt, Cond.code yX4_itemAt cX4_itemAt 6 (some .int), Cond.methodLink RX4 89 yX4_looks, Cond.instanceMethod yX4_looks, Cond.selects RX4 yX4_looks yX4_looks, Cond.code yX4_looks cX4_looks 6 none, Cond.methodLink RX4 92 yX4_gates, Cond.instanceMethod yX4_gates, Cond.selects RX4 yX4_gates yX4_gates, Cond.code yX4_gates cX4_gates 5 (some .boolean), Cond.methodLink RX4 82 yX4_leaves, Cond.instanceMethod yX4_leaves, Cond.selects RX4 yX4_leaves yX4_leaves, Cond.code yX4_leaves cX4_leaves 3 none, Cond.methodLink RX4 98 yX4_exits, Cond.instanceMethod yX4_exits, Cond.selects RX4 yX4_exits yX4_exits, Cond.code yX4_exits cX4_exits 5 none, Cond.methodLink RX4 55 yX4_barFeed, Cond.instanceMethod yX4_barFeed, Cond.selects RX4 yX4_barFeed yX4_barFeed, Cond.code yX4_barFeed cX4_barFeed 4 (some .int), Cond.methodLink RX4 59 yX4_feeds]
noncomputable def wsX4_carryOut_r5 : List Cond := [Cond.instanceMethod yX4_feeds, Cond.selects RX4 yX4_feeds yX4_feeds, Cond.code yX4_feeds cX4_feeds 6 (some .int), Cond.methodLink RX4 125 yX4_takesBack, Cond.instanceMethod yX4_takesBack, Cond.selects RX4 yX4_takesBack yX4_takesBack, Cond.code yX4_takesBack cX4_takesBack 2 none, Cond.methodLink RX4 44 yX4_saves, Cond.instanceMethod yX4_saves, Cond.selects RX4 yX4_saves yX4_saves, Cond.code yX4_saves cX4_saves 2 none, Cond.fieldLink RX4 26 "LabelStationModel" "saved" "I", Cond.fieldLink RX4 13 "LabelStationModel" "past" "[I"]
noncomputable def wsX4_carryOut : List Cond := .code yX4_carryOut cX4_carryOut 3 (some .int) :: ((wsX4_carryOut_r1 ++ (wsX4_carryOut_r2 ++ (wsX4_carryOut_r3 ++ (wsX4_carryOut_r4 ++ wsX4_carryOut_r5)))) ++ wsX40)
noncomputable def wsX4_mix : List Cond := .code yX4_mix cX4_mix 2 none :: ([.constantLong RX4 134 (31), .fieldLink RX4 136 "LabelStationModel" "hash" "J"] ++ wsX40)
noncomputable def wsX4_mixAll : List Cond := .code yX4_mixAll cX4_mixAll 4 none :: ([.fieldLink RX4 7 "LabelStationModel" "now" "[I", .methodLink RX4 140 yX4_mix, .instanceMethod yX4_mix, .selects RX4 yX4_mix yX4_mix, .initialized RX4, .code yX4_mix cX4_mix 2 none, .constantLong RX4 134 (31), .fieldLink RX4 136 "LabelStationModel" "hash" "J"] ++ wsX40)
noncomputable def wsX4_digest : List Cond := .code yX4_digest cX4_digest 2 (some .long) :: ([.fieldLink RX4 22 "LabelStationModel" "refusal" "I", .constantLong RX4 143 (2939), .fieldLink RX4 136 "LabelStationModel" "hash" "J", .fieldLink RX4 128 "LabelStationModel" "length" "I", .fieldLink RX4 7 "LabelStationModel" "now" "[I", .fieldLink RX4 26 "LabelStationModel" "saved" "I", .methodLink RX4 140 yX4_mix, .instanceMethod yX4_mix, .selects RX4 yX4_mix yX4_mix, .initialized RX4, .code yX4_mix cX4_mix 2 none, .constantLong RX4 134 (31), .methodLink RX4 145 yX4_mixAll, .instanceMethod yX4_mixAll, .selects RX4 yX4_mixAll yX4_mixAll, .code yX4_mixAll cX4_mixAll 4 none, .methodLink RX4 116 yX4_tellStatus, .instanceMethod yX4_tellStatus, .selects RX4 yX4_tellStatus yX4_tellStatus, .code yX4_tellStatus cX4_tellStatus 2 (some .int)] ++ wsX40)
def wsJ9_abs_0f7a4 : List Cond := .code yJ9_abs_0f7a4 cJ9_abs_0f7a4 1 (some .int) :: ([])
def wsJ9_max_7cf53 : List Cond := .code yJ9_max_7cf53 cJ9_max_7cf53 2 (some .int) :: ([])
def wsJ9_min_7cf53 : List Cond := .code yJ9_min_7cf53 cJ9_min_7cf53 2 (some .int) :: ([])
noncomputable def wsL_setPlaces_r1 : List Cond := [Cond.classLink RL 13 "java/lang/IllegalArgumentException", Cond.classLink RL 15 "java/lang/IllegalStateException", Cond.methodLink RL 7 yX3_setPlaces, Cond.instanceMethod yX3_setPlaces, Cond.selects RX3 yX3_setPlaces yX3_setPlaces, Cond.initialized RX3, Cond.code yX3_setPlaces cX3_setPlaces 8 (some .int), Cond.classLink RX3 34 "java/lang/IllegalArgumentException", Cond.initialized "java/lang/IllegalArgumentException", Cond.classLink RX3 54 "java/lang/IllegalStateException", Cond.initialized "java/lang/IllegalStateException", Cond.fieldLink RX3 10 "LabelStation" "state" "LLabelStation$State;", Cond.fieldLink RX3 22 "LabelStation" "history" "LLabelStation$History;", Cond.methodLink RX3 45 yX2_count, Cond.instanceMethod yX2_count, Cond.selects RX2 yX2_count yX2_count, Cond.initialized RX2, Cond.code yX2_count cX2_count 1 (some .int), Cond.fieldLink RX2 9 "LabelStation$Table" "rows" "I", Cond.methodLink RX3 59 yX0_save, Cond.instanceMethod yX0_save, Cond.selects RX0 yX0_save yX0_save, Cond.initialized RX0, Cond.code yX0_save cX0_save 2 none]
noncomputable def wsL_setPlaces_r2 : List Cond := [Cond.methodLink RX0 25 yX0_prepare, Cond.instanceMethod yX0_prepare, Cond.selects RX0 yX0_prepare yX0_prepare, Cond.code yX0_prepare cX0_prepare 3 none, Cond.fieldLink RX0 21 "LabelStation$History" "saved" "I", Cond.methodLink RX0 32 yX0_slotAt, Cond.instanceMethod yX0_slotAt, Cond.selects RX0 yX0_slotAt yX0_slotAt, Cond.code yX0_slotAt cX0_slotAt 3 (some (.object "LabelStation$State")), Cond.fieldLink RX0 17 "LabelStation$History" "oldest" "I", Cond.fieldLink RX0 11 "LabelStation$History" "slots" "[LLabelStation$State;", Cond.methodLink RX0 36 yX1_copyFrom, Cond.instanceMethod yX1_copyFrom, Cond.selects RX1 yX1_copyFrom yX1_copyFrom, Cond.initialized RX1, Cond.code yX1_copyFrom cX1_copyFrom 2 none, Cond.fieldLink RX1 9 "LabelStation$State" "settings" "[I", Cond.methodLink RX1 68 Lib.Math.min.name, Cond.static Lib.Math.min.name, Cond.initialized "java/lang/Math", Cond.code Lib.Math.min.name Lib.Math.min.code 2 (some .int), Cond.methodLink RX1 74 arraycopyName, Cond.native arraycopyName, Cond.static arraycopyName]
noncomputable def wsL_setPlaces_r3 : List Cond := [Cond.initialized "java/lang/System", Cond.fieldLink RX1 15 "LabelStation$State" "places" "[I", Cond.fieldLink RX1 18 "LabelStation$State" "counters" "[I", Cond.fieldLink RX1 26 "LabelStation$State" "items" "LLabelStation$Table;", Cond.fieldLink RX1 30 "LabelStation$State" "records" "LLabelStation$Table;", Cond.fieldLink RX1 33 "LabelStation$State" "verdicts" "LLabelStation$Table;", Cond.fieldLink RX1 36 "LabelStation$State" "binArrivals" "LLabelStation$Table;", Cond.fieldLink RX1 39 "LabelStation$State" "expectations" "LLabelStation$Table;", Cond.fieldLink RX1 42 "LabelStation$State" "tick" "I", Cond.fieldLink RX1 46 "LabelStation$State" "running" "Z", Cond.fieldLink RX1 50 "LabelStation$State" "alarm" "I", Cond.fieldLink RX1 53 "LabelStation$State" "jammed" "Z", Cond.fieldLink RX1 56 "LabelStation$State" "consecutiveRejects" "I", Cond.fieldLink RX1 59 "LabelStation$State" "diverted" "I", Cond.methodLink RX1 80 yX2_copyFrom, Cond.instanceMethod yX2_copyFrom, Cond.selects RX2 yX2_copyFrom yX2_copyFrom, Cond.code yX2_copyFrom cX2_copyFrom 2 none, Cond.fieldLink RX2 27 "LabelStation$Table" "cells" "[I", Cond.methodLink RX2 31 arraycopyName, Cond.methodLink RX0 29 yX0_keepPrepared, Cond.instanceMethod yX0_keepPrepared, Cond.selects RX0 yX0_keepPrepared yX0_keepPrepared, Cond.code yX0_keepPrepared cX0_keepPrepared 1 none]
noncomputable def wsL_setPlaces_r4 : List Cond := [Cond.methodLink RX3 63 yX1_place, Cond.instanceMethod yX1_place, Cond.selects RX1 yX1_place yX1_place, Cond.code yX1_place cX1_place 2 (some .int), Cond.methodLink RX3 67 yX1_putPlace, Cond.instanceMethod yX1_putPlace, Cond.selects RX1 yX1_putPlace yX1_putPlace, Cond.code yX1_putPlace cX1_putPlace 3 none]
noncomputable def wsL_setPlaces : List Cond := .codeWith yL_setPlaces cL_setPlaces 8 (some .int) [(0, 16, 19, 13), (0, 16, 23, 15)] :: ((wsL_setPlaces_r1 ++ (wsL_setPlaces_r2 ++ (wsL_setPlaces_r3 ++ wsL_setPlaces_r4))) ++ wsX30 ++ wsX10 ++ wsX20 ++ wsX00 ++ (vx_atS RX3 38 "java/lang/IllegalArgumentException" ["java/lang/RuntimeException", "java/lang/Exception"]).filter goodWord ++ (vx_atS RX3 58 "java/lang/IllegalStateException" ["java/lang/RuntimeException", "java/lang/Exception"]).filter goodWord)
noncomputable def wsL_set_r1 : List Cond := [Cond.classLink RL 13 "java/lang/IllegalArgumentException", Cond.methodLink RL 17 yX3_set, Cond.instanceMethod yX3_set, Cond.selects RX3 yX3_set yX3_set, Cond.initialized RX3, Cond.code yX3_set cX3_set 4 (some .int), Cond.classLink RX3 34 "java/lang/IllegalArgumentException", Cond.initialized "java/lang/IllegalArgumentException", Cond.fieldLink RX3 71 "LabelStation" "LEAST_SETTING" "[I", Cond.fieldLink RX3 75 "LabelStation" "MOST_SETTING" "[I", Cond.fieldLink RX3 22 "LabelStation" "history" "LLabelStation$History;", Cond.fieldLink RX3 10 "LabelStation" "state" "LLabelStation$State;", Cond.methodLink RX3 59 yX0_save, Cond.instanceMethod yX0_save, Cond.selects RX0 yX0_save yX0_save, Cond.initialized RX0, Cond.code yX0_save cX0_save 2 none, Cond.methodLink RX0 25 yX0_prepare, Cond.instanceMethod yX0_prepare, Cond.selects RX0 yX0_prepare yX0_prepare, Cond.code yX0_prepare cX0_prepare 3 none, Cond.fieldLink RX0 21 "LabelStation$History" "saved" "I", Cond.methodLink RX0 32 yX0_slotAt, Cond.instanceMethod yX0_slotAt]
noncomputable def wsL_set_r2 : List Cond := [Cond.selects RX0 yX0_slotAt yX0_slotAt, Cond.code yX0_slotAt cX0_slotAt 3 (some (.object "LabelStation$State")), Cond.fieldLink RX0 17 "LabelStation$History" "oldest" "I", Cond.fieldLink RX0 11 "LabelStation$History" "slots" "[LLabelStation$State;", Cond.methodLink RX0 36 yX1_copyFrom, Cond.instanceMethod yX1_copyFrom, Cond.selects RX1 yX1_copyFrom yX1_copyFrom, Cond.initialized RX1, Cond.code yX1_copyFrom cX1_copyFrom 2 none, Cond.fieldLink RX1 9 "LabelStation$State" "settings" "[I", Cond.methodLink RX1 68 Lib.Math.min.name, Cond.static Lib.Math.min.name, Cond.initialized "java/lang/Math", Cond.code Lib.Math.min.name Lib.Math.min.code 2 (some .int), Cond.methodLink RX1 74 arraycopyName, Cond.native arraycopyName, Cond.static arraycopyName, Cond.initialized "java/lang/System", Cond.fieldLink RX1 15 "LabelStation$State" "places" "[I", Cond.fieldLink RX1 18 "LabelStation$State" "counters" "[I", Cond.fieldLink RX1 26 "LabelStation$State" "items" "LLabelStation$Table;", Cond.fieldLink RX1 30 "LabelStation$State" "records" "LLabelStation$Table;", Cond.fieldLink RX1 33 "LabelStation$State" "verdicts" "LLabelStation$Table;", Cond.fieldLink RX1 36 "LabelStation$State" "binArrivals" "LLabelStation$Table;"]
noncomputable def wsL_set_r3 : List Cond := [Cond.fieldLink RX1 39 "LabelStation$State" "expectations" "LLabelStation$Table;", Cond.fieldLink RX1 42 "LabelStation$State" "tick" "I", Cond.fieldLink RX1 46 "LabelStation$State" "running" "Z", Cond.fieldLink RX1 50 "LabelStation$State" "alarm" "I", Cond.fieldLink RX1 53 "LabelStation$State" "jammed" "Z", Cond.fieldLink RX1 56 "LabelStation$State" "consecutiveRejects" "I", Cond.fieldLink RX1 59 "LabelStation$State" "diverted" "I", Cond.methodLink RX1 80 yX2_copyFrom, Cond.instanceMethod yX2_copyFrom, Cond.selects RX2 yX2_copyFrom yX2_copyFrom, Cond.initialized RX2, Cond.code yX2_copyFrom cX2_copyFrom 2 none, Cond.fieldLink RX2 27 "LabelStation$Table" "cells" "[I", Cond.methodLink RX2 31 arraycopyName, Cond.fieldLink RX2 9 "LabelStation$Table" "rows" "I", Cond.methodLink RX0 29 yX0_keepPrepared, Cond.instanceMethod yX0_keepPrepared, Cond.selects RX0 yX0_keepPrepared yX0_keepPrepared, Cond.code yX0_keepPrepared cX0_keepPrepared 1 none, Cond.methodLink RX3 82 yX1_setting, Cond.instanceMethod yX1_setting, Cond.selects RX1 yX1_setting yX1_setting, Cond.code yX1_setting cX1_setting 2 (some .int), Cond.methodLink RX3 85 yX1_putSetting]
noncomputable def wsL_set_r4 : List Cond := [Cond.instanceMethod yX1_putSetting, Cond.selects RX1 yX1_putSetting yX1_putSetting, Cond.code yX1_putSetting cX1_putSetting 3 none]
noncomputable def wsL_set : List Cond := .codeWith yL_set cL_set 5 (some .int) [(0, 10, 13, 13)] :: ((wsL_set_r1 ++ (wsL_set_r2 ++ (wsL_set_r3 ++ wsL_set_r4))) ++ wsX30 ++ wsX00 ++ wsX10 ++ wsX20 ++ (vx_atS RX3 38 "java/lang/IllegalArgumentException" ["java/lang/RuntimeException", "java/lang/Exception"]).filter goodWord)
noncomputable def wsL_value_r1 : List Cond := [Cond.classLink RL 13 "java/lang/IllegalArgumentException", Cond.methodLink RL 21 yX3_value, Cond.instanceMethod yX3_value, Cond.selects RX3 yX3_value yX3_value, Cond.initialized RX3, Cond.code yX3_value cX3_value 2 (some .int), Cond.classLink RX3 34 "java/lang/IllegalArgumentException", Cond.initialized "java/lang/IllegalArgumentException", Cond.fieldLink RX3 10 "LabelStation" "state" "LLabelStation$State;", Cond.methodLink RX3 90 yX1_valueOf, Cond.instanceMethod yX1_valueOf, Cond.selects RX1 yX1_valueOf yX1_valueOf, Cond.initialized RX1, Cond.code yX1_valueOf cX1_valueOf 2 (some .int), Cond.fieldLink RX1 56 "LabelStation$State" "consecutiveRejects" "I", Cond.fieldLink RX1 9 "LabelStation$State" "settings" "[I", Cond.methodLink RX1 84 yX1_setting, Cond.instanceMethod yX1_setting, Cond.selects RX1 yX1_setting yX1_setting, Cond.code yX1_setting cX1_setting 2 (some .int), Cond.methodLink RX1 88 yX1_place, Cond.instanceMethod yX1_place, Cond.selects RX1 yX1_place yX1_place, Cond.code yX1_place cX1_place 2 (some .int)]
noncomputable def wsL_value_r2 : List Cond := [Cond.fieldLink RX1 15 "LabelStation$State" "places" "[I"]
noncomputable def wsL_value : List Cond := .codeWith yL_value cL_value 4 (some .int) [(0, 9, 12, 13)] :: ((wsL_value_r1 ++ wsL_value_r2) ++ wsX30 ++ wsX10 ++ (vx_atS RX3 38 "java/lang/IllegalArgumentException" ["java/lang/RuntimeException", "java/lang/Exception"]).filter goodWord)
noncomputable def wsL_start_r1 : List Cond := [Cond.classLink RL 15 "java/lang/IllegalStateException", Cond.methodLink RL 25 yX3_start, Cond.instanceMethod yX3_start, Cond.selects RX3 yX3_start yX3_start, Cond.initialized RX3, Cond.code yX3_start cX3_start 1 (some .int), Cond.classLink RX3 54 "java/lang/IllegalStateException", Cond.initialized "java/lang/IllegalStateException", Cond.fieldLink RX3 10 "LabelStation" "state" "LLabelStation$State;", Cond.fieldLink RX3 22 "LabelStation" "history" "LLabelStation$History;", Cond.methodLink RX3 59 yX0_save, Cond.instanceMethod yX0_save, Cond.selects RX0 yX0_save yX0_save, Cond.initialized RX0, Cond.code yX0_save cX0_save 2 none, Cond.methodLink RX0 25 yX0_prepare, Cond.instanceMethod yX0_prepare, Cond.selects RX0 yX0_prepare yX0_prepare, Cond.code yX0_prepare cX0_prepare 3 none, Cond.fieldLink RX0 21 "LabelStation$History" "saved" "I", Cond.methodLink RX0 32 yX0_slotAt, Cond.instanceMethod yX0_slotAt, Cond.selects RX0 yX0_slotAt yX0_slotAt, Cond.code yX0_slotAt cX0_slotAt 3 (some (.object "LabelStation$State"))]
noncomputable def wsL_start_r2 : List Cond := [Cond.fieldLink RX0 17 "LabelStation$History" "oldest" "I", Cond.fieldLink RX0 11 "LabelStation$History" "slots" "[LLabelStation$State;", Cond.methodLink RX0 36 yX1_copyFrom, Cond.instanceMethod yX1_copyFrom, Cond.selects RX1 yX1_copyFrom yX1_copyFrom, Cond.initialized RX1, Cond.code yX1_copyFrom cX1_copyFrom 2 none, Cond.fieldLink RX1 9 "LabelStation$State" "settings" "[I", Cond.methodLink RX1 68 Lib.Math.min.name, Cond.static Lib.Math.min.name, Cond.initialized "java/lang/Math", Cond.code Lib.Math.min.name Lib.Math.min.code 2 (some .int), Cond.methodLink RX1 74 arraycopyName, Cond.native arraycopyName, Cond.static arraycopyName, Cond.initialized "java/lang/System", Cond.fieldLink RX1 15 "LabelStation$State" "places" "[I", Cond.fieldLink RX1 18 "LabelStation$State" "counters" "[I", Cond.fieldLink RX1 26 "LabelStation$State" "items" "LLabelStation$Table;", Cond.fieldLink RX1 30 "LabelStation$State" "records" "LLabelStation$Table;", Cond.fieldLink RX1 33 "LabelStation$State" "verdicts" "LLabelStation$Table;", Cond.fieldLink RX1 36 "LabelStation$State" "binArrivals" "LLabelStation$Table;", Cond.fieldLink RX1 39 "LabelStation$State" "expectations" "LLabelStation$Table;", Cond.fieldLink RX1 42 "LabelStation$State" "tick" "I"]
noncomputable def wsL_start_r3 : List Cond := [Cond.fieldLink RX1 46 "LabelStation$State" "running" "Z", Cond.fieldLink RX1 50 "LabelStation$State" "alarm" "I", Cond.fieldLink RX1 53 "LabelStation$State" "jammed" "Z", Cond.fieldLink RX1 56 "LabelStation$State" "consecutiveRejects" "I", Cond.fieldLink RX1 59 "LabelStation$State" "diverted" "I", Cond.methodLink RX1 80 yX2_copyFrom, Cond.instanceMethod yX2_copyFrom, Cond.selects RX2 yX2_copyFrom yX2_copyFrom, Cond.initialized RX2, Cond.code yX2_copyFrom cX2_copyFrom 2 none, Cond.fieldLink RX2 27 "LabelStation$Table" "cells" "[I", Cond.methodLink RX2 31 arraycopyName, Cond.fieldLink RX2 9 "LabelStation$Table" "rows" "I", Cond.methodLink RX0 29 yX0_keepPrepared, Cond.instanceMethod yX0_keepPrepared, Cond.selects RX0 yX0_keepPrepared yX0_keepPrepared, Cond.code yX0_keepPrepared cX0_keepPrepared 1 none, Cond.methodLink RX3 45 yX2_count, Cond.instanceMethod yX2_count, Cond.selects RX2 yX2_count yX2_count, Cond.code yX2_count cX2_count 1 (some .int)]
noncomputable def wsL_start : List Cond := .codeWith yL_start cL_start 3 (some .int) [(0, 8, 11, 15)] :: ((wsL_start_r1 ++ (wsL_start_r2 ++ wsL_start_r3)) ++ wsX30 ++ wsX10 ++ wsX00 ++ wsX20 ++ (vx_atS RX3 58 "java/lang/IllegalStateException" ["java/lang/RuntimeException", "java/lang/Exception"]).filter goodWord)
noncomputable def wsL_stop_r1 : List Cond := [Cond.classLink RL 15 "java/lang/IllegalStateException", Cond.methodLink RL 29 yX3_stop, Cond.instanceMethod yX3_stop, Cond.selects RX3 yX3_stop yX3_stop, Cond.initialized RX3, Cond.code yX3_stop cX3_stop 1 (some .int), Cond.classLink RX3 54 "java/lang/IllegalStateException", Cond.initialized "java/lang/IllegalStateException", Cond.fieldLink RX3 10 "LabelStation" "state" "LLabelStation$State;", Cond.fieldLink RX3 22 "LabelStation" "history" "LLabelStation$History;", Cond.methodLink RX3 59 yX0_save, Cond.instanceMethod yX0_save, Cond.selects RX0 yX0_save yX0_save, Cond.initialized RX0, Cond.code yX0_save cX0_save 2 none, Cond.methodLink RX0 25 yX0_prepare, Cond.instanceMethod yX0_prepare, Cond.selects RX0 yX0_prepare yX0_prepare, Cond.code yX0_prepare cX0_prepare 3 none, Cond.fieldLink RX0 21 "LabelStation$History" "saved" "I", Cond.methodLink RX0 32 yX0_slotAt, Cond.instanceMethod yX0_slotAt, Cond.selects RX0 yX0_slotAt yX0_slotAt, Cond.code yX0_slotAt cX0_slotAt 3 (some (.object "LabelStation$State"))]
noncomputable def wsL_stop_r2 : List Cond := [Cond.fieldLink RX0 17 "LabelStation$History" "oldest" "I", Cond.fieldLink RX0 11 "LabelStation$History" "slots" "[LLabelStation$State;", Cond.methodLink RX0 36 yX1_copyFrom, Cond.instanceMethod yX1_copyFrom, Cond.selects RX1 yX1_copyFrom yX1_copyFrom, Cond.initialized RX1, Cond.code yX1_copyFrom cX1_copyFrom 2 none, Cond.fieldLink RX1 9 "LabelStation$State" "settings" "[I", Cond.methodLink RX1 68 Lib.Math.min.name, Cond.static Lib.Math.min.name, Cond.initialized "java/lang/Math", Cond.code Lib.Math.min.name Lib.Math.min.code 2 (some .int), Cond.methodLink RX1 74 arraycopyName, Cond.native arraycopyName, Cond.static arraycopyName, Cond.initialized "java/lang/System", Cond.fieldLink RX1 15 "LabelStation$State" "places" "[I", Cond.fieldLink RX1 18 "LabelStation$State" "counters" "[I", Cond.fieldLink RX1 26 "LabelStation$State" "items" "LLabelStation$Table;", Cond.fieldLink RX1 30 "LabelStation$State" "records" "LLabelStation$Table;", Cond.fieldLink RX1 33 "LabelStation$State" "verdicts" "LLabelStation$Table;", Cond.fieldLink RX1 36 "LabelStation$State" "binArrivals" "LLabelStation$Table;", Cond.fieldLink RX1 39 "LabelStation$State" "expectations" "LLabelStation$Table;", Cond.fieldLink RX1 42 "LabelStation$State" "tick" "I"]
noncomputable def wsL_stop_r3 : List Cond := [Cond.fieldLink RX1 46 "LabelStation$State" "running" "Z", Cond.fieldLink RX1 50 "LabelStation$State" "alarm" "I", Cond.fieldLink RX1 53 "LabelStation$State" "jammed" "Z", Cond.fieldLink RX1 56 "LabelStation$State" "consecutiveRejects" "I", Cond.fieldLink RX1 59 "LabelStation$State" "diverted" "I", Cond.methodLink RX1 80 yX2_copyFrom, Cond.instanceMethod yX2_copyFrom, Cond.selects RX2 yX2_copyFrom yX2_copyFrom, Cond.initialized RX2, Cond.code yX2_copyFrom cX2_copyFrom 2 none, Cond.fieldLink RX2 27 "LabelStation$Table" "cells" "[I", Cond.methodLink RX2 31 arraycopyName, Cond.fieldLink RX2 9 "LabelStation$Table" "rows" "I", Cond.methodLink RX0 29 yX0_keepPrepared, Cond.instanceMethod yX0_keepPrepared, Cond.selects RX0 yX0_keepPrepared yX0_keepPrepared, Cond.code yX0_keepPrepared cX0_keepPrepared 1 none, Cond.methodLink RX3 45 yX2_count, Cond.instanceMethod yX2_count, Cond.selects RX2 yX2_count yX2_count, Cond.code yX2_count cX2_count 1 (some .int)]
noncomputable def wsL_stop : List Cond := .codeWith yL_stop cL_stop 3 (some .int) [(0, 8, 11, 15)] :: ((wsL_stop_r1 ++ (wsL_stop_r2 ++ wsL_stop_r3)) ++ wsX30 ++ wsX10 ++ wsX00 ++ wsX20 ++ (vx_atS RX3 58 "java/lang/IllegalStateException" ["java/lang/RuntimeException", "java/lang/Exception"]).filter goodWord)
noncomputable def wsL_reset_r1 : List Cond := [Cond.classLink RL 15 "java/lang/IllegalStateException", Cond.methodLink RL 32 yX3_reset, Cond.instanceMethod yX3_reset, Cond.selects RX3 yX3_reset yX3_reset, Cond.initialized RX3, Cond.code yX3_reset cX3_reset 2 (some .int), Cond.classLink RX3 54 "java/lang/IllegalStateException", Cond.initialized "java/lang/IllegalStateException", Cond.fieldLink RX3 10 "LabelStation" "state" "LLabelStation$State;", Cond.fieldLink RX3 22 "LabelStation" "history" "LLabelStation$History;", Cond.methodLink RX3 59 yX0_save, Cond.instanceMethod yX0_save, Cond.selects RX0 yX0_save yX0_save, Cond.initialized RX0, Cond.code yX0_save cX0_save 2 none, Cond.methodLink RX0 25 yX0_prepare, Cond.instanceMethod yX0_prepare, Cond.selects RX0 yX0_prepare yX0_prepare, Cond.code yX0_prepare cX0_prepare 3 none, Cond.fieldLink RX0 21 "LabelStation$History" "saved" "I", Cond.methodLink RX0 32 yX0_slotAt, Cond.instanceMethod yX0_slotAt, Cond.selects RX0 yX0_slotAt yX0_slotAt, Cond.code yX0_slotAt cX0_slotAt 3 (some (.object "LabelStation$State"))]
noncomputable def wsL_reset_r2 : List Cond := [Cond.fieldLink RX0 17 "LabelStation$History" "oldest" "I", Cond.fieldLink RX0 11 "LabelStation$History" "slots" "[LLabelStation$State;", Cond.methodLink RX0 36 yX1_copyFrom, Cond.instanceMethod yX1_copyFrom, Cond.selects RX1 yX1_copyFrom yX1_copyFrom, Cond.initialized RX1, Cond.code yX1_copyFrom cX1_copyFrom 2 none, Cond.fieldLink RX1 9 "LabelStation$State" "settings" "[I", Cond.methodLink RX1 68 Lib.Math.min.name, Cond.static Lib.Math.min.name, Cond.initialized "java/lang/Math", Cond.code Lib.Math.min.name Lib.Math.min.code 2 (some .int), Cond.methodLink RX1 74 arraycopyName, Cond.native arraycopyName, Cond.static arraycopyName, Cond.initialized "java/lang/System", Cond.fieldLink RX1 15 "LabelStation$State" "places" "[I", Cond.fieldLink RX1 18 "LabelStation$State" "counters" "[I", Cond.fieldLink RX1 26 "LabelStation$State" "items" "LLabelStation$Table;", Cond.fieldLink RX1 30 "LabelStation$State" "records" "LLabelStation$Table;", Cond.fieldLink RX1 33 "LabelStation$State" "verdicts" "LLabelStation$Table;", Cond.fieldLink RX1 36 "LabelStation$State" "binArrivals" "LLabelStation$Table;", Cond.fieldLink RX1 39 "LabelStation$State" "expectations" "LLabelStation$Table;", Cond.fieldLink RX1 42 "LabelStation$State" "tick" "I"]
noncomputable def wsL_reset_r3 : List Cond := [Cond.fieldLink RX1 46 "LabelStation$State" "running" "Z", Cond.fieldLink RX1 50 "LabelStation$State" "alarm" "I", Cond.fieldLink RX1 53 "LabelStation$State" "jammed" "Z", Cond.fieldLink RX1 56 "LabelStation$State" "consecutiveRejects" "I", Cond.fieldLink RX1 59 "LabelStation$State" "diverted" "I", Cond.methodLink RX1 80 yX2_copyFrom, Cond.instanceMethod yX2_copyFrom, Cond.selects RX2 yX2_copyFrom yX2_copyFrom, Cond.initialized RX2, Cond.code yX2_copyFrom cX2_copyFrom 2 none, Cond.fieldLink RX2 27 "LabelStation$Table" "cells" "[I", Cond.methodLink RX2 31 arraycopyName, Cond.fieldLink RX2 9 "LabelStation$Table" "rows" "I", Cond.methodLink RX0 29 yX0_keepPrepared, Cond.instanceMethod yX0_keepPrepared, Cond.selects RX0 yX0_keepPrepared yX0_keepPrepared, Cond.code yX0_keepPrepared cX0_keepPrepared 1 none]
noncomputable def wsL_reset : List Cond := .codeWith yL_reset cL_reset 3 (some .int) [(0, 8, 11, 15)] :: ((wsL_reset_r1 ++ (wsL_reset_r2 ++ wsL_reset_r3)) ++ wsX30 ++ wsX10 ++ wsX00 ++ wsX20 ++ (vx_atS RX3 58 "java/lang/IllegalStateException" ["java/lang/RuntimeException", "java/lang/Exception"]).filter goodWord)
noncomputable def wsL_feed_r1 : List Cond := [Cond.classLink RL 13 "java/lang/IllegalArgumentException", Cond.classLink RL 15 "java/lang/IllegalStateException", Cond.methodLink RL 35 yX3_feed, Cond.instanceMethod yX3_feed, Cond.selects RX3 yX3_feed yX3_feed, Cond.initialized RX3, Cond.code yX3_feed cX3_feed 2 (some .int), Cond.classLink RX3 34 "java/lang/IllegalArgumentException", Cond.initialized "java/lang/IllegalArgumentException", Cond.classLink RX3 54 "java/lang/IllegalStateException", Cond.initialized "java/lang/IllegalStateException", Cond.fieldLink RX3 10 "LabelStation" "state" "LLabelStation$State;", Cond.fieldLink RX3 22 "LabelStation" "history" "LLabelStation$History;", Cond.methodLink RX3 111 yX1_hasRoom, Cond.instanceMethod yX1_hasRoom, Cond.selects RX1 yX1_hasRoom yX1_hasRoom, Cond.initialized RX1, Cond.code yX1_hasRoom cX1_hasRoom 1 (some .boolean), Cond.fieldLink RX1 26 "LabelStation$State" "items" "LLabelStation$Table;", Cond.fieldLink RX1 30 "LabelStation$State" "records" "LLabelStation$Table;", Cond.methodLink RX1 91 yX2_count, Cond.instanceMethod yX2_count, Cond.selects RX2 yX2_count yX2_count, Cond.initialized RX2]
noncomputable def wsL_feed_r2 : List Cond := [Cond.code yX2_count cX2_count 1 (some .int), Cond.fieldLink RX2 9 "LabelStation$Table" "rows" "I", Cond.methodLink RX1 95 yX2_hasBelow, Cond.instanceMethod yX2_hasBelow, Cond.selects RX2 yX2_hasBelow yX2_hasBelow, Cond.code yX2_hasBelow cX2_hasBelow 4 (some .boolean), Cond.methodLink RX2 41 yX2_get, Cond.instanceMethod yX2_get, Cond.selects RX2 yX2_get yX2_get, Cond.code yX2_get cX2_get 4 (some .int), Cond.fieldLink RX2 21 "LabelStation$Table" "width" "I", Cond.fieldLink RX2 27 "LabelStation$Table" "cells" "[I", Cond.methodLink RX3 59 yX0_save, Cond.instanceMethod yX0_save, Cond.selects RX0 yX0_save yX0_save, Cond.initialized RX0, Cond.code yX0_save cX0_save 2 none, Cond.methodLink RX0 25 yX0_prepare, Cond.instanceMethod yX0_prepare, Cond.selects RX0 yX0_prepare yX0_prepare, Cond.code yX0_prepare cX0_prepare 3 none, Cond.fieldLink RX0 21 "LabelStation$History" "saved" "I", Cond.methodLink RX0 32 yX0_slotAt, Cond.instanceMethod yX0_slotAt]
noncomputable def wsL_feed_r3 : List Cond := [Cond.selects RX0 yX0_slotAt yX0_slotAt, Cond.code yX0_slotAt cX0_slotAt 3 (some (.object "LabelStation$State")), Cond.fieldLink RX0 17 "LabelStation$History" "oldest" "I", Cond.fieldLink RX0 11 "LabelStation$History" "slots" "[LLabelStation$State;", Cond.methodLink RX0 36 yX1_copyFrom, Cond.instanceMethod yX1_copyFrom, Cond.selects RX1 yX1_copyFrom yX1_copyFrom, Cond.code yX1_copyFrom cX1_copyFrom 2 none, Cond.fieldLink RX1 9 "LabelStation$State" "settings" "[I", Cond.methodLink RX1 68 Lib.Math.min.name, Cond.static Lib.Math.min.name, Cond.initialized "java/lang/Math", Cond.code Lib.Math.min.name Lib.Math.min.code 2 (some .int), Cond.methodLink RX1 74 arraycopyName, Cond.native arraycopyName, Cond.static arraycopyName, Cond.initialized "java/lang/System", Cond.fieldLink RX1 15 "LabelStation$State" "places" "[I", Cond.fieldLink RX1 18 "LabelStation$State" "counters" "[I", Cond.fieldLink RX1 33 "LabelStation$State" "verdicts" "LLabelStation$Table;", Cond.fieldLink RX1 36 "LabelStation$State" "binArrivals" "LLabelStation$Table;", Cond.fieldLink RX1 39 "LabelStation$State" "expectations" "LLabelStation$Table;", Cond.fieldLink RX1 42 "LabelStation$State" "tick" "I", Cond.fieldLink RX1 46 "LabelStation$State" "running" "Z"]
noncomputable def wsL_feed_r4 : List Cond := [Cond.fieldLink RX1 50 "LabelStation$State" "alarm" "I", Cond.fieldLink RX1 53 "LabelStation$State" "jammed" "Z", Cond.fieldLink RX1 56 "LabelStation$State" "consecutiveRejects" "I", Cond.fieldLink RX1 59 "LabelStation$State" "diverted" "I", Cond.methodLink RX1 80 yX2_copyFrom, Cond.instanceMethod yX2_copyFrom, Cond.selects RX2 yX2_copyFrom yX2_copyFrom, Cond.code yX2_copyFrom cX2_copyFrom 2 none, Cond.methodLink RX2 31 arraycopyName, Cond.methodLink RX0 29 yX0_keepPrepared, Cond.instanceMethod yX0_keepPrepared, Cond.selects RX0 yX0_keepPrepared yX0_keepPrepared, Cond.code yX0_keepPrepared cX0_keepPrepared 1 none, Cond.methodLink RX3 117 yX1_enter, Cond.instanceMethod yX1_enter, Cond.selects RX1 yX1_enter yX1_enter, Cond.code yX1_enter cX1_enter 4 (some .int), Cond.methodLink RX1 99 yX1_counted, Cond.instanceMethod yX1_counted, Cond.selects RX1 yX1_counted yX1_counted, Cond.code yX1_counted cX1_counted 2 (some .int), Cond.methodLink RX1 102 yX1_count, Cond.instanceMethod yX1_count, Cond.selects RX1 yX1_count yX1_count]
noncomputable def wsL_feed_r5 : List Cond := [Cond.code yX1_count cX1_count 2 none, Cond.methodLink RX1 105 yX2_addRow, Cond.instanceMethod yX2_addRow, Cond.selects RX2 yX2_addRow yX2_addRow, Cond.code yX2_addRow cX2_addRow 4 (some .int), Cond.fieldLink RX2 24 "LabelStation$Table" "room" "I", Cond.methodLink RX2 37 yX2_put, Cond.instanceMethod yX2_put, Cond.selects RX2 yX2_put yX2_put, Cond.code yX2_put cX2_put 5 none, Cond.methodLink RX1 108 yX2_put]
noncomputable def wsL_feed : List Cond := .codeWith yL_feed cL_feed 4 (some .int) [(0, 9, 12, 13), (0, 9, 15, 15)] :: ((wsL_feed_r1 ++ (wsL_feed_r2 ++ (wsL_feed_r3 ++ (wsL_feed_r4 ++ wsL_feed_r5)))) ++ wsX30 ++ wsX10 ++ wsX20 ++ wsX00 ++ (vx_atS RX3 38 "java/lang/IllegalArgumentException" ["java/lang/RuntimeException", "java/lang/Exception"]).filter goodWord ++ (vx_atS RX3 58 "java/lang/IllegalStateException" ["java/lang/RuntimeException", "java/lang/Exception"]).filter goodWord)
noncomputable def wsL_slip_r1 : List Cond := [Cond.classLink RL 41 "java/util/NoSuchElementException", Cond.classLink RL 13 "java/lang/IllegalArgumentException", Cond.methodLink RL 38 yX3_slip, Cond.instanceMethod yX3_slip, Cond.selects RX3 yX3_slip yX3_slip, Cond.initialized RX3, Cond.code yX3_slip cX3_slip 5 (some .int), Cond.classLink RX3 123 "java/util/NoSuchElementException", Cond.initialized "java/util/NoSuchElementException", Cond.classLink RX3 34 "java/lang/IllegalArgumentException", Cond.initialized "java/lang/IllegalArgumentException", Cond.fieldLink RX3 10 "LabelStation" "state" "LLabelStation$State;", Cond.fieldLink RX3 22 "LabelStation" "history" "LLabelStation$History;", Cond.methodLink RX3 120 yX2_find, Cond.instanceMethod yX2_find, Cond.selects RX2 yX2_find yX2_find, Cond.initialized RX2, Cond.code yX2_find cX2_find 3 (some .int), Cond.fieldLink RX2 9 "LabelStation$Table" "rows" "I", Cond.methodLink RX2 41 yX2_get, Cond.instanceMethod yX2_get, Cond.selects RX2 yX2_get yX2_get, Cond.code yX2_get cX2_get 4 (some .int), Cond.fieldLink RX2 21 "LabelStation$Table" "width" "I"]
noncomputable def wsL_slip_r2 : List Cond := [Cond.fieldLink RX2 27 "LabelStation$Table" "cells" "[I", Cond.methodLink RX3 130 yX2_get, Cond.methodLink RX3 63 yX1_place, Cond.instanceMethod yX1_place, Cond.selects RX1 yX1_place yX1_place, Cond.initialized RX1, Cond.code yX1_place cX1_place 2 (some .int), Cond.fieldLink RX1 15 "LabelStation$State" "places" "[I", Cond.methodLink RX3 59 yX0_save, Cond.instanceMethod yX0_save, Cond.selects RX0 yX0_save yX0_save, Cond.initialized RX0, Cond.code yX0_save cX0_save 2 none, Cond.methodLink RX0 25 yX0_prepare, Cond.instanceMethod yX0_prepare, Cond.selects RX0 yX0_prepare yX0_prepare, Cond.code yX0_prepare cX0_prepare 3 none, Cond.fieldLink RX0 21 "LabelStation$History" "saved" "I", Cond.methodLink RX0 32 yX0_slotAt, Cond.instanceMethod yX0_slotAt, Cond.selects RX0 yX0_slotAt yX0_slotAt, Cond.code yX0_slotAt cX0_slotAt 3 (some (.object "LabelStation$State")), Cond.fieldLink RX0 17 "LabelStation$History" "oldest" "I", Cond.fieldLink RX0 11 "LabelStation$History" "slots" "[LLabelStation$State;"]
noncomputable def wsL_slip_r3 : List Cond := [Cond.methodLink RX0 36 yX1_copyFrom, Cond.instanceMethod yX1_copyFrom, Cond.selects RX1 yX1_copyFrom yX1_copyFrom, Cond.code yX1_copyFrom cX1_copyFrom 2 none, Cond.fieldLink RX1 9 "LabelStation$State" "settings" "[I", Cond.methodLink RX1 68 Lib.Math.min.name, Cond.static Lib.Math.min.name, Cond.initialized "java/lang/Math", Cond.code Lib.Math.min.name Lib.Math.min.code 2 (some .int), Cond.methodLink RX1 74 arraycopyName, Cond.native arraycopyName, Cond.static arraycopyName, Cond.initialized "java/lang/System", Cond.fieldLink RX1 18 "LabelStation$State" "counters" "[I", Cond.fieldLink RX1 26 "LabelStation$State" "items" "LLabelStation$Table;", Cond.fieldLink RX1 30 "LabelStation$State" "records" "LLabelStation$Table;", Cond.fieldLink RX1 33 "LabelStation$State" "verdicts" "LLabelStation$Table;", Cond.fieldLink RX1 36 "LabelStation$State" "binArrivals" "LLabelStation$Table;", Cond.fieldLink RX1 39 "LabelStation$State" "expectations" "LLabelStation$Table;", Cond.fieldLink RX1 42 "LabelStation$State" "tick" "I", Cond.fieldLink RX1 46 "LabelStation$State" "running" "Z", Cond.fieldLink RX1 50 "LabelStation$State" "alarm" "I", Cond.fieldLink RX1 53 "LabelStation$State" "jammed" "Z", Cond.fieldLink RX1 56 "LabelStation$State" "consecutiveRejects" "I"]
noncomputable def wsL_slip_r4 : List Cond := [Cond.fieldLink RX1 59 "LabelStation$State" "diverted" "I", Cond.methodLink RX1 80 yX2_copyFrom, Cond.instanceMethod yX2_copyFrom, Cond.selects RX2 yX2_copyFrom yX2_copyFrom, Cond.code yX2_copyFrom cX2_copyFrom 2 none, Cond.methodLink RX2 31 arraycopyName, Cond.methodLink RX0 29 yX0_keepPrepared, Cond.instanceMethod yX0_keepPrepared, Cond.selects RX0 yX0_keepPrepared yX0_keepPrepared, Cond.code yX0_keepPrepared cX0_keepPrepared 1 none, Cond.methodLink RX3 136 yX2_put, Cond.instanceMethod yX2_put, Cond.selects RX2 yX2_put yX2_put, Cond.code yX2_put cX2_put 5 none]
noncomputable def wsL_slip : List Cond := .codeWith yL_slip cL_slip 5 (some .int) [(0, 10, 13, 41), (0, 10, 17, 13)] :: ((wsL_slip_r1 ++ (wsL_slip_r2 ++ (wsL_slip_r3 ++ wsL_slip_r4))) ++ wsX30 ++ wsX10 ++ wsX20 ++ wsX00 ++ (vx_atS RX3 127 "java/util/NoSuchElementException" ["java/lang/RuntimeException", "java/lang/Exception"]).filter goodWord ++ (vx_atS RX3 38 "java/lang/IllegalArgumentException" ["java/lang/RuntimeException", "java/lang/Exception"]).filter goodWord)
noncomputable def wsL_take_r1 : List Cond := [Cond.classLink RL 41 "java/util/NoSuchElementException", Cond.methodLink RL 43 yX3_take, Cond.instanceMethod yX3_take, Cond.selects RX3 yX3_take yX3_take, Cond.initialized RX3, Cond.code yX3_take cX3_take 4 (some .int), Cond.classLink RX3 123 "java/util/NoSuchElementException", Cond.initialized "java/util/NoSuchElementException", Cond.fieldLink RX3 10 "LabelStation" "state" "LLabelStation$State;", Cond.fieldLink RX3 22 "LabelStation" "history" "LLabelStation$History;", Cond.methodLink RX3 120 yX2_find, Cond.instanceMethod yX2_find, Cond.selects RX2 yX2_find yX2_find, Cond.initialized RX2, Cond.code yX2_find cX2_find 3 (some .int), Cond.fieldLink RX2 9 "LabelStation$Table" "rows" "I", Cond.methodLink RX2 41 yX2_get, Cond.instanceMethod yX2_get, Cond.selects RX2 yX2_get yX2_get, Cond.code yX2_get cX2_get 4 (some .int), Cond.fieldLink RX2 21 "LabelStation$Table" "width" "I", Cond.fieldLink RX2 27 "LabelStation$Table" "cells" "[I", Cond.methodLink RX3 59 yX0_save, Cond.instanceMethod yX0_save]
noncomputable def wsL_take_r2 : List Cond := [Cond.selects RX0 yX0_save yX0_save, Cond.initialized RX0, Cond.code yX0_save cX0_save 2 none, Cond.methodLink RX0 25 yX0_prepare, Cond.instanceMethod yX0_prepare, Cond.selects RX0 yX0_prepare yX0_prepare, Cond.code yX0_prepare cX0_prepare 3 none, Cond.fieldLink RX0 21 "LabelStation$History" "saved" "I", Cond.methodLink RX0 32 yX0_slotAt, Cond.instanceMethod yX0_slotAt, Cond.selects RX0 yX0_slotAt yX0_slotAt, Cond.code yX0_slotAt cX0_slotAt 3 (some (.object "LabelStation$State")), Cond.fieldLink RX0 17 "LabelStation$History" "oldest" "I", Cond.fieldLink RX0 11 "LabelStation$History" "slots" "[LLabelStation$State;", Cond.methodLink RX0 36 yX1_copyFrom, Cond.instanceMethod yX1_copyFrom, Cond.selects RX1 yX1_copyFrom yX1_copyFrom, Cond.initialized RX1, Cond.code yX1_copyFrom cX1_copyFrom 2 none, Cond.fieldLink RX1 9 "LabelStation$State" "settings" "[I", Cond.methodLink RX1 68 Lib.Math.min.name, Cond.static Lib.Math.min.name, Cond.initialized "java/lang/Math", Cond.code Lib.Math.min.name Lib.Math.min.code 2 (some .int)]
noncomputable def wsL_take_r3 : List Cond := [Cond.methodLink RX1 74 arraycopyName, Cond.native arraycopyName, Cond.static arraycopyName, Cond.initialized "java/lang/System", Cond.fieldLink RX1 15 "LabelStation$State" "places" "[I", Cond.fieldLink RX1 18 "LabelStation$State" "counters" "[I", Cond.fieldLink RX1 26 "LabelStation$State" "items" "LLabelStation$Table;", Cond.fieldLink RX1 30 "LabelStation$State" "records" "LLabelStation$Table;", Cond.fieldLink RX1 33 "LabelStation$State" "verdicts" "LLabelStation$Table;", Cond.fieldLink RX1 36 "LabelStation$State" "binArrivals" "LLabelStation$Table;", Cond.fieldLink RX1 39 "LabelStation$State" "expectations" "LLabelStation$Table;", Cond.fieldLink RX1 42 "LabelStation$State" "tick" "I", Cond.fieldLink RX1 46 "LabelStation$State" "running" "Z", Cond.fieldLink RX1 50 "LabelStation$State" "alarm" "I", Cond.fieldLink RX1 53 "LabelStation$State" "jammed" "Z", Cond.fieldLink RX1 56 "LabelStation$State" "consecutiveRejects" "I", Cond.fieldLink RX1 59 "LabelStation$State" "diverted" "I", Cond.methodLink RX1 80 yX2_copyFrom, Cond.instanceMethod yX2_copyFrom, Cond.selects RX2 yX2_copyFrom yX2_copyFrom, Cond.code yX2_copyFrom cX2_copyFrom 2 none, Cond.methodLink RX2 31 arraycopyName, Cond.methodLink RX0 29 yX0_keepPrepared, Cond.instanceMethod yX0_keepPrepared]
noncomputable def wsL_take_r4 : List Cond := [Cond.selects RX0 yX0_keepPrepared yX0_keepPrepared, Cond.code yX0_keepPrepared cX0_keepPrepared 1 none, Cond.methodLink RX3 130 yX2_get, Cond.methodLink RX3 140 yX2_removeRow, Cond.instanceMethod yX2_removeRow, Cond.selects RX2 yX2_removeRow yX2_removeRow, Cond.code yX2_removeRow cX2_removeRow 3 none, Cond.methodLink RX3 144 yX1_count, Cond.instanceMethod yX1_count, Cond.selects RX1 yX1_count yX1_count, Cond.code yX1_count cX1_count 2 none]
noncomputable def wsL_take : List Cond := .codeWith yL_take cL_take 4 (some .int) [(0, 9, 12, 41)] :: ((wsL_take_r1 ++ (wsL_take_r2 ++ (wsL_take_r3 ++ wsL_take_r4))) ++ wsX30 ++ wsX10 ++ wsX20 ++ wsX00 ++ (vx_atS RX3 127 "java/util/NoSuchElementException" ["java/lang/RuntimeException", "java/lang/Exception"]).filter goodWord)
noncomputable def wsL_run_r1 : List Cond := [Cond.classLink RL 13 "java/lang/IllegalArgumentException", Cond.methodLink RL 46 yX3_run, Cond.instanceMethod yX3_run, Cond.selects RX3 yX3_run yX3_run, Cond.initialized RX3, Cond.code yX3_run cX3_run 3 (some .int), Cond.classLink RX3 34 "java/lang/IllegalArgumentException", Cond.initialized "java/lang/IllegalArgumentException", Cond.fieldLink RX3 22 "LabelStation" "history" "LLabelStation$History;", Cond.fieldLink RX3 10 "LabelStation" "state" "LLabelStation$State;", Cond.methodLink RX3 59 yX0_save, Cond.instanceMethod yX0_save, Cond.selects RX0 yX0_save yX0_save, Cond.initialized RX0, Cond.code yX0_save cX0_save 2 none, Cond.methodLink RX0 25 yX0_prepare, Cond.instanceMethod yX0_prepare, Cond.selects RX0 yX0_prepare yX0_prepare, Cond.code yX0_prepare cX0_prepare 3 none, Cond.fieldLink RX0 21 "LabelStation$History" "saved" "I", Cond.methodLink RX0 32 yX0_slotAt, Cond.instanceMethod yX0_slotAt, Cond.selects RX0 yX0_slotAt yX0_slotAt, Cond.code yX0_slotAt cX0_slotAt 3 (some (.object "LabelStation$State"))]
noncomputable def wsL_run_r2 : List Cond := [Cond.fieldLink RX0 17 "LabelStation$History" "oldest" "I", Cond.fieldLink RX0 11 "LabelStation$History" "slots" "[LLabelStation$State;", Cond.methodLink RX0 36 yX1_copyFrom, Cond.instanceMethod yX1_copyFrom, Cond.selects RX1 yX1_copyFrom yX1_copyFrom, Cond.initialized RX1, Cond.code yX1_copyFrom cX1_copyFrom 2 none, Cond.fieldLink RX1 9 "LabelStation$State" "settings" "[I", Cond.methodLink RX1 68 Lib.Math.min.name, Cond.static Lib.Math.min.name, Cond.initialized "java/lang/Math", Cond.code Lib.Math.min.name Lib.Math.min.code 2 (some .int), Cond.methodLink RX1 74 arraycopyName, Cond.native arraycopyName, Cond.static arraycopyName, Cond.initialized "java/lang/System", Cond.fieldLink RX1 15 "LabelStation$State" "places" "[I", Cond.fieldLink RX1 18 "LabelStation$State" "counters" "[I", Cond.fieldLink RX1 26 "LabelStation$State" "items" "LLabelStation$Table;", Cond.fieldLink RX1 30 "LabelStation$State" "records" "LLabelStation$Table;", Cond.fieldLink RX1 33 "LabelStation$State" "verdicts" "LLabelStation$Table;", Cond.fieldLink RX1 36 "LabelStation$State" "binArrivals" "LLabelStation$Table;", Cond.fieldLink RX1 39 "LabelStation$State" "expectations" "LLabelStation$Table;", Cond.fieldLink RX1 42 "LabelStation$State" "tick" "I"]
noncomputable def wsL_run_r3 : List Cond := [Cond.fieldLink RX1 46 "LabelStation$State" "running" "Z", Cond.fieldLink RX1 50 "LabelStation$State" "alarm" "I", Cond.fieldLink RX1 53 "LabelStation$State" "jammed" "Z", Cond.fieldLink RX1 56 "LabelStation$State" "consecutiveRejects" "I", Cond.fieldLink RX1 59 "LabelStation$State" "diverted" "I", Cond.methodLink RX1 80 yX2_copyFrom, Cond.instanceMethod yX2_copyFrom, Cond.selects RX2 yX2_copyFrom yX2_copyFrom, Cond.initialized RX2, Cond.code yX2_copyFrom cX2_copyFrom 2 none, Cond.fieldLink RX2 27 "LabelStation$Table" "cells" "[I", Cond.methodLink RX2 31 arraycopyName, Cond.fieldLink RX2 9 "LabelStation$Table" "rows" "I", Cond.methodLink RX0 29 yX0_keepPrepared, Cond.instanceMethod yX0_keepPrepared, Cond.selects RX0 yX0_keepPrepared yX0_keepPrepared, Cond.code yX0_keepPrepared cX0_keepPrepared 1 none, Cond.methodLink RX3 148 yX1_passTick, Cond.instanceMethod yX1_passTick, Cond.selects RX1 yX1_passTick yX1_passTick, Cond.code yX1_passTick cX1_passTick 3 none, Cond.methodLink RX1 112 yX1_deliverVerdicts, Cond.instanceMethod yX1_deliverVerdicts, Cond.selects RX1 yX1_deliverVerdicts yX1_deliverVerdicts]
noncomputable def wsL_run_r4 : List Cond := [Cond.code yX1_deliverVerdicts cX1_deliverVerdicts 2 none, Cond.methodLink RX1 91 yX2_count, Cond.instanceMethod yX2_count, Cond.selects RX2 yX2_count yX2_count, Cond.code yX2_count cX2_count 1 (some .int), Cond.methodLink RX1 124 yX2_get, Cond.instanceMethod yX2_get, Cond.selects RX2 yX2_get yX2_get, Cond.code yX2_get cX2_get 4 (some .int), Cond.fieldLink RX2 21 "LabelStation$Table" "width" "I", Cond.methodLink RX1 127 yX1_deliver, Cond.instanceMethod yX1_deliver, Cond.selects RX1 yX1_deliver yX1_deliver, Cond.code yX1_deliver cX1_deliver 5 none, Cond.methodLink RX1 133 yX2_find, Cond.instanceMethod yX2_find, Cond.selects RX2 yX2_find yX2_find, Cond.code yX2_find cX2_find 3 (some .int), Cond.methodLink RX2 41 yX2_get, Cond.methodLink RX1 102 yX1_count, Cond.instanceMethod yX1_count, Cond.selects RX1 yX1_count yX1_count, Cond.code yX1_count cX1_count 2 none, Cond.methodLink RX1 108 yX2_put]
noncomputable def wsL_run_r5 : List Cond := [Cond.instanceMethod yX2_put, Cond.selects RX2 yX2_put yX2_put, Cond.code yX2_put cX2_put 5 none, Cond.methodLink RX1 130 yX2_removeRowsOf, Cond.instanceMethod yX2_removeRowsOf, Cond.selects RX2 yX2_removeRowsOf yX2_removeRowsOf, Cond.code yX2_removeRowsOf cX2_removeRowsOf 3 none, Cond.methodLink RX2 44 yX2_removeRow, Cond.instanceMethod yX2_removeRow, Cond.selects RX2 yX2_removeRow yX2_removeRow, Cond.code yX2_removeRow cX2_removeRow 3 none, Cond.methodLink RX1 115 yX1_fillBin, Cond.instanceMethod yX1_fillBin, Cond.selects RX1 yX1_fillBin yX1_fillBin, Cond.code yX1_fillBin cX1_fillBin 2 none, Cond.methodLink RX1 136 yX1_confirmOldest, Cond.instanceMethod yX1_confirmOldest, Cond.selects RX1 yX1_confirmOldest yX1_confirmOldest, Cond.code yX1_confirmOldest cX1_confirmOldest 1 none, Cond.methodLink RX1 139 yX1_raise, Cond.instanceMethod yX1_raise, Cond.selects RX1 yX1_raise yX1_raise, Cond.code yX1_raise cX1_raise 2 none, Cond.methodLink RX1 142 yX2_removeRow]
noncomputable def wsL_run_r6 : List Cond := [Cond.methodLink RX1 118 yX1_closeOverdueExpectations, Cond.instanceMethod yX1_closeOverdueExpectations, Cond.selects RX1 yX1_closeOverdueExpectations yX1_closeOverdueExpectations, Cond.code yX1_closeOverdueExpectations cX1_closeOverdueExpectations 2 none, Cond.methodLink RX1 84 yX1_setting, Cond.instanceMethod yX1_setting, Cond.selects RX1 yX1_setting yX1_setting, Cond.code yX1_setting cX1_setting 2 (some .int), Cond.methodLink RX1 121 yX1_pulse, Cond.instanceMethod yX1_pulse, Cond.selects RX1 yX1_pulse yX1_pulse, Cond.code yX1_pulse cX1_pulse 4 none, Cond.methodLink RX1 145 yX2_increase, Cond.instanceMethod yX2_increase, Cond.selects RX2 yX2_increase yX2_increase, Cond.code yX2_increase cX2_increase 3 none, Cond.methodLink RX2 37 yX2_put, Cond.methodLink RX1 148 yX1_staysInRegister, Cond.instanceMethod yX1_staysInRegister, Cond.selects RX1 yX1_staysInRegister yX1_staysInRegister, Cond.code yX1_staysInRegister cX1_staysInRegister 3 (some .boolean), Cond.methodLink RX1 88 yX1_place, Cond.instanceMethod yX1_place, Cond.selects RX1 yX1_place yX1_place]
noncomputable def wsL_run_r7 : List Cond := [Cond.code yX1_place cX1_place 2 (some .int), Cond.methodLink RX1 155 yX1_labelerActs, Cond.instanceMethod yX1_labelerActs, Cond.selects RX1 yX1_labelerActs yX1_labelerActs, Cond.code yX1_labelerActs cX1_labelerActs 3 none, Cond.methodLink RX1 174 yX1_putSetting, Cond.instanceMethod yX1_putSetting, Cond.selects RX1 yX1_putSetting yX1_putSetting, Cond.code yX1_putSetting cX1_putSetting 3 none, Cond.methodLink RX1 177 yX1_itemAt, Cond.instanceMethod yX1_itemAt, Cond.selects RX1 yX1_itemAt yX1_itemAt, Cond.code yX1_itemAt cX1_itemAt 7 (some .int), Cond.methodLink RX1 190 Lib.Math.abs.name, Cond.static Lib.Math.abs.name, Cond.code Lib.Math.abs.name Lib.Math.abs.code 1 (some .int), Cond.methodLink RX1 158 yX1_cameraActs, Cond.instanceMethod yX1_cameraActs, Cond.selects RX1 yX1_cameraActs yX1_cameraActs, Cond.code yX1_cameraActs cX1_cameraActs 4 none, Cond.methodLink RX1 105 yX2_addRow, Cond.instanceMethod yX2_addRow, Cond.selects RX2 yX2_addRow yX2_addRow, Cond.code yX2_addRow cX2_addRow 4 (some .int)]
noncomputable def wsL_run_r8 : List Cond := [Cond.fieldLink RX2 24 "LabelStation$Table" "room" "I", Cond.methodLink RX1 180 yX1_seen, Cond.instanceMethod yX1_seen, Cond.selects RX1 yX1_seen yX1_seen, Cond.code yX1_seen cX1_seen 3 (some .int), Cond.methodLink RX1 162 yX1_mayPass, Cond.instanceMethod yX1_mayPass, Cond.selects RX1 yX1_mayPass yX1_mayPass, Cond.code yX1_mayPass cX1_mayPass 2 (some .boolean), Cond.methodLink RX1 165 yX1_reject, Cond.instanceMethod yX1_reject, Cond.selects RX1 yX1_reject yX1_reject, Cond.code yX1_reject cX1_reject 3 none, Cond.methodLink RX1 184 yX1_causeOf, Cond.instanceMethod yX1_causeOf, Cond.selects RX1 yX1_causeOf yX1_causeOf, Cond.code yX1_causeOf cX1_causeOf 2 (some .int), Cond.methodLink RX1 171 yX1_leaveRegister, Cond.instanceMethod yX1_leaveRegister, Cond.selects RX1 yX1_leaveRegister yX1_leaveRegister, Cond.code yX1_leaveRegister cX1_leaveRegister 3 none, Cond.fieldLink RX1 62 "LabelStation$State" "watched" "I", Cond.fieldLink RX1 65 "LabelStation$State" "outcome" "I", Cond.methodLink RX1 168 yX1_pass]
noncomputable def wsL_run_r9 : List Cond := [Cond.instanceMethod yX1_pass, Cond.selects RX1 yX1_pass yX1_pass, Cond.code yX1_pass cX1_pass 2 none, Cond.methodLink RX1 152 yX1_leaveBelt, Cond.instanceMethod yX1_leaveBelt, Cond.selects RX1 yX1_leaveBelt yX1_leaveBelt, Cond.code yX1_leaveBelt cX1_leaveBelt 3 none, Cond.methodLink RX1 187 yX1_recordForExit, Cond.instanceMethod yX1_recordForExit, Cond.selects RX1 yX1_recordForExit yX1_recordForExit, Cond.code yX1_recordForExit cX1_recordForExit 7 (some .int)]
noncomputable def wsL_run : List Cond := .codeWith yL_run cL_run 4 (some .int) [(0, 9, 12, 13)] :: ((wsL_run_r1 ++ (wsL_run_r2 ++ (wsL_run_r3 ++ (wsL_run_r4 ++ (wsL_run_r5 ++ (wsL_run_r6 ++ (wsL_run_r7 ++ (wsL_run_r8 ++ wsL_run_r9)))))))) ++ wsX30 ++ wsX10 ++ wsX00 ++ wsX20 ++ (vx_atS RX3 38 "java/lang/IllegalArgumentException" ["java/lang/RuntimeException", "java/lang/Exception"]).filter goodWord)
noncomputable def wsL_status_r1 : List Cond := [Cond.classLink RL 13 "java/lang/IllegalArgumentException", Cond.methodLink RL 49 yX3_status, Cond.instanceMethod yX3_status, Cond.selects RX3 yX3_status yX3_status, Cond.initialized RX3, Cond.code yX3_status cX3_status 2 (some .int), Cond.classLink RX3 34 "java/lang/IllegalArgumentException", Cond.initialized "java/lang/IllegalArgumentException", Cond.fieldLink RX3 10 "LabelStation" "state" "LLabelStation$State;", Cond.methodLink RX3 156 yX1_statusOf, Cond.instanceMethod yX1_statusOf, Cond.selects RX1 yX1_statusOf yX1_statusOf, Cond.initialized RX1, Cond.code yX1_statusOf cX1_statusOf 2 (some .int), Cond.fieldLink RX1 42 "LabelStation$State" "tick" "I", Cond.fieldLink RX1 46 "LabelStation$State" "running" "Z", Cond.fieldLink RX1 50 "LabelStation$State" "alarm" "I", Cond.fieldLink RX1 26 "LabelStation$State" "items" "LLabelStation$Table;", Cond.fieldLink RX1 30 "LabelStation$State" "records" "LLabelStation$Table;", Cond.fieldLink RX1 33 "LabelStation$State" "verdicts" "LLabelStation$Table;", Cond.fieldLink RX1 39 "LabelStation$State" "expectations" "LLabelStation$Table;", Cond.fieldLink RX1 36 "LabelStation$State" "binArrivals" "LLabelStation$Table;", Cond.methodLink RX1 91 yX2_count, Cond.instanceMethod yX2_count]
noncomputable def wsL_status_r2 : List Cond := [Cond.selects RX2 yX2_count yX2_count, Cond.initialized RX2, Cond.code yX2_count cX2_count 1 (some .int), Cond.fieldLink RX2 9 "LabelStation$Table" "rows" "I"]
noncomputable def wsL_status : List Cond := .codeWith yL_status cL_status 4 (some .int) [(0, 9, 12, 13)] :: ((wsL_status_r1 ++ wsL_status_r2) ++ wsX30 ++ wsX10 ++ wsX20 ++ (vx_atS RX3 38 "java/lang/IllegalArgumentException" ["java/lang/RuntimeException", "java/lang/Exception"]).filter goodWord)
noncomputable def wsL_item_r1 : List Cond := [Cond.classLink RL 41 "java/util/NoSuchElementException", Cond.classLink RL 13 "java/lang/IllegalArgumentException", Cond.methodLink RL 52 yX3_item, Cond.instanceMethod yX3_item, Cond.selects RX3 yX3_item yX3_item, Cond.initialized RX3, Cond.code yX3_item cX3_item 4 (some .int), Cond.classLink RX3 123 "java/util/NoSuchElementException", Cond.initialized "java/util/NoSuchElementException", Cond.classLink RX3 34 "java/lang/IllegalArgumentException", Cond.initialized "java/lang/IllegalArgumentException", Cond.fieldLink RX3 10 "LabelStation" "state" "LLabelStation$State;", Cond.methodLink RX3 120 yX2_find, Cond.instanceMethod yX2_find, Cond.selects RX2 yX2_find yX2_find, Cond.initialized RX2, Cond.code yX2_find cX2_find 3 (some .int), Cond.fieldLink RX2 9 "LabelStation$Table" "rows" "I", Cond.methodLink RX2 41 yX2_get, Cond.instanceMethod yX2_get, Cond.selects RX2 yX2_get yX2_get, Cond.code yX2_get cX2_get 4 (some .int), Cond.fieldLink RX2 21 "LabelStation$Table" "width" "I", Cond.fieldLink RX2 27 "LabelStation$Table" "cells" "[I"]
noncomputable def wsL_item_r2 : List Cond := [Cond.methodLink RX3 130 yX2_get]
noncomputable def wsL_item : List Cond := .codeWith yL_item cL_item 5 (some .int) [(0, 10, 13, 41), (0, 10, 17, 13)] :: ((wsL_item_r1 ++ wsL_item_r2) ++ wsX30 ++ wsX10 ++ wsX20 ++ (vx_atS RX3 127 "java/util/NoSuchElementException" ["java/lang/RuntimeException", "java/lang/Exception"]).filter goodWord ++ (vx_atS RX3 38 "java/lang/IllegalArgumentException" ["java/lang/RuntimeException", "java/lang/Exception"]).filter goodWord)
noncomputable def wsL_record_r1 : List Cond := [Cond.classLink RL 41 "java/util/NoSuchElementException", Cond.classLink RL 13 "java/lang/IllegalArgumentException", Cond.methodLink RL 55 yX3_record, Cond.instanceMethod yX3_record, Cond.selects RX3 yX3_record yX3_record, Cond.initialized RX3, Cond.code yX3_record cX3_record 4 (some .int), Cond.classLink RX3 123 "java/util/NoSuchElementException", Cond.initialized "java/util/NoSuchElementException", Cond.classLink RX3 34 "java/lang/IllegalArgumentException", Cond.initialized "java/lang/IllegalArgumentException", Cond.fieldLink RX3 10 "LabelStation" "state" "LLabelStation$State;", Cond.methodLink RX3 120 yX2_find, Cond.instanceMethod yX2_find, Cond.selects RX2 yX2_find yX2_find, Cond.initialized RX2, Cond.code yX2_find cX2_find 3 (some .int), Cond.fieldLink RX2 9 "LabelStation$Table" "rows" "I", Cond.methodLink RX2 41 yX2_get, Cond.instanceMethod yX2_get, Cond.selects RX2 yX2_get yX2_get, Cond.code yX2_get cX2_get 4 (some .int), Cond.fieldLink RX2 21 "LabelStation$Table" "width" "I", Cond.fieldLink RX2 27 "LabelStation$Table" "cells" "[I"]
noncomputable def wsL_record_r2 : List Cond := [Cond.methodLink RX3 130 yX2_get]
noncomputable def wsL_record : List Cond := .codeWith yL_record cL_record 5 (some .int) [(0, 10, 13, 41), (0, 10, 17, 13)] :: ((wsL_record_r1 ++ wsL_record_r2) ++ wsX30 ++ wsX10 ++ wsX20 ++ (vx_atS RX3 127 "java/util/NoSuchElementException" ["java/lang/RuntimeException", "java/lang/Exception"]).filter goodWord ++ (vx_atS RX3 38 "java/lang/IllegalArgumentException" ["java/lang/RuntimeException", "java/lang/Exception"]).filter goodWord)
noncomputable def wsL_numberAt : List Cond := .codeWith yL_numberAt cL_numberAt 5 (some .int) [(0, 10, 13, 62)] :: ([.classLink RL 62 "java/lang/IndexOutOfBoundsException", .methodLink RL 58 yX3_numberAt, .instanceMethod yX3_numberAt, .selects RX3 yX3_numberAt yX3_numberAt, .initialized RX3, .code yX3_numberAt cX3_numberAt 4 (some .int), .classLink RX3 163 "java/lang/IndexOutOfBoundsException", .initialized "java/lang/IndexOutOfBoundsException", .fieldLink RX3 10 "LabelStation" "state" "LLabelStation$State;", .methodLink RX3 45 yX2_count, .instanceMethod yX2_count, .selects RX2 yX2_count yX2_count, .initialized RX2, .code yX2_count cX2_count 1 (some .int), .fieldLink RX2 9 "LabelStation$Table" "rows" "I", .methodLink RX3 130 yX2_get, .instanceMethod yX2_get, .selects RX2 yX2_get yX2_get, .code yX2_get cX2_get 4 (some .int), .fieldLink RX2 21 "LabelStation$Table" "width" "I", .fieldLink RX2 27 "LabelStation$Table" "cells" "[I"] ++ wsX30 ++ wsX10 ++ wsX20 ++ (vx_atS RX3 167 "java/lang/IndexOutOfBoundsException" ["java/lang/RuntimeException", "java/lang/Exception"]).filter goodWord)
noncomputable def wsL_counter : List Cond := .codeWith yL_counter cL_counter 4 (some .int) [(0, 9, 12, 13)] :: ([.classLink RL 13 "java/lang/IllegalArgumentException", .methodLink RL 64 yX3_counter, .instanceMethod yX3_counter, .selects RX3 yX3_counter yX3_counter, .initialized RX3, .code yX3_counter cX3_counter 2 (some .int), .classLink RX3 34 "java/lang/IllegalArgumentException", .initialized "java/lang/IllegalArgumentException", .fieldLink RX3 10 "LabelStation" "state" "LLabelStation$State;", .methodLink RX3 170 yX1_counted, .instanceMethod yX1_counted, .selects RX1 yX1_counted yX1_counted, .initialized RX1, .code yX1_counted cX1_counted 2 (some .int), .fieldLink RX1 18 "LabelStation$State" "counters" "[I"] ++ wsX30 ++ wsX10 ++ (vx_atS RX3 38 "java/lang/IllegalArgumentException" ["java/lang/RuntimeException", "java/lang/Exception"]).filter goodWord)
noncomputable def wsL_spare_r1 : List Cond := [Cond.classLink RL 13 "java/lang/IllegalArgumentException", Cond.methodLink RL 67 yX3_spare, Cond.instanceMethod yX3_spare, Cond.selects RX3 yX3_spare yX3_spare, Cond.initialized RX3, Cond.code yX3_spare cX3_spare 2 (some .int), Cond.classLink RX3 34 "java/lang/IllegalArgumentException", Cond.initialized "java/lang/IllegalArgumentException", Cond.fieldLink RX3 71 "LabelStation" "LEAST_SETTING" "[I", Cond.fieldLink RX3 75 "LabelStation" "MOST_SETTING" "[I", Cond.methodLink RX3 181 yX3_sparePulses, Cond.instanceMethod yX3_sparePulses, Cond.selects RX3 yX3_sparePulses yX3_sparePulses, Cond.code yX3_sparePulses cX3_sparePulses 3 (some .int), Cond.fieldLink RX3 10 "LabelStation" "state" "LLabelStation$State;", Cond.methodLink RX3 82 yX1_setting, Cond.instanceMethod yX1_setting, Cond.selects RX1 yX1_setting yX1_setting, Cond.initialized RX1, Cond.code yX1_setting cX1_setting 2 (some .int), Cond.fieldLink RX1 9 "LabelStation$State" "settings" "[I", Cond.methodLink RX3 63 yX1_place, Cond.instanceMethod yX1_place, Cond.selects RX1 yX1_place yX1_place]
noncomputable def wsL_spare_r2 : List Cond := [Cond.code yX1_place cX1_place 2 (some .int), Cond.fieldLink RX1 15 "LabelStation$State" "places" "[I"]
noncomputable def wsL_spare : List Cond := .codeWith yL_spare cL_spare 4 (some .int) [(0, 9, 12, 13)] :: ((wsL_spare_r1 ++ wsL_spare_r2) ++ wsX30 ++ wsX10 ++ (vx_atS RX3 38 "java/lang/IllegalArgumentException" ["java/lang/RuntimeException", "java/lang/Exception"]).filter goodWord)
noncomputable def wsL_fate_r1 : List Cond := [Cond.classLink RL 41 "java/util/NoSuchElementException", Cond.methodLink RL 70 yX3_fate, Cond.instanceMethod yX3_fate, Cond.selects RX3 yX3_fate yX3_fate, Cond.initialized RX3, Cond.code yX3_fate cX3_fate 3 (some .int), Cond.classLink RX3 123 "java/util/NoSuchElementException", Cond.initialized "java/util/NoSuchElementException", Cond.fieldLink RX3 10 "LabelStation" "state" "LLabelStation$State;", Cond.fieldLink RX3 16 "LabelStation" "trial" "LLabelStation$State;", Cond.methodLink RX3 120 yX2_find, Cond.instanceMethod yX2_find, Cond.selects RX2 yX2_find yX2_find, Cond.initialized RX2, Cond.code yX2_find cX2_find 3 (some .int), Cond.fieldLink RX2 9 "LabelStation$Table" "rows" "I", Cond.methodLink RX2 41 yX2_get, Cond.instanceMethod yX2_get, Cond.selects RX2 yX2_get yX2_get, Cond.code yX2_get cX2_get 4 (some .int), Cond.fieldLink RX2 21 "LabelStation$Table" "width" "I", Cond.fieldLink RX2 27 "LabelStation$Table" "cells" "[I", Cond.methodLink RX3 184 yX1_copyFrom, Cond.instanceMethod yX1_copyFrom]
noncomputable def wsL_fate_r2 : List Cond := [Cond.selects RX1 yX1_copyFrom yX1_copyFrom, Cond.initialized RX1, Cond.code yX1_copyFrom cX1_copyFrom 2 none, Cond.fieldLink RX1 9 "LabelStation$State" "settings" "[I", Cond.methodLink RX1 68 Lib.Math.min.name, Cond.static Lib.Math.min.name, Cond.initialized "java/lang/Math", Cond.code Lib.Math.min.name Lib.Math.min.code 2 (some .int), Cond.methodLink RX1 74 arraycopyName, Cond.native arraycopyName, Cond.static arraycopyName, Cond.initialized "java/lang/System", Cond.fieldLink RX1 15 "LabelStation$State" "places" "[I", Cond.fieldLink RX1 18 "LabelStation$State" "counters" "[I", Cond.fieldLink RX1 26 "LabelStation$State" "items" "LLabelStation$Table;", Cond.fieldLink RX1 30 "LabelStation$State" "records" "LLabelStation$Table;", Cond.fieldLink RX1 33 "LabelStation$State" "verdicts" "LLabelStation$Table;", Cond.fieldLink RX1 36 "LabelStation$State" "binArrivals" "LLabelStation$Table;", Cond.fieldLink RX1 39 "LabelStation$State" "expectations" "LLabelStation$Table;", Cond.fieldLink RX1 42 "LabelStation$State" "tick" "I", Cond.fieldLink RX1 46 "LabelStation$State" "running" "Z", Cond.fieldLink RX1 50 "LabelStation$State" "alarm" "I", Cond.fieldLink RX1 53 "LabelStation$State" "jammed" "Z", Cond.fieldLink RX1 56 "LabelStation$State" "consecutiveRejects" "I"]
noncomputable def wsL_fate_r3 : List Cond := [Cond.fieldLink RX1 59 "LabelStation$State" "diverted" "I", Cond.methodLink RX1 80 yX2_copyFrom, Cond.instanceMethod yX2_copyFrom, Cond.selects RX2 yX2_copyFrom yX2_copyFrom, Cond.code yX2_copyFrom cX2_copyFrom 2 none, Cond.methodLink RX2 31 arraycopyName, Cond.methodLink RX3 187 yX1_watch, Cond.instanceMethod yX1_watch, Cond.selects RX1 yX1_watch yX1_watch, Cond.code yX1_watch cX1_watch 2 none, Cond.fieldLink RX1 62 "LabelStation$State" "watched" "I", Cond.fieldLink RX1 65 "LabelStation$State" "outcome" "I", Cond.methodLink RX3 148 yX1_passTick, Cond.instanceMethod yX1_passTick, Cond.selects RX1 yX1_passTick yX1_passTick, Cond.code yX1_passTick cX1_passTick 3 none, Cond.methodLink RX1 112 yX1_deliverVerdicts, Cond.instanceMethod yX1_deliverVerdicts, Cond.selects RX1 yX1_deliverVerdicts yX1_deliverVerdicts, Cond.code yX1_deliverVerdicts cX1_deliverVerdicts 2 none, Cond.methodLink RX1 91 yX2_count, Cond.instanceMethod yX2_count, Cond.selects RX2 yX2_count yX2_count, Cond.code yX2_count cX2_count 1 (some .int)]
noncomputable def wsL_fate_r4 : List Cond := [Cond.methodLink RX1 124 yX2_get, Cond.methodLink RX1 127 yX1_deliver, Cond.instanceMethod yX1_deliver, Cond.selects RX1 yX1_deliver yX1_deliver, Cond.code yX1_deliver cX1_deliver 5 none, Cond.methodLink RX1 133 yX2_find, Cond.methodLink RX1 102 yX1_count, Cond.instanceMethod yX1_count, Cond.selects RX1 yX1_count yX1_count, Cond.code yX1_count cX1_count 2 none, Cond.methodLink RX1 108 yX2_put, Cond.instanceMethod yX2_put, Cond.selects RX2 yX2_put yX2_put, Cond.code yX2_put cX2_put 5 none, Cond.methodLink RX1 130 yX2_removeRowsOf, Cond.instanceMethod yX2_removeRowsOf, Cond.selects RX2 yX2_removeRowsOf yX2_removeRowsOf, Cond.code yX2_removeRowsOf cX2_removeRowsOf 3 none, Cond.methodLink RX2 44 yX2_removeRow, Cond.instanceMethod yX2_removeRow, Cond.selects RX2 yX2_removeRow yX2_removeRow, Cond.code yX2_removeRow cX2_removeRow 3 none, Cond.methodLink RX1 115 yX1_fillBin, Cond.instanceMethod yX1_fillBin]
noncomputable def wsL_fate_r5 : List Cond := [Cond.selects RX1 yX1_fillBin yX1_fillBin, Cond.code yX1_fillBin cX1_fillBin 2 none, Cond.methodLink RX1 136 yX1_confirmOldest, Cond.instanceMethod yX1_confirmOldest, Cond.selects RX1 yX1_confirmOldest yX1_confirmOldest, Cond.code yX1_confirmOldest cX1_confirmOldest 1 none, Cond.methodLink RX1 139 yX1_raise, Cond.instanceMethod yX1_raise, Cond.selects RX1 yX1_raise yX1_raise, Cond.code yX1_raise cX1_raise 2 none, Cond.methodLink RX1 142 yX2_removeRow, Cond.methodLink RX1 118 yX1_closeOverdueExpectations, Cond.instanceMethod yX1_closeOverdueExpectations, Cond.selects RX1 yX1_closeOverdueExpectations yX1_closeOverdueExpectations, Cond.code yX1_closeOverdueExpectations cX1_closeOverdueExpectations 2 none, Cond.methodLink RX1 84 yX1_setting, Cond.instanceMethod yX1_setting, Cond.selects RX1 yX1_setting yX1_setting, Cond.code yX1_setting cX1_setting 2 (some .int), Cond.methodLink RX1 121 yX1_pulse, Cond.instanceMethod yX1_pulse, Cond.selects RX1 yX1_pulse yX1_pulse, Cond.code yX1_pulse cX1_pulse 4 none, Cond.methodLink RX1 145 yX2_increase]
noncomputable def wsL_fate_r6 : List Cond := [Cond.instanceMethod yX2_increase, Cond.selects RX2 yX2_increase yX2_increase, Cond.code yX2_increase cX2_increase 3 none, Cond.methodLink RX2 37 yX2_put, Cond.methodLink RX1 148 yX1_staysInRegister, Cond.instanceMethod yX1_staysInRegister, Cond.selects RX1 yX1_staysInRegister yX1_staysInRegister, Cond.code yX1_staysInRegister cX1_staysInRegister 3 (some .boolean), Cond.methodLink RX1 88 yX1_place, Cond.instanceMethod yX1_place, Cond.selects RX1 yX1_place yX1_place, Cond.code yX1_place cX1_place 2 (some .int), Cond.methodLink RX1 155 yX1_labelerActs, Cond.instanceMethod yX1_labelerActs, Cond.selects RX1 yX1_labelerActs yX1_labelerActs, Cond.code yX1_labelerActs cX1_labelerActs 3 none, Cond.methodLink RX1 174 yX1_putSetting, Cond.instanceMethod yX1_putSetting, Cond.selects RX1 yX1_putSetting yX1_putSetting, Cond.code yX1_putSetting cX1_putSetting 3 none, Cond.methodLink RX1 177 yX1_itemAt, Cond.instanceMethod yX1_itemAt, Cond.selects RX1 yX1_itemAt yX1_itemAt, Cond.code yX1_itemAt cX1_itemAt 7 (some .int)]
noncomputable def wsL_fate_r7 : List Cond := [Cond.methodLink RX1 190 Lib.Math.abs.name, Cond.static Lib.Math.abs.name, Cond.code Lib.Math.abs.name Lib.Math.abs.code 1 (some .int), Cond.methodLink RX1 158 yX1_cameraActs, Cond.instanceMethod yX1_cameraActs, Cond.selects RX1 yX1_cameraActs yX1_cameraActs, Cond.code yX1_cameraActs cX1_cameraActs 4 none, Cond.methodLink RX1 105 yX2_addRow, Cond.instanceMethod yX2_addRow, Cond.selects RX2 yX2_addRow yX2_addRow, Cond.code yX2_addRow cX2_addRow 4 (some .int), Cond.fieldLink RX2 24 "LabelStation$Table" "room" "I", Cond.methodLink RX1 180 yX1_seen, Cond.instanceMethod yX1_seen, Cond.selects RX1 yX1_seen yX1_seen, Cond.code yX1_seen cX1_seen 3 (some .int), Cond.methodLink RX1 162 yX1_mayPass, Cond.instanceMethod yX1_mayPass, Cond.selects RX1 yX1_mayPass yX1_mayPass, Cond.code yX1_mayPass cX1_mayPass 2 (some .boolean), Cond.methodLink RX1 165 yX1_reject, Cond.instanceMethod yX1_reject, Cond.selects RX1 yX1_reject yX1_reject, Cond.code yX1_reject cX1_reject 3 none]
noncomputable def wsL_fate_r8 : List Cond := [Cond.methodLink RX1 184 yX1_causeOf, Cond.instanceMethod yX1_causeOf, Cond.selects RX1 yX1_causeOf yX1_causeOf, Cond.code yX1_causeOf cX1_causeOf 2 (some .int), Cond.methodLink RX1 171 yX1_leaveRegister, Cond.instanceMethod yX1_leaveRegister, Cond.selects RX1 yX1_leaveRegister yX1_leaveRegister, Cond.code yX1_leaveRegister cX1_leaveRegister 3 none, Cond.methodLink RX1 168 yX1_pass, Cond.instanceMethod yX1_pass, Cond.selects RX1 yX1_pass yX1_pass, Cond.code yX1_pass cX1_pass 2 none, Cond.methodLink RX1 152 yX1_leaveBelt, Cond.instanceMethod yX1_leaveBelt, Cond.selects RX1 yX1_leaveBelt yX1_leaveBelt, Cond.code yX1_leaveBelt cX1_leaveBelt 3 none, Cond.methodLink RX1 187 yX1_recordForExit, Cond.instanceMethod yX1_recordForExit, Cond.selects RX1 yX1_recordForExit yX1_recordForExit, Cond.code yX1_recordForExit cX1_recordForExit 7 (some .int)]
noncomputable def wsL_fate : List Cond := .codeWith yL_fate cL_fate 4 (some .int) [(0, 9, 12, 41)] :: ((wsL_fate_r1 ++ (wsL_fate_r2 ++ (wsL_fate_r3 ++ (wsL_fate_r4 ++ (wsL_fate_r5 ++ (wsL_fate_r6 ++ (wsL_fate_r7 ++ wsL_fate_r8))))))) ++ wsX30 ++ wsX10 ++ wsX20 ++ (vx_atS RX3 127 "java/util/NoSuchElementException" ["java/lang/RuntimeException", "java/lang/Exception"]).filter goodWord)
noncomputable def wsL_append : List Cond := .codeWith yL_append cL_append 4 (some .int) [(0, 9, 12, 13), (0, 9, 15, 15)] :: ([.classLink RL 13 "java/lang/IllegalArgumentException", .classLink RL 15 "java/lang/IllegalStateException", .methodLink RL 73 yX3_append, .instanceMethod yX3_append, .selects RX3 yX3_append yX3_append, .initialized RX3, .code yX3_append cX3_append 2 (some .int), .classLink RX3 34 "java/lang/IllegalArgumentException", .initialized "java/lang/IllegalArgumentException", .classLink RX3 54 "java/lang/IllegalStateException", .initialized "java/lang/IllegalStateException", .fieldLink RX3 30 "LabelStation" "textLength" "I", .fieldLink RX3 26 "LabelStation" "text" "[B"] ++ wsX30 ++ (vx_atS RX3 38 "java/lang/IllegalArgumentException" ["java/lang/RuntimeException", "java/lang/Exception"]).filter goodWord ++ (vx_atS RX3 58 "java/lang/IllegalStateException" ["java/lang/RuntimeException", "java/lang/Exception"]).filter goodWord)
noncomputable def wsL_undo_r1 : List Cond := [Cond.classLink RL 15 "java/lang/IllegalStateException", Cond.methodLink RL 76 yX3_undo, Cond.instanceMethod yX3_undo, Cond.selects RX3 yX3_undo yX3_undo, Cond.initialized RX3, Cond.code yX3_undo cX3_undo 1 (some .int), Cond.classLink RX3 54 "java/lang/IllegalStateException", Cond.initialized "java/lang/IllegalStateException", Cond.fieldLink RX3 22 "LabelStation" "history" "LLabelStation$History;", Cond.fieldLink RX3 10 "LabelStation" "state" "LLabelStation$State;", Cond.methodLink RX3 215 yX0_count, Cond.instanceMethod yX0_count, Cond.selects RX0 yX0_count yX0_count, Cond.initialized RX0, Cond.code yX0_count cX0_count 1 (some .int), Cond.fieldLink RX0 21 "LabelStation$History" "saved" "I", Cond.methodLink RX3 218 yX0_bringBackLatest, Cond.instanceMethod yX0_bringBackLatest, Cond.selects RX0 yX0_bringBackLatest yX0_bringBackLatest, Cond.code yX0_bringBackLatest cX0_bringBackLatest 2 none, Cond.methodLink RX0 39 yX0_bringBackPrepared, Cond.instanceMethod yX0_bringBackPrepared, Cond.selects RX0 yX0_bringBackPrepared yX0_bringBackPrepared, Cond.code yX0_bringBackPrepared cX0_bringBackPrepared 3 none]
noncomputable def wsL_undo_r2 : List Cond := [Cond.methodLink RX0 32 yX0_slotAt, Cond.instanceMethod yX0_slotAt, Cond.selects RX0 yX0_slotAt yX0_slotAt, Cond.code yX0_slotAt cX0_slotAt 3 (some (.object "LabelStation$State")), Cond.fieldLink RX0 17 "LabelStation$History" "oldest" "I", Cond.fieldLink RX0 11 "LabelStation$History" "slots" "[LLabelStation$State;", Cond.methodLink RX0 36 yX1_copyFrom, Cond.instanceMethod yX1_copyFrom, Cond.selects RX1 yX1_copyFrom yX1_copyFrom, Cond.initialized RX1, Cond.code yX1_copyFrom cX1_copyFrom 2 none, Cond.fieldLink RX1 9 "LabelStation$State" "settings" "[I", Cond.methodLink RX1 68 Lib.Math.min.name, Cond.static Lib.Math.min.name, Cond.initialized "java/lang/Math", Cond.code Lib.Math.min.name Lib.Math.min.code 2 (some .int), Cond.methodLink RX1 74 arraycopyName, Cond.native arraycopyName, Cond.static arraycopyName, Cond.initialized "java/lang/System", Cond.fieldLink RX1 15 "LabelStation$State" "places" "[I", Cond.fieldLink RX1 18 "LabelStation$State" "counters" "[I", Cond.fieldLink RX1 26 "LabelStation$State" "items" "LLabelStation$Table;", Cond.fieldLink RX1 30 "LabelStation$State" "records" "LLabelStation$Table;"]
noncomputable def wsL_undo_r3 : List Cond := [Cond.fieldLink RX1 33 "LabelStation$State" "verdicts" "LLabelStation$Table;", Cond.fieldLink RX1 36 "LabelStation$State" "binArrivals" "LLabelStation$Table;", Cond.fieldLink RX1 39 "LabelStation$State" "expectations" "LLabelStation$Table;", Cond.fieldLink RX1 42 "LabelStation$State" "tick" "I", Cond.fieldLink RX1 46 "LabelStation$State" "running" "Z", Cond.fieldLink RX1 50 "LabelStation$State" "alarm" "I", Cond.fieldLink RX1 53 "LabelStation$State" "jammed" "Z", Cond.fieldLink RX1 56 "LabelStation$State" "consecutiveRejects" "I", Cond.fieldLink RX1 59 "LabelStation$State" "diverted" "I", Cond.methodLink RX1 80 yX2_copyFrom, Cond.instanceMethod yX2_copyFrom, Cond.selects RX2 yX2_copyFrom yX2_copyFrom, Cond.initialized RX2, Cond.code yX2_copyFrom cX2_copyFrom 2 none, Cond.fieldLink RX2 27 "LabelStation$Table" "cells" "[I", Cond.methodLink RX2 31 arraycopyName, Cond.fieldLink RX2 9 "LabelStation$Table" "rows" "I"]
noncomputable def wsL_undo : List Cond := .codeWith yL_undo cL_undo 3 (some .int) [(0, 8, 11, 15)] :: ((wsL_undo_r1 ++ (wsL_undo_r2 ++ wsL_undo_r3)) ++ wsX30 ++ wsX00 ++ wsX10 ++ wsX20 ++ (vx_atS RX3 58 "java/lang/IllegalStateException" ["java/lang/RuntimeException", "java/lang/Exception"]).filter goodWord)
noncomputable def wsL_law0_r1 : List Cond := [Cond.classLink RL 8 RX3, Cond.instantiable RX3 5, Cond.initialized RX3, Cond.classLink RL 80 RX4, Cond.instantiable RX4 8, Cond.initialized RX4, Cond.arrayClass .long, Cond.methodLink RL 79 yX3_init, Cond.instanceMethod yX3_init, Cond.code yX3_init cX3_init 1 none, Cond.methodLink RX3 1 objectInit, Cond.instanceMethod objectInit, Cond.code objectInit ⟨#[0xb1]⟩ 1 none, Cond.classLink RX3 7 RX1, Cond.instantiable RX1 16, Cond.initialized RX1, Cond.fieldLink RX3 10 "LabelStation" "state" "LLabelStation$State;", Cond.fieldLink RX3 16 "LabelStation" "trial" "LLabelStation$State;", Cond.classLink RX3 19 RX0, Cond.instantiable RX0 3, Cond.initialized RX0, Cond.fieldLink RX3 22 "LabelStation" "history" "LLabelStation$History;", Cond.arrayClass .byte, Cond.fieldLink RX3 26 "LabelStation" "text" "[B"]
noncomputable def wsL_law0_r2 : List Cond := [Cond.fieldLink RX3 30 "LabelStation" "textLength" "I", Cond.methodLink RX3 9 yX1_init, Cond.instanceMethod yX1_init, Cond.code yX1_init cX1_init 1 none, Cond.methodLink RX1 3 objectInit, Cond.arrayClass .int, Cond.fieldLink RX1 9 "LabelStation$State" "settings" "[I", Cond.fieldLink RX1 15 "LabelStation$State" "places" "[I", Cond.fieldLink RX1 18 "LabelStation$State" "counters" "[I", Cond.classLink RX1 21 RX2, Cond.instantiable RX2 4, Cond.initialized RX2, Cond.fieldLink RX1 26 "LabelStation$State" "items" "LLabelStation$Table;", Cond.fieldLink RX1 30 "LabelStation$State" "records" "LLabelStation$Table;", Cond.fieldLink RX1 33 "LabelStation$State" "verdicts" "LLabelStation$Table;", Cond.fieldLink RX1 36 "LabelStation$State" "binArrivals" "LLabelStation$Table;", Cond.fieldLink RX1 39 "LabelStation$State" "expectations" "LLabelStation$Table;", Cond.fieldLink RX1 42 "LabelStation$State" "tick" "I", Cond.fieldLink RX1 46 "LabelStation$State" "running" "Z", Cond.fieldLink RX1 50 "LabelStation$State" "alarm" "I", Cond.fieldLink RX1 53 "LabelStation$State" "jammed" "Z", Cond.fieldLink RX1 56 "LabelStation$State" "consecutiveRejects" "I", Cond.fieldLink RX1 59 "LabelStation$State" "diverted" "I", Cond.fieldLink RX1 62 "LabelStation$State" "watched" "I"]
noncomputable def wsL_law0_r3 : List Cond := [Cond.fieldLink RX1 65 "LabelStation$State" "outcome" "I", Cond.methodLink RX1 23 yX2_init, Cond.instanceMethod yX2_init, Cond.code yX2_init cX2_init 3 none, Cond.methodLink RX2 3 objectInit, Cond.fieldLink RX2 9 "LabelStation$Table" "rows" "I", Cond.methodLink RX2 15 Lib.Math.max.name, Cond.static Lib.Math.max.name, Cond.initialized "java/lang/Math", Cond.code Lib.Math.max.name Lib.Math.max.code 2 (some .int), Cond.fieldLink RX2 21 "LabelStation$Table" "width" "I", Cond.fieldLink RX2 24 "LabelStation$Table" "room" "I", Cond.fieldLink RX2 27 "LabelStation$Table" "cells" "[I", Cond.methodLink RX3 21 yX0_init, Cond.instanceMethod yX0_init, Cond.code yX0_init cX0_init 2 none, Cond.methodLink RX0 3 objectInit, Cond.classLink RX0 9 RX1, Cond.fieldLink RX0 11 "LabelStation$History" "slots" "[LLabelStation$State;", Cond.fieldLink RX0 17 "LabelStation$History" "oldest" "I", Cond.fieldLink RX0 21 "LabelStation$History" "saved" "I", Cond.methodLink RX0 24 yX1_init, Cond.methodLink RL 82 yX4_init, Cond.instanceMethod yX4_init]
noncomputable def wsL_law0_r4 : List Cond := [Cond.code yX4_init cX4_init 1 none, Cond.methodLink RX4 1 objectInit, Cond.fieldLink RX4 7 "LabelStationModel" "now" "[I", Cond.fieldLink RX4 13 "LabelStationModel" "past" "[I", Cond.fieldLink RX4 16 "LabelStationModel" "aside" "[I", Cond.fieldLink RX4 19 "LabelStationModel" "text" "[I", Cond.methodLink RL 83 yL_setPlaces, Cond.static yL_setPlaces, Cond.initialized RL, Cond.codeWith yL_setPlaces cL_setPlaces 8 (some .int) [(0, 16, 19, 13), (0, 16, 23, 15)], Cond.classLink RL 13 "java/lang/IllegalArgumentException", Cond.classLink RL 15 "java/lang/IllegalStateException", Cond.methodLink RL 7 yX3_setPlaces, Cond.instanceMethod yX3_setPlaces, Cond.selects RX3 yX3_setPlaces yX3_setPlaces, Cond.code yX3_setPlaces cX3_setPlaces 8 (some .int), Cond.classLink RX3 34 "java/lang/IllegalArgumentException", Cond.initialized "java/lang/IllegalArgumentException", Cond.classLink RX3 54 "java/lang/IllegalStateException", Cond.initialized "java/lang/IllegalStateException", Cond.methodLink RX3 45 yX2_count, Cond.instanceMethod yX2_count, Cond.selects RX2 yX2_count yX2_count, Cond.code yX2_count cX2_count 1 (some .int)]
noncomputable def wsL_law0_r5 : List Cond := [Cond.methodLink RX3 59 yX0_save, Cond.instanceMethod yX0_save, Cond.selects RX0 yX0_save yX0_save, Cond.code yX0_save cX0_save 2 none, Cond.methodLink RX0 25 yX0_prepare, Cond.instanceMethod yX0_prepare, Cond.selects RX0 yX0_prepare yX0_prepare, Cond.code yX0_prepare cX0_prepare 3 none, Cond.methodLink RX0 32 yX0_slotAt, Cond.instanceMethod yX0_slotAt, Cond.selects RX0 yX0_slotAt yX0_slotAt, Cond.code yX0_slotAt cX0_slotAt 3 (some (.object "LabelStation$State")), Cond.methodLink RX0 36 yX1_copyFrom, Cond.instanceMethod yX1_copyFrom, Cond.selects RX1 yX1_copyFrom yX1_copyFrom, Cond.code yX1_copyFrom cX1_copyFrom 2 none, Cond.methodLink RX1 68 Lib.Math.min.name, Cond.static Lib.Math.min.name, Cond.code Lib.Math.min.name Lib.Math.min.code 2 (some .int), Cond.methodLink RX1 74 arraycopyName, Cond.native arraycopyName, Cond.static arraycopyName, Cond.initialized "java/lang/System", Cond.methodLink RX1 80 yX2_copyFrom]
noncomputable def wsL_law0_r6 : List Cond := [Cond.instanceMethod yX2_copyFrom, Cond.selects RX2 yX2_copyFrom yX2_copyFrom, Cond.code yX2_copyFrom cX2_copyFrom 2 none, Cond.methodLink RX2 31 arraycopyName, Cond.methodLink RX0 29 yX0_keepPrepared, Cond.instanceMethod yX0_keepPrepared, Cond.selects RX0 yX0_keepPrepared yX0_keepPrepared, Cond.code yX0_keepPrepared cX0_keepPrepared 1 none, Cond.methodLink RX3 63 yX1_place, Cond.instanceMethod yX1_place, Cond.selects RX1 yX1_place yX1_place, Cond.code yX1_place cX1_place 2 (some .int), Cond.methodLink RX3 67 yX1_putPlace, Cond.instanceMethod yX1_putPlace, Cond.selects RX1 yX1_putPlace yX1_putPlace, Cond.code yX1_putPlace cX1_putPlace 3 none, Cond.methodLink RL 88 yX4_setPlaces, Cond.instanceMethod yX4_setPlaces, Cond.selects RX4 yX4_setPlaces yX4_setPlaces, Cond.code yX4_setPlaces cX4_setPlaces 8 (some .int), Cond.methodLink RX4 29 yX4_refused, Cond.instanceMethod yX4_refused, Cond.selects RX4 yX4_refused yX4_refused, Cond.code yX4_refused cX4_refused 2 (some .boolean)]
noncomputable def wsL_law0_r7 : List Cond := [Cond.fieldLink RX4 22 "LabelStationModel" "refusal" "I", Cond.methodLink RX4 44 yX4_saves, Cond.instanceMethod yX4_saves, Cond.selects RX4 yX4_saves yX4_saves, Cond.code yX4_saves cX4_saves 2 none, Cond.fieldLink RX4 26 "LabelStationModel" "saved" "I", Cond.methodLink RL 89 yX4_thrown, Cond.instanceMethod yX4_thrown, Cond.selects RX4 yX4_thrown yX4_thrown, Cond.code yX4_thrown cX4_thrown 1 (some .int), Cond.methodLink RL 92 yL_set, Cond.static yL_set, Cond.codeWith yL_set cL_set 5 (some .int) [(0, 10, 13, 13)], Cond.methodLink RL 17 yX3_set, Cond.instanceMethod yX3_set, Cond.selects RX3 yX3_set yX3_set, Cond.code yX3_set cX3_set 4 (some .int), Cond.fieldLink RX3 71 "LabelStation" "LEAST_SETTING" "[I", Cond.fieldLink RX3 75 "LabelStation" "MOST_SETTING" "[I", Cond.methodLink RX3 82 yX1_setting, Cond.instanceMethod yX1_setting, Cond.selects RX1 yX1_setting yX1_setting, Cond.code yX1_setting cX1_setting 2 (some .int), Cond.methodLink RX3 85 yX1_putSetting]
noncomputable def wsL_law0_r8 : List Cond := [Cond.instanceMethod yX1_putSetting, Cond.selects RX1 yX1_putSetting yX1_putSetting, Cond.code yX1_putSetting cX1_putSetting 3 none, Cond.methodLink RL 95 yX4_set, Cond.instanceMethod yX4_set, Cond.selects RX4 yX4_set yX4_set, Cond.code yX4_set cX4_set 4 (some .int), Cond.methodLink RX4 47 yX4_isSetting, Cond.static yX4_isSetting, Cond.code yX4_isSetting cX4_isSetting 2 (some .boolean), Cond.methodLink RX4 40 yX4_within, Cond.static yX4_within, Cond.code yX4_within cX4_within 3 (some .boolean), Cond.methodLink RL 96 yL_value, Cond.static yL_value, Cond.codeWith yL_value cL_value 4 (some .int) [(0, 9, 12, 13)], Cond.methodLink RL 21 yX3_value, Cond.instanceMethod yX3_value, Cond.selects RX3 yX3_value yX3_value, Cond.code yX3_value cX3_value 2 (some .int), Cond.methodLink RX3 90 yX1_valueOf, Cond.instanceMethod yX1_valueOf, Cond.selects RX1 yX1_valueOf yX1_valueOf, Cond.code yX1_valueOf cX1_valueOf 2 (some .int)]
noncomputable def wsL_law0_r9 : List Cond := [Cond.methodLink RX1 84 yX1_setting, Cond.methodLink RX1 88 yX1_place, Cond.methodLink RL 99 yX4_value, Cond.instanceMethod yX4_value, Cond.selects RX4 yX4_value yX4_value, Cond.code yX4_value cX4_value 2 (some .int), Cond.methodLink RL 100 yX3_jam, Cond.instanceMethod yX3_jam, Cond.selects RX3 yX3_jam yX3_jam, Cond.code yX3_jam cX3_jam 3 (some .boolean), Cond.methodLink RL 104 yX4_jam, Cond.instanceMethod yX4_jam, Cond.selects RX4 yX4_jam yX4_jam, Cond.code yX4_jam cX4_jam 3 (some .boolean), Cond.methodLink RL 105 yL_start, Cond.static yL_start, Cond.codeWith yL_start cL_start 3 (some .int) [(0, 8, 11, 15)], Cond.methodLink RL 25 yX3_start, Cond.instanceMethod yX3_start, Cond.selects RX3 yX3_start yX3_start, Cond.code yX3_start cX3_start 1 (some .int), Cond.methodLink RL 108 yX4_start, Cond.instanceMethod yX4_start, Cond.selects RX4 yX4_start yX4_start]
noncomputable def wsL_law0_r10 : List Cond := [Cond.code yX4_start cX4_start 1 (some .int), Cond.methodLink RL 109 yL_stop, Cond.static yL_stop, Cond.codeWith yL_stop cL_stop 3 (some .int) [(0, 8, 11, 15)], Cond.methodLink RL 29 yX3_stop, Cond.instanceMethod yX3_stop, Cond.selects RX3 yX3_stop yX3_stop, Cond.code yX3_stop cX3_stop 1 (some .int), Cond.methodLink RL 111 yX4_stop, Cond.instanceMethod yX4_stop, Cond.selects RX4 yX4_stop yX4_stop, Cond.code yX4_stop cX4_stop 1 (some .int), Cond.methodLink RL 112 yL_reset, Cond.static yL_reset, Cond.codeWith yL_reset cL_reset 3 (some .int) [(0, 8, 11, 15)], Cond.methodLink RL 32 yX3_reset, Cond.instanceMethod yX3_reset, Cond.selects RX3 yX3_reset yX3_reset, Cond.code yX3_reset cX3_reset 2 (some .int), Cond.methodLink RL 114 yX4_reset, Cond.instanceMethod yX4_reset, Cond.selects RX4 yX4_reset yX4_reset, Cond.code yX4_reset cX4_reset 2 (some .int), Cond.methodLink RL 115 yL_feed]
noncomputable def wsL_law0_r11 : List Cond := [Cond.static yL_feed, Cond.codeWith yL_feed cL_feed 4 (some .int) [(0, 9, 12, 13), (0, 9, 15, 15)], Cond.methodLink RL 35 yX3_feed, Cond.instanceMethod yX3_feed, Cond.selects RX3 yX3_feed yX3_feed, Cond.code yX3_feed cX3_feed 2 (some .int), Cond.methodLink RX3 111 yX1_hasRoom, Cond.instanceMethod yX1_hasRoom, Cond.selects RX1 yX1_hasRoom yX1_hasRoom, Cond.code yX1_hasRoom cX1_hasRoom 1 (some .boolean), Cond.methodLink RX1 91 yX2_count, Cond.methodLink RX1 95 yX2_hasBelow, Cond.instanceMethod yX2_hasBelow, Cond.selects RX2 yX2_hasBelow yX2_hasBelow, Cond.code yX2_hasBelow cX2_hasBelow 4 (some .boolean), Cond.methodLink RX2 41 yX2_get, Cond.instanceMethod yX2_get, Cond.selects RX2 yX2_get yX2_get, Cond.code yX2_get cX2_get 4 (some .int), Cond.methodLink RX3 117 yX1_enter, Cond.instanceMethod yX1_enter, Cond.selects RX1 yX1_enter yX1_enter, Cond.code yX1_enter cX1_enter 4 (some .int), Cond.methodLink RX1 99 yX1_counted]
noncomputable def wsL_law0_r12 : List Cond := [Cond.instanceMethod yX1_counted, Cond.selects RX1 yX1_counted yX1_counted, Cond.code yX1_counted cX1_counted 2 (some .int), Cond.methodLink RX1 102 yX1_count, Cond.instanceMethod yX1_count, Cond.selects RX1 yX1_count yX1_count, Cond.code yX1_count cX1_count 2 none, Cond.methodLink RX1 105 yX2_addRow, Cond.instanceMethod yX2_addRow, Cond.selects RX2 yX2_addRow yX2_addRow, Cond.code yX2_addRow cX2_addRow 4 (some .int), Cond.methodLink RX2 37 yX2_put, Cond.instanceMethod yX2_put, Cond.selects RX2 yX2_put yX2_put, Cond.code yX2_put cX2_put 5 none, Cond.methodLink RX1 108 yX2_put, Cond.methodLink RL 117 yX4_feed, Cond.instanceMethod yX4_feed, Cond.selects RX4 yX4_feed yX4_feed, Cond.code yX4_feed cX4_feed 2 (some .int), Cond.methodLink RX4 55 yX4_barFeed, Cond.instanceMethod yX4_barFeed, Cond.selects RX4 yX4_barFeed yX4_barFeed, Cond.code yX4_barFeed cX4_barFeed 4 (some .int)]
noncomputable def wsL_law0_r13 : List Cond := [Cond.methodLink RX4 33 yX4_thing, Cond.static yX4_thing, Cond.code yX4_thing cX4_thing 2 (some .int), Cond.methodLink RX4 37 yX4_entry, Cond.static yX4_entry, Cond.code yX4_entry cX4_entry 2 (some .int), Cond.methodLink RX4 59 yX4_feeds, Cond.instanceMethod yX4_feeds, Cond.selects RX4 yX4_feeds yX4_feeds, Cond.code yX4_feeds cX4_feeds 6 (some .int), Cond.methodLink RX4 51 yX4_counts, Cond.instanceMethod yX4_counts, Cond.selects RX4 yX4_counts yX4_counts, Cond.code yX4_counts cX4_counts 2 none, Cond.methodLink RL 118 yL_slip, Cond.static yL_slip, Cond.codeWith yL_slip cL_slip 5 (some .int) [(0, 10, 13, 41), (0, 10, 17, 13)], Cond.classLink RL 41 "java/util/NoSuchElementException", Cond.methodLink RL 38 yX3_slip, Cond.instanceMethod yX3_slip, Cond.selects RX3 yX3_slip yX3_slip, Cond.code yX3_slip cX3_slip 5 (some .int), Cond.classLink RX3 123 "java/util/NoSuchElementException", Cond.initialized "java/util/NoSuchElementException"]
noncomputable def wsL_law0_r14 : List Cond := [Cond.methodLink RX3 120 yX2_find, Cond.instanceMethod yX2_find, Cond.selects RX2 yX2_find yX2_find, Cond.code yX2_find cX2_find 3 (some .int), Cond.methodLink RX3 130 yX2_get, Cond.methodLink RX3 136 yX2_put, Cond.methodLink RL 120 yX4_slip, Cond.instanceMethod yX4_slip, Cond.selects RX4 yX4_slip yX4_slip, Cond.code yX4_slip cX4_slip 5 (some .int), Cond.methodLink RX4 62 yX4_itemOf, Cond.instanceMethod yX4_itemOf, Cond.selects RX4 yX4_itemOf yX4_itemOf, Cond.code yX4_itemOf cX4_itemOf 4 (some .int), Cond.methodLink RL 121 yL_take, Cond.static yL_take, Cond.codeWith yL_take cL_take 4 (some .int) [(0, 9, 12, 41)], Cond.methodLink RL 43 yX3_take, Cond.instanceMethod yX3_take, Cond.selects RX3 yX3_take yX3_take, Cond.code yX3_take cX3_take 4 (some .int), Cond.methodLink RX3 140 yX2_removeRow, Cond.instanceMethod yX2_removeRow, Cond.selects RX2 yX2_removeRow yX2_removeRow]
noncomputable def wsL_law0_r15 : List Cond := [Cond.code yX2_removeRow cX2_removeRow 3 none, Cond.methodLink RX3 144 yX1_count, Cond.methodLink RL 123 yX4_take, Cond.instanceMethod yX4_take, Cond.selects RX4 yX4_take yX4_take, Cond.code yX4_take cX4_take 4 (some .int), Cond.methodLink RX4 65 yX4_drops, Cond.instanceMethod yX4_drops, Cond.selects RX4 yX4_drops yX4_drops, Cond.code yX4_drops cX4_drops 6 none, Cond.methodLink RL 124 yL_run, Cond.static yL_run, Cond.codeWith yL_run cL_run 4 (some .int) [(0, 9, 12, 13)], Cond.methodLink RL 46 yX3_run, Cond.instanceMethod yX3_run, Cond.selects RX3 yX3_run yX3_run, Cond.code yX3_run cX3_run 3 (some .int), Cond.methodLink RX3 148 yX1_passTick, Cond.instanceMethod yX1_passTick, Cond.selects RX1 yX1_passTick yX1_passTick, Cond.code yX1_passTick cX1_passTick 3 none, Cond.methodLink RX1 112 yX1_deliverVerdicts, Cond.instanceMethod yX1_deliverVerdicts, Cond.selects RX1 yX1_deliverVerdicts yX1_deliverVerdicts]
noncomputable def wsL_law0_r16 : List Cond := [Cond.code yX1_deliverVerdicts cX1_deliverVerdicts 2 none, Cond.methodLink RX1 124 yX2_get, Cond.methodLink RX1 127 yX1_deliver, Cond.instanceMethod yX1_deliver, Cond.selects RX1 yX1_deliver yX1_deliver, Cond.code yX1_deliver cX1_deliver 5 none, Cond.methodLink RX1 133 yX2_find, Cond.methodLink RX1 130 yX2_removeRowsOf, Cond.instanceMethod yX2_removeRowsOf, Cond.selects RX2 yX2_removeRowsOf yX2_removeRowsOf, Cond.code yX2_removeRowsOf cX2_removeRowsOf 3 none, Cond.methodLink RX2 44 yX2_removeRow, Cond.methodLink RX1 115 yX1_fillBin, Cond.instanceMethod yX1_fillBin, Cond.selects RX1 yX1_fillBin yX1_fillBin, Cond.code yX1_fillBin cX1_fillBin 2 none, Cond.methodLink RX1 136 yX1_confirmOldest, Cond.instanceMethod yX1_confirmOldest, Cond.selects RX1 yX1_confirmOldest yX1_confirmOldest, Cond.code yX1_confirmOldest cX1_confirmOldest 1 none, Cond.methodLink RX1 139 yX1_raise, Cond.instanceMethod yX1_raise, Cond.selects RX1 yX1_raise yX1_raise, Cond.code yX1_raise cX1_raise 2 none]
noncomputable def wsL_law0_r17 : List Cond := [Cond.methodLink RX1 142 yX2_removeRow, Cond.methodLink RX1 118 yX1_closeOverdueExpectations, Cond.instanceMethod yX1_closeOverdueExpectations, Cond.selects RX1 yX1_closeOverdueExpectations yX1_closeOverdueExpectations, Cond.code yX1_closeOverdueExpectations cX1_closeOverdueExpectations 2 none, Cond.methodLink RX1 121 yX1_pulse, Cond.instanceMethod yX1_pulse, Cond.selects RX1 yX1_pulse yX1_pulse, Cond.code yX1_pulse cX1_pulse 4 none, Cond.methodLink RX1 145 yX2_increase, Cond.instanceMethod yX2_increase, Cond.selects RX2 yX2_increase yX2_increase, Cond.code yX2_increase cX2_increase 3 none, Cond.methodLink RX1 148 yX1_staysInRegister, Cond.instanceMethod yX1_staysInRegister, Cond.selects RX1 yX1_staysInRegister yX1_staysInRegister, Cond.code yX1_staysInRegister cX1_staysInRegister 3 (some .boolean), Cond.methodLink RX1 155 yX1_labelerActs, Cond.instanceMethod yX1_labelerActs, Cond.selects RX1 yX1_labelerActs yX1_labelerActs, Cond.code yX1_labelerActs cX1_labelerActs 3 none, Cond.methodLink RX1 174 yX1_putSetting, Cond.methodLink RX1 177 yX1_itemAt, Cond.instanceMethod yX1_itemAt]
noncomputable def wsL_law0_r18 : List Cond := [Cond.selects RX1 yX1_itemAt yX1_itemAt, Cond.code yX1_itemAt cX1_itemAt 7 (some .int), Cond.methodLink RX1 190 Lib.Math.abs.name, Cond.static Lib.Math.abs.name, Cond.code Lib.Math.abs.name Lib.Math.abs.code 1 (some .int), Cond.methodLink RX1 158 yX1_cameraActs, Cond.instanceMethod yX1_cameraActs, Cond.selects RX1 yX1_cameraActs yX1_cameraActs, Cond.code yX1_cameraActs cX1_cameraActs 4 none, Cond.methodLink RX1 180 yX1_seen, Cond.instanceMethod yX1_seen, Cond.selects RX1 yX1_seen yX1_seen, Cond.code yX1_seen cX1_seen 3 (some .int), Cond.methodLink RX1 162 yX1_mayPass, Cond.instanceMethod yX1_mayPass, Cond.selects RX1 yX1_mayPass yX1_mayPass, Cond.code yX1_mayPass cX1_mayPass 2 (some .boolean), Cond.methodLink RX1 165 yX1_reject, Cond.instanceMethod yX1_reject, Cond.selects RX1 yX1_reject yX1_reject, Cond.code yX1_reject cX1_reject 3 none, Cond.methodLink RX1 184 yX1_causeOf, Cond.instanceMethod yX1_causeOf, Cond.selects RX1 yX1_causeOf yX1_causeOf]
noncomputable def wsL_law0_r19 : List Cond := [Cond.code yX1_causeOf cX1_causeOf 2 (some .int), Cond.methodLink RX1 171 yX1_leaveRegister, Cond.instanceMethod yX1_leaveRegister, Cond.selects RX1 yX1_leaveRegister yX1_leaveRegister, Cond.code yX1_leaveRegister cX1_leaveRegister 3 none, Cond.methodLink RX1 168 yX1_pass, Cond.instanceMethod yX1_pass, Cond.selects RX1 yX1_pass yX1_pass, Cond.code yX1_pass cX1_pass 2 none, Cond.methodLink RX1 152 yX1_leaveBelt, Cond.instanceMethod yX1_leaveBelt, Cond.selects RX1 yX1_leaveBelt yX1_leaveBelt, Cond.code yX1_leaveBelt cX1_leaveBelt 3 none, Cond.methodLink RX1 187 yX1_recordForExit, Cond.instanceMethod yX1_recordForExit, Cond.selects RX1 yX1_recordForExit yX1_recordForExit, Cond.code yX1_recordForExit cX1_recordForExit 7 (some .int), Cond.methodLink RL 126 yX4_run, Cond.instanceMethod yX4_run, Cond.selects RX4 yX4_run yX4_run, Cond.code yX4_run cX4_run 2 (some .int), Cond.methodLink RX4 113 yX4_runs, Cond.instanceMethod yX4_runs, Cond.selects RX4 yX4_runs yX4_runs]
noncomputable def wsL_law0_r20 : List Cond := [Cond.code yX4_runs cX4_runs 3 (some .int), Cond.methodLink RX4 110 yX4_tickOn, Cond.instanceMethod yX4_tickOn, Cond.selects RX4 yX4_tickOn yX4_tickOn, Cond.code yX4_tickOn cX4_tickOn 2 none, Cond.methodLink RX4 101 yX4_delivers, Cond.instanceMethod yX4_delivers, Cond.selects RX4 yX4_delivers yX4_delivers, Cond.code yX4_delivers cX4_delivers 3 none, Cond.methodLink RX4 69 yX4_tells, Cond.instanceMethod yX4_tells, Cond.selects RX4 yX4_tells yX4_tells, Cond.code yX4_tells cX4_tells 6 none, Cond.methodLink RX4 73 yX4_recordOf, Cond.instanceMethod yX4_recordOf, Cond.selects RX4 yX4_recordOf yX4_recordOf, Cond.code yX4_recordOf cX4_recordOf 4 (some .int), Cond.methodLink RX4 104 yX4_arrives, Cond.instanceMethod yX4_arrives, Cond.selects RX4 yX4_arrives yX4_arrives, Cond.code yX4_arrives cX4_arrives 3 none, Cond.methodLink RX4 76 yX4_alarms, Cond.instanceMethod yX4_alarms, Cond.selects RX4 yX4_alarms yX4_alarms]
noncomputable def wsL_law0_r21 : List Cond := [Cond.code yX4_alarms cX4_alarms 2 none, Cond.methodLink RX4 107 yX4_pulses, Cond.instanceMethod yX4_pulses, Cond.selects RX4 yX4_pulses yX4_pulses, Cond.code yX4_pulses cX4_pulses 3 none, Cond.methodLink RX4 95 yX4_acts, Cond.instanceMethod yX4_acts, Cond.selects RX4 yX4_acts yX4_acts, Cond.code yX4_acts cX4_acts 3 (some .boolean), Cond.methodLink RX4 86 yX4_labels, Cond.instanceMethod yX4_labels, Cond.selects RX4 yX4_labels yX4_labels, Cond.code yX4_labels cX4_labels 3 none, Cond.methodLink RX4 79 yX4_itemAt, Cond.instanceMethod yX4_itemAt, Cond.selects RX4 yX4_itemAt yX4_itemAt, Cond.code yX4_itemAt cX4_itemAt 6 (some .int), Cond.methodLink RX4 89 yX4_looks, Cond.instanceMethod yX4_looks, Cond.selects RX4 yX4_looks yX4_looks, Cond.code yX4_looks cX4_looks 6 none, Cond.methodLink RX4 92 yX4_gates, Cond.instanceMethod yX4_gates, Cond.selects RX4 yX4_gates yX4_gates]
noncomputable def wsL_law0_r22 : List Cond := [Cond.code yX4_gates cX4_gates 5 (some .boolean), Cond.methodLink RX4 82 yX4_leaves, Cond.instanceMethod yX4_leaves, Cond.selects RX4 yX4_leaves yX4_leaves, Cond.code yX4_leaves cX4_leaves 3 none, Cond.methodLink RX4 98 yX4_exits, Cond.instanceMethod yX4_exits, Cond.selects RX4 yX4_exits yX4_exits, Cond.code yX4_exits cX4_exits 5 none, Cond.methodLink RL 127 yL_status, Cond.static yL_status, Cond.codeWith yL_status cL_status 4 (some .int) [(0, 9, 12, 13)], Cond.methodLink RL 49 yX3_status, Cond.instanceMethod yX3_status, Cond.selects RX3 yX3_status yX3_status, Cond.code yX3_status cX3_status 2 (some .int), Cond.methodLink RX3 156 yX1_statusOf, Cond.instanceMethod yX1_statusOf, Cond.selects RX1 yX1_statusOf yX1_statusOf, Cond.code yX1_statusOf cX1_statusOf 2 (some .int), Cond.methodLink RL 129 yX4_status, Cond.instanceMethod yX4_status, Cond.selects RX4 yX4_status yX4_status, Cond.code yX4_status cX4_status 2 (some .int)]
noncomputable def wsL_law0_r23 : List Cond := [Cond.methodLink RX4 116 yX4_tellStatus, Cond.instanceMethod yX4_tellStatus, Cond.selects RX4 yX4_tellStatus yX4_tellStatus, Cond.code yX4_tellStatus cX4_tellStatus 2 (some .int), Cond.methodLink RL 130 yL_item, Cond.static yL_item, Cond.codeWith yL_item cL_item 5 (some .int) [(0, 10, 13, 41), (0, 10, 17, 13)], Cond.methodLink RL 52 yX3_item, Cond.instanceMethod yX3_item, Cond.selects RX3 yX3_item yX3_item, Cond.code yX3_item cX3_item 4 (some .int), Cond.methodLink RL 132 yX4_item, Cond.instanceMethod yX4_item, Cond.selects RX4 yX4_item yX4_item, Cond.code yX4_item cX4_item 4 (some .int), Cond.methodLink RL 133 yL_record, Cond.static yL_record, Cond.codeWith yL_record cL_record 5 (some .int) [(0, 10, 13, 41), (0, 10, 17, 13)], Cond.methodLink RL 55 yX3_record, Cond.instanceMethod yX3_record, Cond.selects RX3 yX3_record yX3_record, Cond.code yX3_record cX3_record 4 (some .int), Cond.methodLink RL 135 yX4_record, Cond.instanceMethod yX4_record]
noncomputable def wsL_law0_r24 : List Cond := [Cond.selects RX4 yX4_record yX4_record, Cond.code yX4_record cX4_record 4 (some .int), Cond.methodLink RL 136 yL_numberAt, Cond.static yL_numberAt, Cond.codeWith yL_numberAt cL_numberAt 5 (some .int) [(0, 10, 13, 62)], Cond.classLink RL 62 "java/lang/IndexOutOfBoundsException", Cond.methodLink RL 58 yX3_numberAt, Cond.instanceMethod yX3_numberAt, Cond.selects RX3 yX3_numberAt yX3_numberAt, Cond.code yX3_numberAt cX3_numberAt 4 (some .int), Cond.classLink RX3 163 "java/lang/IndexOutOfBoundsException", Cond.initialized "java/lang/IndexOutOfBoundsException", Cond.methodLink RL 139 yX4_numberAt, Cond.instanceMethod yX4_numberAt, Cond.selects RX4 yX4_numberAt yX4_numberAt, Cond.code yX4_numberAt cX4_numberAt 4 (some .int), Cond.methodLink RL 140 yL_counter, Cond.static yL_counter, Cond.codeWith yL_counter cL_counter 4 (some .int) [(0, 9, 12, 13)], Cond.methodLink RL 64 yX3_counter, Cond.instanceMethod yX3_counter, Cond.selects RX3 yX3_counter yX3_counter, Cond.code yX3_counter cX3_counter 2 (some .int), Cond.methodLink RX3 170 yX1_counted]
noncomputable def wsL_law0_r25 : List Cond := [Cond.methodLink RL 142 yX4_counter, Cond.instanceMethod yX4_counter, Cond.selects RX4 yX4_counter yX4_counter, Cond.code yX4_counter cX4_counter 2 (some .int), Cond.methodLink RL 143 yX3_reconcile, Cond.instanceMethod yX3_reconcile, Cond.selects RX3 yX3_reconcile yX3_reconcile, Cond.code yX3_reconcile cX3_reconcile 3 (some .int), Cond.methodLink RX3 176 yX3_recordsThatLeft, Cond.instanceMethod yX3_recordsThatLeft, Cond.selects RX3 yX3_recordsThatLeft yX3_recordsThatLeft, Cond.code yX3_recordsThatLeft cX3_recordsThatLeft 1 (some .int), Cond.methodLink RL 147 yX4_reconcile, Cond.instanceMethod yX4_reconcile, Cond.selects RX4 yX4_reconcile yX4_reconcile, Cond.code yX4_reconcile cX4_reconcile 3 (some .int), Cond.methodLink RL 148 yX3_goodShare, Cond.instanceMethod yX3_goodShare, Cond.selects RX3 yX3_goodShare yX3_goodShare, Cond.code yX3_goodShare cX3_goodShare 2 (some .double), Cond.methodLink RL 152 yX4_goodShare, Cond.instanceMethod yX4_goodShare, Cond.selects RX4 yX4_goodShare yX4_goodShare, Cond.code yX4_goodShare cX4_goodShare 2 (some .double)]
noncomputable def wsL_law0_r26 : List Cond := [Cond.methodLink RL 153 yL_spare, Cond.static yL_spare, Cond.codeWith yL_spare cL_spare 4 (some .int) [(0, 9, 12, 13)], Cond.methodLink RL 67 yX3_spare, Cond.instanceMethod yX3_spare, Cond.selects RX3 yX3_spare yX3_spare, Cond.code yX3_spare cX3_spare 2 (some .int), Cond.methodLink RX3 181 yX3_sparePulses, Cond.instanceMethod yX3_sparePulses, Cond.selects RX3 yX3_sparePulses yX3_sparePulses, Cond.code yX3_sparePulses cX3_sparePulses 3 (some .int), Cond.methodLink RL 155 yX4_spare, Cond.instanceMethod yX4_spare, Cond.selects RX4 yX4_spare yX4_spare, Cond.code yX4_spare cX4_spare 2 (some .int), Cond.methodLink RX4 119 yX4_spareOf, Cond.instanceMethod yX4_spareOf, Cond.selects RX4 yX4_spareOf yX4_spareOf, Cond.code yX4_spareOf cX4_spareOf 2 (some .int), Cond.methodLink RL 156 yX3_fastest, Cond.instanceMethod yX3_fastest, Cond.selects RX3 yX3_fastest yX3_fastest, Cond.code yX3_fastest cX3_fastest 2 (some .int), Cond.methodLink RL 159 yX4_fastest]
noncomputable def wsL_law0_r27 : List Cond := [Cond.instanceMethod yX4_fastest, Cond.selects RX4 yX4_fastest yX4_fastest, Cond.code yX4_fastest cX4_fastest 3 (some .int), Cond.methodLink RL 160 yL_fate, Cond.static yL_fate, Cond.codeWith yL_fate cL_fate 4 (some .int) [(0, 9, 12, 41)], Cond.methodLink RL 70 yX3_fate, Cond.instanceMethod yX3_fate, Cond.selects RX3 yX3_fate yX3_fate, Cond.code yX3_fate cX3_fate 3 (some .int), Cond.methodLink RX3 184 yX1_copyFrom, Cond.methodLink RX3 187 yX1_watch, Cond.instanceMethod yX1_watch, Cond.selects RX1 yX1_watch yX1_watch, Cond.code yX1_watch cX1_watch 2 none, Cond.methodLink RL 162 yX4_fate, Cond.instanceMethod yX4_fate, Cond.selects RX4 yX4_fate yX4_fate, Cond.code yX4_fate cX4_fate 3 (some .int), Cond.methodLink RX4 122 yX4_laysAside, Cond.instanceMethod yX4_laysAside, Cond.selects RX4 yX4_laysAside yX4_laysAside, Cond.code yX4_laysAside cX4_laysAside 2 none, Cond.methodLink RX4 125 yX4_takesBack]
noncomputable def wsL_law0_r28 : List Cond := [Cond.instanceMethod yX4_takesBack, Cond.selects RX4 yX4_takesBack yX4_takesBack, Cond.code yX4_takesBack cX4_takesBack 2 none, Cond.methodLink RL 163 yL_append, Cond.static yL_append, Cond.codeWith yL_append cL_append 4 (some .int) [(0, 9, 12, 13), (0, 9, 15, 15)], Cond.methodLink RL 73 yX3_append, Cond.instanceMethod yX3_append, Cond.selects RX3 yX3_append yX3_append, Cond.code yX3_append cX3_append 2 (some .int), Cond.methodLink RL 165 yX4_append, Cond.instanceMethod yX4_append, Cond.selects RX4 yX4_append yX4_append, Cond.code yX4_append cX4_append 2 (some .int), Cond.fieldLink RX4 128 "LabelStationModel" "length" "I", Cond.methodLink RL 166 yX3_clearText, Cond.instanceMethod yX3_clearText, Cond.selects RX3 yX3_clearText yX3_clearText, Cond.code yX3_clearText cX3_clearText 2 (some .int), Cond.methodLink RL 169 yX4_clearText, Cond.instanceMethod yX4_clearText, Cond.selects RX4 yX4_clearText yX4_clearText, Cond.code yX4_clearText cX4_clearText 2 (some .int), Cond.methodLink RL 170 yX3_carryOut]
noncomputable def wsL_law0_r29 : List Cond := [Cond.instanceMethod yX3_carryOut, Cond.selects RX3 yX3_carryOut yX3_carryOut, Cond.code yX3_carryOut cX3_carryOut 6 (some .int), Cond.methodLink RX3 197 yX3_syntaxError, Cond.instanceMethod yX3_syntaxError, Cond.selects RX3 yX3_syntaxError yX3_syntaxError, Cond.code yX3_syntaxError cX3_syntaxError 4 (some .int), Cond.methodLink RX3 203 yX3_byteAt, Cond.instanceMethod yX3_byteAt, Cond.selects RX3 yX3_byteAt yX3_byteAt, Cond.code yX3_byteAt cX3_byteAt 2 (some .int), Cond.methodLink RX3 206 yX3_ticksOf, Cond.static yX3_ticksOf, Cond.code yX3_ticksOf cX3_ticksOf 1 (some .int), Cond.methodLink RX3 200 yX0_prepare, Cond.methodLink RX3 209 yX0_bringBackPrepared, Cond.instanceMethod yX0_bringBackPrepared, Cond.selects RX0 yX0_bringBackPrepared yX0_bringBackPrepared, Cond.code yX0_bringBackPrepared cX0_bringBackPrepared 3 none, Cond.methodLink RX3 212 yX0_keepPrepared, Cond.methodLink RL 173 yX4_carryOut, Cond.instanceMethod yX4_carryOut, Cond.selects RX4 yX4_carryOut yX4_carryOut, Cond.code yX4_carryOut cX4_carryOut 3 (some .int)]
noncomputable def wsL_law0_r30 : List Cond := [Cond.methodLink RX4 131 yX4_does, Cond.instanceMethod yX4_does, Cond.selects RX4 yX4_does yX4_does, Cond.code yX4_does cX4_does 2 (some .boolean), Cond.methodLink RL 174 yL_undo, Cond.static yL_undo, Cond.codeWith yL_undo cL_undo 3 (some .int) [(0, 8, 11, 15)], Cond.methodLink RL 76 yX3_undo, Cond.instanceMethod yX3_undo, Cond.selects RX3 yX3_undo yX3_undo, Cond.code yX3_undo cX3_undo 1 (some .int), Cond.methodLink RX3 215 yX0_count, Cond.instanceMethod yX0_count, Cond.selects RX0 yX0_count yX0_count, Cond.code yX0_count cX0_count 1 (some .int), Cond.methodLink RX3 218 yX0_bringBackLatest, Cond.instanceMethod yX0_bringBackLatest, Cond.selects RX0 yX0_bringBackLatest yX0_bringBackLatest, Cond.code yX0_bringBackLatest cX0_bringBackLatest 2 none, Cond.methodLink RX0 39 yX0_bringBackPrepared, Cond.methodLink RL 176 yX4_undo, Cond.instanceMethod yX4_undo, Cond.selects RX4 yX4_undo yX4_undo, Cond.code yX4_undo cX4_undo 2 (some .int)]
noncomputable def wsL_law0_r31 : List Cond := [Cond.methodLink RL 177 yX3_digest, Cond.instanceMethod yX3_digest, Cond.selects RX3 yX3_digest yX3_digest, Cond.code yX3_digest cX3_digest 4 (some .long), Cond.constantLong RX3 221 (91109), Cond.constantLong RX3 223 (31), Cond.methodLink RX3 225 yX2_mixInto, Cond.instanceMethod yX2_mixInto, Cond.selects RX2 yX2_mixInto yX2_mixInto, Cond.code yX2_mixInto cX2_mixInto 7 (some .long), Cond.constantLong RX2 48 (31), Cond.methodLink RL 181 yX4_digest, Cond.instanceMethod yX4_digest, Cond.selects RX4 yX4_digest yX4_digest, Cond.code yX4_digest cX4_digest 2 (some .long), Cond.constantLong RX4 143 (2939), Cond.fieldLink RX4 136 "LabelStationModel" "hash" "J", Cond.methodLink RX4 140 yX4_mix, Cond.instanceMethod yX4_mix, Cond.selects RX4 yX4_mix yX4_mix, Cond.code yX4_mix cX4_mix 2 none, Cond.constantLong RX4 134 (31), Cond.methodLink RX4 145 yX4_mixAll, Cond.instanceMethod yX4_mixAll]
noncomputable def wsL_law0_r32 : List Cond := [Cond.selects RX4 yX4_mixAll yX4_mixAll, Cond.code yX4_mixAll cX4_mixAll 4 none]
noncomputable def wsL_law0 : List Cond := (wsL_law0_r1 ++ (wsL_law0_r2 ++ (wsL_law0_r3 ++ (wsL_law0_r4 ++ (wsL_law0_r5 ++ (wsL_law0_r6 ++ (wsL_law0_r7 ++ (wsL_law0_r8 ++ (wsL_law0_r9 ++ (wsL_law0_r10 ++ (wsL_law0_r11 ++ (wsL_law0_r12 ++ (wsL_law0_r13 ++ (wsL_law0_r14 ++ (wsL_law0_r15 ++ (wsL_law0_r16 ++ (wsL_law0_r17 ++ (wsL_law0_r18 ++ (wsL_law0_r19 ++ (wsL_law0_r20 ++ (wsL_law0_r21 ++ (wsL_law0_r22 ++ (wsL_law0_r23 ++ (wsL_law0_r24 ++ (wsL_law0_r25 ++ (wsL_law0_r26 ++ (wsL_law0_r27 ++ (wsL_law0_r28 ++ (wsL_law0_r29 ++ (wsL_law0_r30 ++ (wsL_law0_r31 ++ wsL_law0_r32))))))))))))))))))))))))))))))) ++ wsX30 ++ wsX40 ++ wsX10 ++ wsX00 ++ wsX20 ++ ([] : List Cond)
noncomputable def wsL_law : List Cond := wsL_law0 ++ (vx_atS RX3 38 "java/lang/IllegalArgumentException" ["java/lang/RuntimeException", "java/lang/Exception"]).filter goodWord ++ (vx_atS RX3 58 "java/lang/IllegalStateException" ["java/lang/RuntimeException", "java/lang/Exception"]).filter goodWord ++ (vx_atS RX3 127 "java/util/NoSuchElementException" ["java/lang/RuntimeException", "java/lang/Exception"]).filter goodWord ++ (vx_atS RX3 167 "java/lang/IndexOutOfBoundsException" ["java/lang/RuntimeException", "java/lang/Exception"]).filter goodWord
abbrev vwCl : List vw_C := [(RX0, TX0, 3), (RX1, TX1, 16), (RX2, TX2, 4), (RX3, TX3, 5), (RX4, TX4, 8)]
end
section
set_option maxRecDepth 20000 in
theorem ggX0_init_X1_init : GoodIn wsX0_init wsX1_init := goodIn_r _ [12, 13, 2, 3, 14, 15, 16, 17, 18, 19, 20, 21, 22, 23, 24, 25, 26, 27, 28, 29, 30, 31, 32, 33, 34, 35, 36, 37, 38, 39, 40, 41, 42, 43, 44, 45, 49, 50, 51, 52, 53, 54, 55, 56, 57, 58, 59, 60, 61, 62, 63, 64, 65, 66, 67, 68] (by decide +kernel) (by decide +kernel)
set_option maxRecDepth 20000 in
theorem gX0_init_X1_init : GoodIn wsX0_init (wsX1_init) := ggX0_init_X1_init
theorem dX0_init_0 : decode cX0_init 0 = .ok (.aload_n 0, 1) := by decide +kernel
theorem dX0_init_1 : decode cX0_init 1 = .ok (.invokespecial 3, 3) := by decide +kernel
theorem dX0_init_4 : decode cX0_init 4 = .ok (.aload_n 0, 1) := by decide +kernel
theorem dX0_init_5 : decode cX0_init 5 = .ok (.iconst 5, 1) := by decide +kernel
theorem dX0_init_6 : decode cX0_init 6 = .ok (.anewarray 9, 3) := by decide +kernel
theorem dX0_init_9 : decode cX0_init 9 = .ok (.putfield 11, 3) := by decide +kernel
theorem dX0_init_12 : decode cX0_init 12 = .ok (.aload_n 0, 1) := by decide +kernel
theorem dX0_init_13 : decode cX0_init 13 = .ok (.iconst 0, 1) := by decide +kernel
theorem dX0_init_14 : decode cX0_init 14 = .ok (.putfield 17, 3) := by decide +kernel
theorem dX0_init_17 : decode cX0_init 17 = .ok (.aload_n 0, 1) := by decide +kernel
theorem dX0_init_18 : decode cX0_init 18 = .ok (.iconst 0, 1) := by decide +kernel
theorem dX0_init_19 : decode cX0_init 19 = .ok (.putfield 21, 3) := by decide +kernel
theorem dX0_init_22 : decode cX0_init 22 = .ok (.iconst 0, 1) := by decide +kernel
theorem dX0_init_23 : decode cX0_init 23 = .ok (.istore_n 1, 1) := by decide +kernel
theorem dX0_init_24 : decode cX0_init 24 = .ok (.iload_n 1, 1) := by decide +kernel
theorem dX0_init_25 : decode cX0_init 25 = .ok (.aload_n 0, 1) := by decide +kernel
theorem dX0_init_26 : decode cX0_init 26 = .ok (.getfield 11, 3) := by decide +kernel
theorem dX0_init_29 : decode cX0_init 29 = .ok (.arraylength, 1) := by decide +kernel
theorem dX0_init_30 : decode cX0_init 30 = .ok (.if_icmp .ge 22, 3) := by decide +kernel
theorem dX0_init_33 : decode cX0_init 33 = .ok (.aload_n 0, 1) := by decide +kernel
theorem dX0_init_34 : decode cX0_init 34 = .ok (.getfield 11, 3) := by decide +kernel
theorem dX0_init_37 : decode cX0_init 37 = .ok (.iload_n 1, 1) := by decide +kernel
theorem dX0_init_38 : decode cX0_init 38 = .ok (.new 9, 3) := by decide +kernel
theorem dX0_init_41 : decode cX0_init 41 = .ok (.dup, 1) := by decide +kernel
theorem dX0_init_42 : decode cX0_init 42 = .ok (.invokespecial 24, 3) := by decide +kernel
theorem dX0_init_45 : decode cX0_init 45 = .ok (.aastore, 1) := by decide +kernel
theorem dX0_init_46 : decode cX0_init 46 = .ok (.iinc 1 1, 3) := by decide +kernel
theorem dX0_init_49 : decode cX0_init 49 = .ok (.goto (-25), 3) := by decide +kernel
theorem dX0_init_52 : decode cX0_init 52 = .ok (.return_, 1) := by decide +kernel
theorem dX0_count_0 : decode cX0_count 0 = .ok (.aload_n 0, 1) := by decide +kernel
theorem dX0_count_1 : decode cX0_count 1 = .ok (.getfield 21, 3) := by decide +kernel
theorem dX0_count_4 : decode cX0_count 4 = .ok (.ireturn, 1) := by decide +kernel
set_option maxRecDepth 20000 in
theorem ggX0_save_X0_prepare : GoodIn wsX0_save wsX0_prepare := goodIn_r _ [5, 6, 7, 8, 9, 4, 10, 11, 12, 13, 14, 15, 16, 17, 18, 19, 20, 21, 22, 23, 24, 25, 26, 27, 28, 29, 30, 31, 32, 33, 34, 35, 36, 37, 38, 39, 40, 41, 42, 43, 44, 45, 46, 47, 52, 53, 54, 55, 56, 57, 58, 59, 60, 61, 62, 63, 64, 65, 66, 67, 68, 69, 70, 71, 72, 73, 74] (by decide +kernel) (by decide +kernel)
set_option maxRecDepth 20000 in
theorem gX0_save_X0_prepare : GoodIn wsX0_save (wsV RX0 25 RX0 yX0_prepare wsX0_prepare) := goodIn_app (goodIn_of _ (by decide +kernel)) ggX0_save_X0_prepare
set_option maxRecDepth 20000 in
theorem ggX0_save_X0_keepPrepared : GoodIn wsX0_save wsX0_keepPrepared := goodIn_r _ [51, 6, 11, 52, 53, 54] (by decide +kernel) (by decide +kernel)
set_option maxRecDepth 20000 in
theorem gX0_save_X0_keepPrepared : GoodIn wsX0_save (wsV RX0 29 RX0 yX0_keepPrepared wsX0_keepPrepared) := goodIn_app (goodIn_of _ (by decide +kernel)) ggX0_save_X0_keepPrepared
theorem dX0_save_0 : decode cX0_save 0 = .ok (.aload_n 0, 1) := by decide +kernel
theorem dX0_save_1 : decode cX0_save 1 = .ok (.aload_n 1, 1) := by decide +kernel
theorem dX0_save_2 : decode cX0_save 2 = .ok (.invokevirtual 25, 3) := by decide +kernel
theorem dX0_save_5 : decode cX0_save 5 = .ok (.aload_n 0, 1) := by decide +kernel
theorem dX0_save_6 : decode cX0_save 6 = .ok (.invokevirtual 29, 3) := by decide +kernel
theorem dX0_save_9 : decode cX0_save 9 = .ok (.return_, 1) := by decide +kernel
set_option maxRecDepth 20000 in
theorem ggX0_prepare_X0_slotAt : GoodIn wsX0_prepare wsX0_slotAt := goodIn_r _ [6, 7, 8, 44, 45, 46] (by decide +kernel) (by decide +kernel)
set_option maxRecDepth 20000 in
theorem gX0_prepare_X0_slotAt : GoodIn wsX0_prepare (wsV RX0 32 RX0 yX0_slotAt wsX0_slotAt) := goodIn_app (goodIn_of _ (by decide +kernel)) ggX0_prepare_X0_slotAt
set_option maxRecDepth 20000 in
theorem ggX0_prepare_X1_copyFrom : GoodIn wsX0_prepare wsX1_copyFrom := goodIn_r _ [13, 14, 15, 16, 17, 18, 19, 20, 21, 22, 23, 24, 25, 26, 27, 28, 29, 30, 31, 32, 33, 34, 35, 36, 37, 38, 39, 40, 41, 42, 43, 47, 48, 49, 50, 51, 52, 53, 54, 55, 56, 57, 58, 59, 60, 61, 62, 63, 64, 65, 66] (by decide +kernel) (by decide +kernel)
set_option maxRecDepth 20000 in
theorem gX0_prepare_X1_copyFrom : GoodIn wsX0_prepare (wsV RX0 36 RX1 yX1_copyFrom wsX1_copyFrom) := goodIn_app (goodIn_of _ (by decide +kernel)) ggX0_prepare_X1_copyFrom
theorem dX0_prepare_0 : decode cX0_prepare 0 = .ok (.aload_n 0, 1) := by decide +kernel
theorem dX0_prepare_1 : decode cX0_prepare 1 = .ok (.aload_n 0, 1) := by decide +kernel
theorem dX0_prepare_2 : decode cX0_prepare 2 = .ok (.getfield 21, 3) := by decide +kernel
theorem dX0_prepare_5 : decode cX0_prepare 5 = .ok (.invokevirtual 32, 3) := by decide +kernel
theorem dX0_prepare_8 : decode cX0_prepare 8 = .ok (.astore_n 2, 1) := by decide +kernel
theorem dX0_prepare_9 : decode cX0_prepare 9 = .ok (.aload_n 2, 1) := by decide +kernel
theorem dX0_prepare_10 : decode cX0_prepare 10 = .ok (.ifnull 8, 3) := by decide +kernel
theorem dX0_prepare_13 : decode cX0_prepare 13 = .ok (.aload_n 2, 1) := by decide +kernel
theorem dX0_prepare_14 : decode cX0_prepare 14 = .ok (.aload_n 1, 1) := by decide +kernel
theorem dX0_prepare_15 : decode cX0_prepare 15 = .ok (.invokevirtual 36, 3) := by decide +kernel
theorem dX0_prepare_18 : decode cX0_prepare 18 = .ok (.return_, 1) := by decide +kernel
theorem dX0_keepPrepared_0 : decode cX0_keepPrepared 0 = .ok (.aload_n 0, 1) := by decide +kernel
theorem dX0_keepPrepared_1 : decode cX0_keepPrepared 1 = .ok (.getfield 21, 3) := by decide +kernel
theorem dX0_keepPrepared_4 : decode cX0_keepPrepared 4 = .ok (.iconst 4, 1) := by decide +kernel
theorem dX0_keepPrepared_5 : decode cX0_keepPrepared 5 = .ok (.if_icmp .ge 16, 3) := by decide +kernel
theorem dX0_keepPrepared_8 : decode cX0_keepPrepared 8 = .ok (.aload_n 0, 1) := by decide +kernel
theorem dX0_keepPrepared_9 : decode cX0_keepPrepared 9 = .ok (.dup, 1) := by decide +kernel
theorem dX0_keepPrepared_10 : decode cX0_keepPrepared 10 = .ok (.getfield 21, 3) := by decide +kernel
theorem dX0_keepPrepared_13 : decode cX0_keepPrepared 13 = .ok (.iconst 1, 1) := by decide +kernel
theorem dX0_keepPrepared_14 : decode cX0_keepPrepared 14 = .ok (.iadd, 1) := by decide +kernel
theorem dX0_keepPrepared_15 : decode cX0_keepPrepared 15 = .ok (.putfield 21, 3) := by decide +kernel
theorem dX0_keepPrepared_18 : decode cX0_keepPrepared 18 = .ok (.goto 15, 3) := by decide +kernel
theorem dX0_keepPrepared_21 : decode cX0_keepPrepared 21 = .ok (.aload_n 0, 1) := by decide +kernel
theorem dX0_keepPrepared_22 : decode cX0_keepPrepared 22 = .ok (.aload_n 0, 1) := by decide +kernel
theorem dX0_keepPrepared_23 : decode cX0_keepPrepared 23 = .ok (.getfield 17, 3) := by decide +kernel
theorem dX0_keepPrepared_26 : decode cX0_keepPrepared 26 = .ok (.iconst 1, 1) := by decide +kernel
theorem dX0_keepPrepared_27 : decode cX0_keepPrepared 27 = .ok (.iadd, 1) := by decide +kernel
theorem dX0_keepPrepared_28 : decode cX0_keepPrepared 28 = .ok (.iconst 5, 1) := by decide +kernel
theorem dX0_keepPrepared_29 : decode cX0_keepPrepared 29 = .ok (.irem, 1) := by decide +kernel
theorem dX0_keepPrepared_30 : decode cX0_keepPrepared 30 = .ok (.putfield 17, 3) := by decide +kernel
theorem dX0_keepPrepared_33 : decode cX0_keepPrepared 33 = .ok (.return_, 1) := by decide +kernel
set_option maxRecDepth 20000 in
theorem ggX0_bringBackPrepared_X0_slotAt : GoodIn wsX0_bringBackPrepared wsX0_slotAt := goodIn_r _ [6, 7, 8, 44, 45, 46] (by decide +kernel) (by decide +kernel)
set_option maxRecDepth 20000 in
theorem gX0_bringBackPrepared_X0_slotAt : GoodIn wsX0_bringBackPrepared (wsV RX0 32 RX0 yX0_slotAt wsX0_slotAt) := goodIn_app (goodIn_of _ (by decide +kernel)) ggX0_bringBackPrepared_X0_slotAt
set_option maxRecDepth 20000 in
theorem ggX0_bringBackPrepared_X1_copyFrom : GoodIn wsX0_bringBackPrepared wsX1_copyFrom := goodIn_r _ [13, 14, 15, 16, 17, 18, 19, 20, 21, 22, 23, 24, 25, 26, 27, 28, 29, 30, 31, 32, 33, 34, 35, 36, 37, 38, 39, 40, 41, 42, 43, 47, 48, 49, 50, 51, 52, 53, 54, 55, 56, 57, 58, 59, 60, 61, 62, 63, 64, 65, 66] (by decide +kernel) (by decide +kernel)
set_option maxRecDepth 20000 in
theorem gX0_bringBackPrepared_X1_copyFrom : GoodIn wsX0_bringBackPrepared (wsV RX0 36 RX1 yX1_copyFrom wsX1_copyFrom) := goodIn_app (goodIn_of _ (by decide +kernel)) ggX0_bringBackPrepared_X1_copyFrom
theorem dX0_bringBackPrepared_0 : decode cX0_bringBackPrepared 0 = .ok (.aload_n 0, 1) := by decide +kernel
theorem dX0_bringBackPrepared_1 : decode cX0_bringBackPrepared 1 = .ok (.aload_n 0, 1) := by decide +kernel
theorem dX0_bringBackPrepared_2 : decode cX0_bringBackPrepared 2 = .ok (.getfield 21, 3) := by decide +kernel
theorem dX0_bringBackPrepared_5 : decode cX0_bringBackPrepared 5 = .ok (.invokevirtual 32, 3) := by decide +kernel
theorem dX0_bringBackPrepared_8 : decode cX0_bringBackPrepared 8 = .ok (.astore_n 2, 1) := by decide +kernel
theorem dX0_bringBackPrepared_9 : decode cX0_bringBackPrepared 9 = .ok (.aload_n 2, 1) := by decide +kernel
theorem dX0_bringBackPrepared_10 : decode cX0_bringBackPrepared 10 = .ok (.ifnull 8, 3) := by decide +kernel
theorem dX0_bringBackPrepared_13 : decode cX0_bringBackPrepared 13 = .ok (.aload_n 1, 1) := by decide +kernel
theorem dX0_bringBackPrepared_14 : decode cX0_bringBackPrepared 14 = .ok (.aload_n 2, 1) := by decide +kernel
theorem dX0_bringBackPrepared_15 : decode cX0_bringBackPrepared 15 = .ok (.invokevirtual 36, 3) := by decide +kernel
theorem dX0_bringBackPrepared_18 : decode cX0_bringBackPrepared 18 = .ok (.return_, 1) := by decide +kernel
set_option maxRecDepth 20000 in
theorem ggX0_bringBackLatest_X0_bringBackPrepared : GoodIn wsX0_bringBackLatest wsX0_bringBackPrepared := goodIn_r _ [6, 1, 7, 8, 9, 5, 10, 11, 12, 13, 14, 15, 16, 17, 18, 19, 20, 21, 22, 23, 24, 25, 26, 27, 28, 29, 30, 31, 32, 33, 34, 35, 36, 37, 38, 39, 40, 41, 42, 43, 44, 45, 46, 47, 48, 49, 50, 51, 52, 53, 54, 55, 56, 57, 58, 59, 60, 61, 62, 63, 64, 65, 66, 67, 68, 69, 70] (by decide +kernel) (by decide +kernel)
set_option maxRecDepth 20000 in
theorem gX0_bringBackLatest_X0_bringBackPrepared : GoodIn wsX0_bringBackLatest (wsV RX0 39 RX0 yX0_bringBackPrepared wsX0_bringBackPrepared) := goodIn_app (goodIn_of _ (by decide +kernel)) ggX0_bringBackLatest_X0_bringBackPrepared
theorem dX0_bringBackLatest_0 : decode cX0_bringBackLatest 0 = .ok (.aload_n 0, 1) := by decide +kernel
theorem dX0_bringBackLatest_1 : decode cX0_bringBackLatest 1 = .ok (.getfield 21, 3) := by decide +kernel
theorem dX0_bringBackLatest_4 : decode cX0_bringBackLatest 4 = .ok (.ifCond .le 18, 3) := by decide +kernel
theorem dX0_bringBackLatest_7 : decode cX0_bringBackLatest 7 = .ok (.aload_n 0, 1) := by decide +kernel
theorem dX0_bringBackLatest_8 : decode cX0_bringBackLatest 8 = .ok (.dup, 1) := by decide +kernel
theorem dX0_bringBackLatest_9 : decode cX0_bringBackLatest 9 = .ok (.getfield 21, 3) := by decide +kernel
theorem dX0_bringBackLatest_12 : decode cX0_bringBackLatest 12 = .ok (.iconst 1, 1) := by decide +kernel
theorem dX0_bringBackLatest_13 : decode cX0_bringBackLatest 13 = .ok (.isub, 1) := by decide +kernel
theorem dX0_bringBackLatest_14 : decode cX0_bringBackLatest 14 = .ok (.putfield 21, 3) := by decide +kernel
theorem dX0_bringBackLatest_17 : decode cX0_bringBackLatest 17 = .ok (.aload_n 0, 1) := by decide +kernel
theorem dX0_bringBackLatest_18 : decode cX0_bringBackLatest 18 = .ok (.aload_n 1, 1) := by decide +kernel
theorem dX0_bringBackLatest_19 : decode cX0_bringBackLatest 19 = .ok (.invokevirtual 39, 3) := by decide +kernel
theorem dX0_bringBackLatest_22 : decode cX0_bringBackLatest 22 = .ok (.return_, 1) := by decide +kernel
theorem dX0_slotAt_0 : decode cX0_slotAt 0 = .ok (.aload_n 0, 1) := by decide +kernel
theorem dX0_slotAt_1 : decode cX0_slotAt 1 = .ok (.getfield 17, 3) := by decide +kernel
theorem dX0_slotAt_4 : decode cX0_slotAt 4 = .ok (.iload_n 1, 1) := by decide +kernel
theorem dX0_slotAt_5 : decode cX0_slotAt 5 = .ok (.iadd, 1) := by decide +kernel
theorem dX0_slotAt_6 : decode cX0_slotAt 6 = .ok (.iconst 5, 1) := by decide +kernel
theorem dX0_slotAt_7 : decode cX0_slotAt 7 = .ok (.irem, 1) := by decide +kernel
theorem dX0_slotAt_8 : decode cX0_slotAt 8 = .ok (.istore_n 2, 1) := by decide +kernel
theorem dX0_slotAt_9 : decode cX0_slotAt 9 = .ok (.iload_n 2, 1) := by decide +kernel
theorem dX0_slotAt_10 : decode cX0_slotAt 10 = .ok (.ifCond .lt 21, 3) := by decide +kernel
theorem dX0_slotAt_13 : decode cX0_slotAt 13 = .ok (.iload_n 2, 1) := by decide +kernel
theorem dX0_slotAt_14 : decode cX0_slotAt 14 = .ok (.aload_n 0, 1) := by decide +kernel
theorem dX0_slotAt_15 : decode cX0_slotAt 15 = .ok (.getfield 11, 3) := by decide +kernel
theorem dX0_slotAt_18 : decode cX0_slotAt 18 = .ok (.arraylength, 1) := by decide +kernel
theorem dX0_slotAt_19 : decode cX0_slotAt 19 = .ok (.if_icmp .ge 12, 3) := by decide +kernel
theorem dX0_slotAt_22 : decode cX0_slotAt 22 = .ok (.aload_n 0, 1) := by decide +kernel
theorem dX0_slotAt_23 : decode cX0_slotAt 23 = .ok (.getfield 11, 3) := by decide +kernel
theorem dX0_slotAt_26 : decode cX0_slotAt 26 = .ok (.iload_n 2, 1) := by decide +kernel
theorem dX0_slotAt_27 : decode cX0_slotAt 27 = .ok (.aaload, 1) := by decide +kernel
theorem dX0_slotAt_28 : decode cX0_slotAt 28 = .ok (.goto 4, 3) := by decide +kernel
theorem dX0_slotAt_31 : decode cX0_slotAt 31 = .ok (.aconst_null, 1) := by decide +kernel
theorem dX0_slotAt_32 : decode cX0_slotAt 32 = .ok (.areturn, 1) := by decide +kernel
set_option maxRecDepth 20000 in
theorem ggX1_init_X2_init : GoodIn wsX1_init wsX2_init := goodIn_r _ [26, 27, 2, 3, 28, 29, 30, 31, 32, 33, 34, 4, 35, 52, 53, 54, 55] (by decide +kernel) (by decide +kernel)
set_option maxRecDepth 20000 in
theorem gX1_init_X2_init : GoodIn wsX1_init (wsX2_init) := ggX1_init_X2_init
theorem dX1_init_0 : decode cX1_init 0 = .ok (.aload_n 0, 1) := by decide +kernel
theorem dX1_init_1 : decode cX1_init 1 = .ok (.invokespecial 3, 3) := by decide +kernel
theorem dX1_init_4 : decode cX1_init 4 = .ok (.aload_n 0, 1) := by decide +kernel
theorem dX1_init_5 : decode cX1_init 5 = .ok (.bipush 7, 2) := by decide +kernel
theorem dX1_init_7 : decode cX1_init 7 = .ok (.newarray .int, 2) := by decide +kernel
theorem dX1_init_9 : decode cX1_init 9 = .ok (.dup, 1) := by decide +kernel
theorem dX1_init_10 : decode cX1_init 10 = .ok (.iconst 0, 1) := by decide +kernel
theorem dX1_init_11 : decode cX1_init 11 = .ok (.iconst 5, 1) := by decide +kernel
theorem dX1_init_12 : decode cX1_init 12 = .ok (.iastore, 1) := by decide +kernel
theorem dX1_init_13 : decode cX1_init 13 = .ok (.dup, 1) := by decide +kernel
theorem dX1_init_14 : decode cX1_init 14 = .ok (.iconst 1, 1) := by decide +kernel
theorem dX1_init_15 : decode cX1_init 15 = .ok (.bipush 8, 2) := by decide +kernel
theorem dX1_init_17 : decode cX1_init 17 = .ok (.iastore, 1) := by decide +kernel
theorem dX1_init_18 : decode cX1_init 18 = .ok (.dup, 1) := by decide +kernel
theorem dX1_init_19 : decode cX1_init 19 = .ok (.iconst 2, 1) := by decide +kernel
theorem dX1_init_20 : decode cX1_init 20 = .ok (.iconst 4, 1) := by decide +kernel
theorem dX1_init_21 : decode cX1_init 21 = .ok (.iastore, 1) := by decide +kernel
theorem dX1_init_22 : decode cX1_init 22 = .ok (.dup, 1) := by decide +kernel
theorem dX1_init_23 : decode cX1_init 23 = .ok (.iconst 3, 1) := by decide +kernel
theorem dX1_init_24 : decode cX1_init 24 = .ok (.bipush 10, 2) := by decide +kernel
theorem dX1_init_26 : decode cX1_init 26 = .ok (.iastore, 1) := by decide +kernel
theorem dX1_init_27 : decode cX1_init 27 = .ok (.dup, 1) := by decide +kernel
theorem dX1_init_28 : decode cX1_init 28 = .ok (.iconst 4, 1) := by decide +kernel
theorem dX1_init_29 : decode cX1_init 29 = .ok (.iconst 5, 1) := by decide +kernel
theorem dX1_init_30 : decode cX1_init 30 = .ok (.iastore, 1) := by decide +kernel
theorem dX1_init_31 : decode cX1_init 31 = .ok (.dup, 1) := by decide +kernel
theorem dX1_init_32 : decode cX1_init 32 = .ok (.iconst 5, 1) := by decide +kernel
theorem dX1_init_33 : decode cX1_init 33 = .ok (.bipush 10, 2) := by decide +kernel
theorem dX1_init_35 : decode cX1_init 35 = .ok (.iastore, 1) := by decide +kernel
theorem dX1_init_36 : decode cX1_init 36 = .ok (.dup, 1) := by decide +kernel
theorem dX1_init_37 : decode cX1_init 37 = .ok (.bipush 6, 2) := by decide +kernel
theorem dX1_init_39 : decode cX1_init 39 = .ok (.bipush 50, 2) := by decide +kernel
theorem dX1_init_41 : decode cX1_init 41 = .ok (.iastore, 1) := by decide +kernel
theorem dX1_init_42 : decode cX1_init 42 = .ok (.putfield 9, 3) := by decide +kernel
theorem dX1_init_45 : decode cX1_init 45 = .ok (.aload_n 0, 1) := by decide +kernel
theorem dX1_init_46 : decode cX1_init 46 = .ok (.iconst 5, 1) := by decide +kernel
theorem dX1_init_47 : decode cX1_init 47 = .ok (.newarray .int, 2) := by decide +kernel
theorem dX1_init_49 : decode cX1_init 49 = .ok (.dup, 1) := by decide +kernel
theorem dX1_init_50 : decode cX1_init 50 = .ok (.iconst 0, 1) := by decide +kernel
theorem dX1_init_51 : decode cX1_init 51 = .ok (.bipush 100, 2) := by decide +kernel
theorem dX1_init_53 : decode cX1_init 53 = .ok (.iastore, 1) := by decide +kernel
theorem dX1_init_54 : decode cX1_init 54 = .ok (.dup, 1) := by decide +kernel
theorem dX1_init_55 : decode cX1_init 55 = .ok (.iconst 1, 1) := by decide +kernel
theorem dX1_init_56 : decode cX1_init 56 = .ok (.sipush 200, 3) := by decide +kernel
theorem dX1_init_59 : decode cX1_init 59 = .ok (.iastore, 1) := by decide +kernel
theorem dX1_init_60 : decode cX1_init 60 = .ok (.dup, 1) := by decide +kernel
theorem dX1_init_61 : decode cX1_init 61 = .ok (.iconst 2, 1) := by decide +kernel
theorem dX1_init_62 : decode cX1_init 62 = .ok (.sipush 260, 3) := by decide +kernel
theorem dX1_init_65 : decode cX1_init 65 = .ok (.iastore, 1) := by decide +kernel
theorem dX1_init_66 : decode cX1_init 66 = .ok (.dup, 1) := by decide +kernel
theorem dX1_init_67 : decode cX1_init 67 = .ok (.iconst 3, 1) := by decide +kernel
theorem dX1_init_68 : decode cX1_init 68 = .ok (.sipush 400, 3) := by decide +kernel
theorem dX1_init_71 : decode cX1_init 71 = .ok (.iastore, 1) := by decide +kernel
theorem dX1_init_72 : decode cX1_init 72 = .ok (.dup, 1) := by decide +kernel
theorem dX1_init_73 : decode cX1_init 73 = .ok (.iconst 4, 1) := by decide +kernel
theorem dX1_init_74 : decode cX1_init 74 = .ok (.sipush 500, 3) := by decide +kernel
theorem dX1_init_77 : decode cX1_init 77 = .ok (.iastore, 1) := by decide +kernel
theorem dX1_init_78 : decode cX1_init 78 = .ok (.putfield 15, 3) := by decide +kernel
theorem dX1_init_81 : decode cX1_init 81 = .ok (.aload_n 0, 1) := by decide +kernel
theorem dX1_init_82 : decode cX1_init 82 = .ok (.bipush 18, 2) := by decide +kernel
theorem dX1_init_84 : decode cX1_init 84 = .ok (.newarray .int, 2) := by decide +kernel
theorem dX1_init_86 : decode cX1_init 86 = .ok (.putfield 18, 3) := by decide +kernel
theorem dX1_init_89 : decode cX1_init 89 = .ok (.aload_n 0, 1) := by decide +kernel
theorem dX1_init_90 : decode cX1_init 90 = .ok (.new 21, 3) := by decide +kernel
theorem dX1_init_93 : decode cX1_init 93 = .ok (.dup, 1) := by decide +kernel
theorem dX1_init_94 : decode cX1_init 94 = .ok (.iconst 4, 1) := by decide +kernel
theorem dX1_init_95 : decode cX1_init 95 = .ok (.bipush 20, 2) := by decide +kernel
theorem dX1_init_97 : decode cX1_init 97 = .ok (.invokespecial 23, 3) := by decide +kernel
theorem dX1_init_100 : decode cX1_init 100 = .ok (.putfield 26, 3) := by decide +kernel
theorem dX1_init_103 : decode cX1_init 103 = .ok (.aload_n 0, 1) := by decide +kernel
theorem dX1_init_104 : decode cX1_init 104 = .ok (.new 21, 3) := by decide +kernel
theorem dX1_init_107 : decode cX1_init 107 = .ok (.dup, 1) := by decide +kernel
theorem dX1_init_108 : decode cX1_init 108 = .ok (.bipush 6, 2) := by decide +kernel
theorem dX1_init_110 : decode cX1_init 110 = .ok (.bipush 35, 2) := by decide +kernel
theorem dX1_init_112 : decode cX1_init 112 = .ok (.invokespecial 23, 3) := by decide +kernel
theorem dX1_init_115 : decode cX1_init 115 = .ok (.putfield 30, 3) := by decide +kernel
theorem dX1_init_118 : decode cX1_init 118 = .ok (.aload_n 0, 1) := by decide +kernel
theorem dX1_init_119 : decode cX1_init 119 = .ok (.new 21, 3) := by decide +kernel
theorem dX1_init_122 : decode cX1_init 122 = .ok (.dup, 1) := by decide +kernel
theorem dX1_init_123 : decode cX1_init 123 = .ok (.iconst 4, 1) := by decide +kernel
theorem dX1_init_124 : decode cX1_init 124 = .ok (.sipush 200, 3) := by decide +kernel
theorem dX1_init_127 : decode cX1_init 127 = .ok (.invokespecial 23, 3) := by decide +kernel
theorem dX1_init_130 : decode cX1_init 130 = .ok (.putfield 33, 3) := by decide +kernel
theorem dX1_init_133 : decode cX1_init 133 = .ok (.aload_n 0, 1) := by decide +kernel
theorem dX1_init_134 : decode cX1_init 134 = .ok (.new 21, 3) := by decide +kernel
theorem dX1_init_137 : decode cX1_init 137 = .ok (.dup, 1) := by decide +kernel
theorem dX1_init_138 : decode cX1_init 138 = .ok (.iconst 1, 1) := by decide +kernel
theorem dX1_init_139 : decode cX1_init 139 = .ok (.bipush 50, 2) := by decide +kernel
theorem dX1_init_141 : decode cX1_init 141 = .ok (.invokespecial 23, 3) := by decide +kernel
theorem dX1_init_144 : decode cX1_init 144 = .ok (.putfield 36, 3) := by decide +kernel
theorem dX1_init_147 : decode cX1_init 147 = .ok (.aload_n 0, 1) := by decide +kernel
theorem dX1_init_148 : decode cX1_init 148 = .ok (.new 21, 3) := by decide +kernel
theorem dX1_init_151 : decode cX1_init 151 = .ok (.dup, 1) := by decide +kernel
theorem dX1_init_152 : decode cX1_init 152 = .ok (.iconst 1, 1) := by decide +kernel
theorem dX1_init_153 : decode cX1_init 153 = .ok (.bipush 101, 2) := by decide +kernel
theorem dX1_init_155 : decode cX1_init 155 = .ok (.invokespecial 23, 3) := by decide +kernel
theorem dX1_init_158 : decode cX1_init 158 = .ok (.putfield 39, 3) := by decide +kernel
theorem dX1_init_161 : decode cX1_init 161 = .ok (.aload_n 0, 1) := by decide +kernel
theorem dX1_init_162 : decode cX1_init 162 = .ok (.iconst 0, 1) := by decide +kernel
theorem dX1_init_163 : decode cX1_init 163 = .ok (.putfield 42, 3) := by decide +kernel
theorem dX1_init_166 : decode cX1_init 166 = .ok (.aload_n 0, 1) := by decide +kernel
theorem dX1_init_167 : decode cX1_init 167 = .ok (.iconst 0, 1) := by decide +kernel
theorem dX1_init_168 : decode cX1_init 168 = .ok (.putfield 46, 3) := by decide +kernel
theorem dX1_init_171 : decode cX1_init 171 = .ok (.aload_n 0, 1) := by decide +kernel
theorem dX1_init_172 : decode cX1_init 172 = .ok (.iconst 0, 1) := by decide +kernel
theorem dX1_init_173 : decode cX1_init 173 = .ok (.putfield 50, 3) := by decide +kernel
theorem dX1_init_176 : decode cX1_init 176 = .ok (.aload_n 0, 1) := by decide +kernel
theorem dX1_init_177 : decode cX1_init 177 = .ok (.iconst 0, 1) := by decide +kernel
theorem dX1_init_178 : decode cX1_init 178 = .ok (.putfield 53, 3) := by decide +kernel
theorem dX1_init_181 : decode cX1_init 181 = .ok (.aload_n 0, 1) := by decide +kernel
theorem dX1_init_182 : decode cX1_init 182 = .ok (.iconst 0, 1) := by decide +kernel
theorem dX1_init_183 : decode cX1_init 183 = .ok (.putfield 56, 3) := by decide +kernel
theorem dX1_init_186 : decode cX1_init 186 = .ok (.aload_n 0, 1) := by decide +kernel
theorem dX1_init_187 : decode cX1_init 187 = .ok (.iconst 0, 1) := by decide +kernel
theorem dX1_init_188 : decode cX1_init 188 = .ok (.putfield 59, 3) := by decide +kernel
theorem dX1_init_191 : decode cX1_init 191 = .ok (.aload_n 0, 1) := by decide +kernel
theorem dX1_init_192 : decode cX1_init 192 = .ok (.iconst (-1), 1) := by decide +kernel
theorem dX1_init_193 : decode cX1_init 193 = .ok (.putfield 62, 3) := by decide +kernel
theorem dX1_init_196 : decode cX1_init 196 = .ok (.aload_n 0, 1) := by decide +kernel
theorem dX1_init_197 : decode cX1_init 197 = .ok (.iconst 0, 1) := by decide +kernel
theorem dX1_init_198 : decode cX1_init 198 = .ok (.putfield 65, 3) := by decide +kernel
theorem dX1_init_201 : decode cX1_init 201 = .ok (.return_, 1) := by decide +kernel
set_option maxRecDepth 20000 in
theorem ggX1_copyFrom_X2_copyFrom : GoodIn wsX1_copyFrom wsX2_copyFrom := goodIn_r _ [27, 28, 29, 7, 8, 9, 30, 47, 48, 49, 50] (by decide +kernel) (by decide +kernel)
set_option maxRecDepth 20000 in
theorem gX1_copyFrom_X2_copyFrom : GoodIn wsX1_copyFrom (wsV RX1 80 RX2 yX2_copyFrom wsX2_copyFrom) := goodIn_app (goodIn_of _ (by decide +kernel)) ggX1_copyFrom_X2_copyFrom
theorem dX1_copyFrom_0 : decode cX1_copyFrom 0 = .ok (.aload_n 1, 1) := by decide +kernel
theorem dX1_copyFrom_1 : decode cX1_copyFrom 1 = .ok (.getfield 9, 3) := by decide +kernel
theorem dX1_copyFrom_4 : decode cX1_copyFrom 4 = .ok (.iconst 0, 1) := by decide +kernel
theorem dX1_copyFrom_5 : decode cX1_copyFrom 5 = .ok (.aload_n 0, 1) := by decide +kernel
theorem dX1_copyFrom_6 : decode cX1_copyFrom 6 = .ok (.getfield 9, 3) := by decide +kernel
theorem dX1_copyFrom_9 : decode cX1_copyFrom 9 = .ok (.iconst 0, 1) := by decide +kernel
theorem dX1_copyFrom_10 : decode cX1_copyFrom 10 = .ok (.aload_n 1, 1) := by decide +kernel
theorem dX1_copyFrom_11 : decode cX1_copyFrom 11 = .ok (.getfield 9, 3) := by decide +kernel
theorem dX1_copyFrom_14 : decode cX1_copyFrom 14 = .ok (.arraylength, 1) := by decide +kernel
theorem dX1_copyFrom_15 : decode cX1_copyFrom 15 = .ok (.aload_n 0, 1) := by decide +kernel
theorem dX1_copyFrom_16 : decode cX1_copyFrom 16 = .ok (.getfield 9, 3) := by decide +kernel
theorem dX1_copyFrom_19 : decode cX1_copyFrom 19 = .ok (.arraylength, 1) := by decide +kernel
theorem dX1_copyFrom_20 : decode cX1_copyFrom 20 = .ok (.invokestatic 68, 3) := by decide +kernel
theorem dX1_copyFrom_23 : decode cX1_copyFrom 23 = .ok (.invokestatic 74, 3) := by decide +kernel
theorem dX1_copyFrom_26 : decode cX1_copyFrom 26 = .ok (.aload_n 1, 1) := by decide +kernel
theorem dX1_copyFrom_27 : decode cX1_copyFrom 27 = .ok (.getfield 15, 3) := by decide +kernel
theorem dX1_copyFrom_30 : decode cX1_copyFrom 30 = .ok (.iconst 0, 1) := by decide +kernel
theorem dX1_copyFrom_31 : decode cX1_copyFrom 31 = .ok (.aload_n 0, 1) := by decide +kernel
theorem dX1_copyFrom_32 : decode cX1_copyFrom 32 = .ok (.getfield 15, 3) := by decide +kernel
theorem dX1_copyFrom_35 : decode cX1_copyFrom 35 = .ok (.iconst 0, 1) := by decide +kernel
theorem dX1_copyFrom_36 : decode cX1_copyFrom 36 = .ok (.aload_n 1, 1) := by decide +kernel
theorem dX1_copyFrom_37 : decode cX1_copyFrom 37 = .ok (.getfield 15, 3) := by decide +kernel
theorem dX1_copyFrom_40 : decode cX1_copyFrom 40 = .ok (.arraylength, 1) := by decide +kernel
theorem dX1_copyFrom_41 : decode cX1_copyFrom 41 = .ok (.aload_n 0, 1) := by decide +kernel
theorem dX1_copyFrom_42 : decode cX1_copyFrom 42 = .ok (.getfield 15, 3) := by decide +kernel
theorem dX1_copyFrom_45 : decode cX1_copyFrom 45 = .ok (.arraylength, 1) := by decide +kernel
theorem dX1_copyFrom_46 : decode cX1_copyFrom 46 = .ok (.invokestatic 68, 3) := by decide +kernel
theorem dX1_copyFrom_49 : decode cX1_copyFrom 49 = .ok (.invokestatic 74, 3) := by decide +kernel
theorem dX1_copyFrom_52 : decode cX1_copyFrom 52 = .ok (.aload_n 1, 1) := by decide +kernel
theorem dX1_copyFrom_53 : decode cX1_copyFrom 53 = .ok (.getfield 18, 3) := by decide +kernel
theorem dX1_copyFrom_56 : decode cX1_copyFrom 56 = .ok (.iconst 0, 1) := by decide +kernel
theorem dX1_copyFrom_57 : decode cX1_copyFrom 57 = .ok (.aload_n 0, 1) := by decide +kernel
theorem dX1_copyFrom_58 : decode cX1_copyFrom 58 = .ok (.getfield 18, 3) := by decide +kernel
theorem dX1_copyFrom_61 : decode cX1_copyFrom 61 = .ok (.iconst 0, 1) := by decide +kernel
theorem dX1_copyFrom_62 : decode cX1_copyFrom 62 = .ok (.aload_n 1, 1) := by decide +kernel
theorem dX1_copyFrom_63 : decode cX1_copyFrom 63 = .ok (.getfield 18, 3) := by decide +kernel
theorem dX1_copyFrom_66 : decode cX1_copyFrom 66 = .ok (.arraylength, 1) := by decide +kernel
theorem dX1_copyFrom_67 : decode cX1_copyFrom 67 = .ok (.aload_n 0, 1) := by decide +kernel
theorem dX1_copyFrom_68 : decode cX1_copyFrom 68 = .ok (.getfield 18, 3) := by decide +kernel
theorem dX1_copyFrom_71 : decode cX1_copyFrom 71 = .ok (.arraylength, 1) := by decide +kernel
theorem dX1_copyFrom_72 : decode cX1_copyFrom 72 = .ok (.invokestatic 68, 3) := by decide +kernel
theorem dX1_copyFrom_75 : decode cX1_copyFrom 75 = .ok (.invokestatic 74, 3) := by decide +kernel
theorem dX1_copyFrom_78 : decode cX1_copyFrom 78 = .ok (.aload_n 0, 1) := by decide +kernel
theorem dX1_copyFrom_79 : decode cX1_copyFrom 79 = .ok (.getfield 26, 3) := by decide +kernel
theorem dX1_copyFrom_82 : decode cX1_copyFrom 82 = .ok (.aload_n 1, 1) := by decide +kernel
theorem dX1_copyFrom_83 : decode cX1_copyFrom 83 = .ok (.getfield 26, 3) := by decide +kernel
theorem dX1_copyFrom_86 : decode cX1_copyFrom 86 = .ok (.invokevirtual 80, 3) := by decide +kernel
theorem dX1_copyFrom_89 : decode cX1_copyFrom 89 = .ok (.aload_n 0, 1) := by decide +kernel
theorem dX1_copyFrom_90 : decode cX1_copyFrom 90 = .ok (.getfield 30, 3) := by decide +kernel
theorem dX1_copyFrom_93 : decode cX1_copyFrom 93 = .ok (.aload_n 1, 1) := by decide +kernel
theorem dX1_copyFrom_94 : decode cX1_copyFrom 94 = .ok (.getfield 30, 3) := by decide +kernel
theorem dX1_copyFrom_97 : decode cX1_copyFrom 97 = .ok (.invokevirtual 80, 3) := by decide +kernel
theorem dX1_copyFrom_100 : decode cX1_copyFrom 100 = .ok (.aload_n 0, 1) := by decide +kernel
theorem dX1_copyFrom_101 : decode cX1_copyFrom 101 = .ok (.getfield 33, 3) := by decide +kernel
theorem dX1_copyFrom_104 : decode cX1_copyFrom 104 = .ok (.aload_n 1, 1) := by decide +kernel
theorem dX1_copyFrom_105 : decode cX1_copyFrom 105 = .ok (.getfield 33, 3) := by decide +kernel
theorem dX1_copyFrom_108 : decode cX1_copyFrom 108 = .ok (.invokevirtual 80, 3) := by decide +kernel
theorem dX1_copyFrom_111 : decode cX1_copyFrom 111 = .ok (.aload_n 0, 1) := by decide +kernel
theorem dX1_copyFrom_112 : decode cX1_copyFrom 112 = .ok (.getfield 36, 3) := by decide +kernel
theorem dX1_copyFrom_115 : decode cX1_copyFrom 115 = .ok (.aload_n 1, 1) := by decide +kernel
theorem dX1_copyFrom_116 : decode cX1_copyFrom 116 = .ok (.getfield 36, 3) := by decide +kernel
theorem dX1_copyFrom_119 : decode cX1_copyFrom 119 = .ok (.invokevirtual 80, 3) := by decide +kernel
theorem dX1_copyFrom_122 : decode cX1_copyFrom 122 = .ok (.aload_n 0, 1) := by decide +kernel
theorem dX1_copyFrom_123 : decode cX1_copyFrom 123 = .ok (.getfield 39, 3) := by decide +kernel
theorem dX1_copyFrom_126 : decode cX1_copyFrom 126 = .ok (.aload_n 1, 1) := by decide +kernel
theorem dX1_copyFrom_127 : decode cX1_copyFrom 127 = .ok (.getfield 39, 3) := by decide +kernel
theorem dX1_copyFrom_130 : decode cX1_copyFrom 130 = .ok (.invokevirtual 80, 3) := by decide +kernel
theorem dX1_copyFrom_133 : decode cX1_copyFrom 133 = .ok (.aload_n 0, 1) := by decide +kernel
theorem dX1_copyFrom_134 : decode cX1_copyFrom 134 = .ok (.aload_n 1, 1) := by decide +kernel
theorem dX1_copyFrom_135 : decode cX1_copyFrom 135 = .ok (.getfield 42, 3) := by decide +kernel
theorem dX1_copyFrom_138 : decode cX1_copyFrom 138 = .ok (.putfield 42, 3) := by decide +kernel
theorem dX1_copyFrom_141 : decode cX1_copyFrom 141 = .ok (.aload_n 0, 1) := by decide +kernel
theorem dX1_copyFrom_142 : decode cX1_copyFrom 142 = .ok (.aload_n 1, 1) := by decide +kernel
theorem dX1_copyFrom_143 : decode cX1_copyFrom 143 = .ok (.getfield 46, 3) := by decide +kernel
theorem dX1_copyFrom_146 : decode cX1_copyFrom 146 = .ok (.putfield 46, 3) := by decide +kernel
theorem dX1_copyFrom_149 : decode cX1_copyFrom 149 = .ok (.aload_n 0, 1) := by decide +kernel
theorem dX1_copyFrom_150 : decode cX1_copyFrom 150 = .ok (.aload_n 1, 1) := by decide +kernel
theorem dX1_copyFrom_151 : decode cX1_copyFrom 151 = .ok (.getfield 50, 3) := by decide +kernel
theorem dX1_copyFrom_154 : decode cX1_copyFrom 154 = .ok (.putfield 50, 3) := by decide +kernel
theorem dX1_copyFrom_157 : decode cX1_copyFrom 157 = .ok (.aload_n 0, 1) := by decide +kernel
theorem dX1_copyFrom_158 : decode cX1_copyFrom 158 = .ok (.aload_n 1, 1) := by decide +kernel
theorem dX1_copyFrom_159 : decode cX1_copyFrom 159 = .ok (.getfield 53, 3) := by decide +kernel
theorem dX1_copyFrom_162 : decode cX1_copyFrom 162 = .ok (.putfield 53, 3) := by decide +kernel
theorem dX1_copyFrom_165 : decode cX1_copyFrom 165 = .ok (.aload_n 0, 1) := by decide +kernel
theorem dX1_copyFrom_166 : decode cX1_copyFrom 166 = .ok (.aload_n 1, 1) := by decide +kernel
theorem dX1_copyFrom_167 : decode cX1_copyFrom 167 = .ok (.getfield 56, 3) := by decide +kernel
theorem dX1_copyFrom_170 : decode cX1_copyFrom 170 = .ok (.putfield 56, 3) := by decide +kernel
theorem dX1_copyFrom_173 : decode cX1_copyFrom 173 = .ok (.aload_n 0, 1) := by decide +kernel
theorem dX1_copyFrom_174 : decode cX1_copyFrom 174 = .ok (.aload_n 1, 1) := by decide +kernel
theorem dX1_copyFrom_175 : decode cX1_copyFrom 175 = .ok (.getfield 59, 3) := by decide +kernel
theorem dX1_copyFrom_178 : decode cX1_copyFrom 178 = .ok (.putfield 59, 3) := by decide +kernel
theorem dX1_copyFrom_181 : decode cX1_copyFrom 181 = .ok (.return_, 1) := by decide +kernel
theorem dX1_watch_0 : decode cX1_watch 0 = .ok (.aload_n 0, 1) := by decide +kernel
theorem dX1_watch_1 : decode cX1_watch 1 = .ok (.iload_n 1, 1) := by decide +kernel
theorem dX1_watch_2 : decode cX1_watch 2 = .ok (.putfield 62, 3) := by decide +kernel
theorem dX1_watch_5 : decode cX1_watch 5 = .ok (.aload_n 0, 1) := by decide +kernel
theorem dX1_watch_6 : decode cX1_watch 6 = .ok (.iconst 0, 1) := by decide +kernel
theorem dX1_watch_7 : decode cX1_watch 7 = .ok (.putfield 65, 3) := by decide +kernel
theorem dX1_watch_10 : decode cX1_watch 10 = .ok (.return_, 1) := by decide +kernel
theorem dX1_setting_0 : decode cX1_setting 0 = .ok (.iload_n 1, 1) := by decide +kernel
theorem dX1_setting_1 : decode cX1_setting 1 = .ok (.ifCond .lt 21, 3) := by decide +kernel
theorem dX1_setting_4 : decode cX1_setting 4 = .ok (.iload_n 1, 1) := by decide +kernel
theorem dX1_setting_5 : decode cX1_setting 5 = .ok (.aload_n 0, 1) := by decide +kernel
theorem dX1_setting_6 : decode cX1_setting 6 = .ok (.getfield 9, 3) := by decide +kernel
theorem dX1_setting_9 : decode cX1_setting 9 = .ok (.arraylength, 1) := by decide +kernel
theorem dX1_setting_10 : decode cX1_setting 10 = .ok (.if_icmp .ge 12, 3) := by decide +kernel
theorem dX1_setting_13 : decode cX1_setting 13 = .ok (.aload_n 0, 1) := by decide +kernel
theorem dX1_setting_14 : decode cX1_setting 14 = .ok (.getfield 9, 3) := by decide +kernel
theorem dX1_setting_17 : decode cX1_setting 17 = .ok (.iload_n 1, 1) := by decide +kernel
theorem dX1_setting_18 : decode cX1_setting 18 = .ok (.iaload, 1) := by decide +kernel
theorem dX1_setting_19 : decode cX1_setting 19 = .ok (.goto 4, 3) := by decide +kernel
theorem dX1_setting_22 : decode cX1_setting 22 = .ok (.iconst 0, 1) := by decide +kernel
theorem dX1_setting_23 : decode cX1_setting 23 = .ok (.ireturn, 1) := by decide +kernel
theorem dX1_putSetting_0 : decode cX1_putSetting 0 = .ok (.iload_n 1, 1) := by decide +kernel
theorem dX1_putSetting_1 : decode cX1_putSetting 1 = .ok (.ifCond .lt 19, 3) := by decide +kernel
theorem dX1_putSetting_4 : decode cX1_putSetting 4 = .ok (.iload_n 1, 1) := by decide +kernel
theorem dX1_putSetting_5 : decode cX1_putSetting 5 = .ok (.aload_n 0, 1) := by decide +kernel
theorem dX1_putSetting_6 : decode cX1_putSetting 6 = .ok (.getfield 9, 3) := by decide +kernel
theorem dX1_putSetting_9 : decode cX1_putSetting 9 = .ok (.arraylength, 1) := by decide +kernel
theorem dX1_putSetting_10 : decode cX1_putSetting 10 = .ok (.if_icmp .ge 10, 3) := by decide +kernel
theorem dX1_putSetting_13 : decode cX1_putSetting 13 = .ok (.aload_n 0, 1) := by decide +kernel
theorem dX1_putSetting_14 : decode cX1_putSetting 14 = .ok (.getfield 9, 3) := by decide +kernel
theorem dX1_putSetting_17 : decode cX1_putSetting 17 = .ok (.iload_n 1, 1) := by decide +kernel
theorem dX1_putSetting_18 : decode cX1_putSetting 18 = .ok (.iload_n 2, 1) := by decide +kernel
theorem dX1_putSetting_19 : decode cX1_putSetting 19 = .ok (.iastore, 1) := by decide +kernel
theorem dX1_putSetting_20 : decode cX1_putSetting 20 = .ok (.return_, 1) := by decide +kernel
theorem dX1_place_0 : decode cX1_place 0 = .ok (.iload_n 1, 1) := by decide +kernel
theorem dX1_place_1 : decode cX1_place 1 = .ok (.ifCond .lt 21, 3) := by decide +kernel
theorem dX1_place_4 : decode cX1_place 4 = .ok (.iload_n 1, 1) := by decide +kernel
theorem dX1_place_5 : decode cX1_place 5 = .ok (.aload_n 0, 1) := by decide +kernel
theorem dX1_place_6 : decode cX1_place 6 = .ok (.getfield 15, 3) := by decide +kernel
theorem dX1_place_9 : decode cX1_place 9 = .ok (.arraylength, 1) := by decide +kernel
theorem dX1_place_10 : decode cX1_place 10 = .ok (.if_icmp .ge 12, 3) := by decide +kernel
theorem dX1_place_13 : decode cX1_place 13 = .ok (.aload_n 0, 1) := by decide +kernel
theorem dX1_place_14 : decode cX1_place 14 = .ok (.getfield 15, 3) := by decide +kernel
theorem dX1_place_17 : decode cX1_place 17 = .ok (.iload_n 1, 1) := by decide +kernel
theorem dX1_place_18 : decode cX1_place 18 = .ok (.iaload, 1) := by decide +kernel
theorem dX1_place_19 : decode cX1_place 19 = .ok (.goto 4, 3) := by decide +kernel
theorem dX1_place_22 : decode cX1_place 22 = .ok (.iconst 0, 1) := by decide +kernel
theorem dX1_place_23 : decode cX1_place 23 = .ok (.ireturn, 1) := by decide +kernel
theorem dX1_putPlace_0 : decode cX1_putPlace 0 = .ok (.iload_n 1, 1) := by decide +kernel
theorem dX1_putPlace_1 : decode cX1_putPlace 1 = .ok (.ifCond .lt 19, 3) := by decide +kernel
theorem dX1_putPlace_4 : decode cX1_putPlace 4 = .ok (.iload_n 1, 1) := by decide +kernel
theorem dX1_putPlace_5 : decode cX1_putPlace 5 = .ok (.aload_n 0, 1) := by decide +kernel
theorem dX1_putPlace_6 : decode cX1_putPlace 6 = .ok (.getfield 15, 3) := by decide +kernel
theorem dX1_putPlace_9 : decode cX1_putPlace 9 = .ok (.arraylength, 1) := by decide +kernel
theorem dX1_putPlace_10 : decode cX1_putPlace 10 = .ok (.if_icmp .ge 10, 3) := by decide +kernel
theorem dX1_putPlace_13 : decode cX1_putPlace 13 = .ok (.aload_n 0, 1) := by decide +kernel
theorem dX1_putPlace_14 : decode cX1_putPlace 14 = .ok (.getfield 15, 3) := by decide +kernel
theorem dX1_putPlace_17 : decode cX1_putPlace 17 = .ok (.iload_n 1, 1) := by decide +kernel
theorem dX1_putPlace_18 : decode cX1_putPlace 18 = .ok (.iload_n 2, 1) := by decide +kernel
theorem dX1_putPlace_19 : decode cX1_putPlace 19 = .ok (.iastore, 1) := by decide +kernel
theorem dX1_putPlace_20 : decode cX1_putPlace 20 = .ok (.return_, 1) := by decide +kernel
theorem dX1_counted_0 : decode cX1_counted 0 = .ok (.iload_n 1, 1) := by decide +kernel
theorem dX1_counted_1 : decode cX1_counted 1 = .ok (.ifCond .lt 21, 3) := by decide +kernel
theorem dX1_counted_4 : decode cX1_counted 4 = .ok (.iload_n 1, 1) := by decide +kernel
theorem dX1_counted_5 : decode cX1_counted 5 = .ok (.aload_n 0, 1) := by decide +kernel
theorem dX1_counted_6 : decode cX1_counted 6 = .ok (.getfield 18, 3) := by decide +kernel
theorem dX1_counted_9 : decode cX1_counted 9 = .ok (.arraylength, 1) := by decide +kernel
theorem dX1_counted_10 : decode cX1_counted 10 = .ok (.if_icmp .ge 12, 3) := by decide +kernel
theorem dX1_counted_13 : decode cX1_counted 13 = .ok (.aload_n 0, 1) := by decide +kernel
theorem dX1_counted_14 : decode cX1_counted 14 = .ok (.getfield 18, 3) := by decide +kernel
theorem dX1_counted_17 : decode cX1_counted 17 = .ok (.iload_n 1, 1) := by decide +kernel
theorem dX1_counted_18 : decode cX1_counted 18 = .ok (.iaload, 1) := by decide +kernel
theorem dX1_counted_19 : decode cX1_counted 19 = .ok (.goto 4, 3) := by decide +kernel
theorem dX1_counted_22 : decode cX1_counted 22 = .ok (.iconst 0, 1) := by decide +kernel
theorem dX1_counted_23 : decode cX1_counted 23 = .ok (.ireturn, 1) := by decide +kernel
theorem dX1_count_0 : decode cX1_count 0 = .ok (.iload_n 1, 1) := by decide +kernel
theorem dX1_count_1 : decode cX1_count 1 = .ok (.ifCond .lt 22, 3) := by decide +kernel
theorem dX1_count_4 : decode cX1_count 4 = .ok (.iload_n 1, 1) := by decide +kernel
theorem dX1_count_5 : decode cX1_count 5 = .ok (.aload_n 0, 1) := by decide +kernel
theorem dX1_count_6 : decode cX1_count 6 = .ok (.getfield 18, 3) := by decide +kernel
theorem dX1_count_9 : decode cX1_count 9 = .ok (.arraylength, 1) := by decide +kernel
theorem dX1_count_10 : decode cX1_count 10 = .ok (.if_icmp .ge 13, 3) := by decide +kernel
theorem dX1_count_13 : decode cX1_count 13 = .ok (.aload_n 0, 1) := by decide +kernel
theorem dX1_count_14 : decode cX1_count 14 = .ok (.getfield 18, 3) := by decide +kernel
theorem dX1_count_17 : decode cX1_count 17 = .ok (.iload_n 1, 1) := by decide +kernel
theorem dX1_count_18 : decode cX1_count 18 = .ok (.dup2, 1) := by decide +kernel
theorem dX1_count_19 : decode cX1_count 19 = .ok (.iaload, 1) := by decide +kernel
theorem dX1_count_20 : decode cX1_count 20 = .ok (.iconst 1, 1) := by decide +kernel
theorem dX1_count_21 : decode cX1_count 21 = .ok (.iadd, 1) := by decide +kernel
theorem dX1_count_22 : decode cX1_count 22 = .ok (.iastore, 1) := by decide +kernel
theorem dX1_count_23 : decode cX1_count 23 = .ok (.return_, 1) := by decide +kernel
set_option maxRecDepth 20000 in
theorem ggX1_valueOf_X1_setting : GoodIn wsX1_valueOf wsX1_setting := goodIn_r _ [7, 2, 13, 14, 15, 16, 17, 18, 19, 20, 21, 22, 23, 24, 25, 26, 27, 28] (by decide +kernel) (by decide +kernel)
set_option maxRecDepth 20000 in
theorem gX1_valueOf_X1_setting : GoodIn wsX1_valueOf (wsV RX1 84 RX1 yX1_setting wsX1_setting) := goodIn_app (goodIn_of _ (by decide +kernel)) ggX1_valueOf_X1_setting
set_option maxRecDepth 20000 in
theorem ggX1_valueOf_X1_place : GoodIn wsX1_valueOf wsX1_place := goodIn_r _ [11, 12, 13, 14, 15, 16, 17, 18, 19, 20, 21, 22, 23, 24, 25, 26, 27, 28] (by decide +kernel) (by decide +kernel)
set_option maxRecDepth 20000 in
theorem gX1_valueOf_X1_place : GoodIn wsX1_valueOf (wsV RX1 88 RX1 yX1_place wsX1_place) := goodIn_app (goodIn_of _ (by decide +kernel)) ggX1_valueOf_X1_place
theorem dX1_valueOf_0 : decode cX1_valueOf 0 = .ok (.iload_n 1, 1) := by decide +kernel
theorem dX1_valueOf_1 : decode cX1_valueOf 1 = .ok (.bipush 12, 2) := by decide +kernel
theorem dX1_valueOf_3 : decode cX1_valueOf 3 = .ok (.if_icmp .ne 8, 3) := by decide +kernel
theorem dX1_valueOf_6 : decode cX1_valueOf 6 = .ok (.aload_n 0, 1) := by decide +kernel
theorem dX1_valueOf_7 : decode cX1_valueOf 7 = .ok (.getfield 56, 3) := by decide +kernel
theorem dX1_valueOf_10 : decode cX1_valueOf 10 = .ok (.ireturn, 1) := by decide +kernel
theorem dX1_valueOf_11 : decode cX1_valueOf 11 = .ok (.iload_n 1, 1) := by decide +kernel
theorem dX1_valueOf_12 : decode cX1_valueOf 12 = .ok (.aload_n 0, 1) := by decide +kernel
theorem dX1_valueOf_13 : decode cX1_valueOf 13 = .ok (.getfield 9, 3) := by decide +kernel
theorem dX1_valueOf_16 : decode cX1_valueOf 16 = .ok (.arraylength, 1) := by decide +kernel
theorem dX1_valueOf_17 : decode cX1_valueOf 17 = .ok (.if_icmp .ge 11, 3) := by decide +kernel
theorem dX1_valueOf_20 : decode cX1_valueOf 20 = .ok (.aload_n 0, 1) := by decide +kernel
theorem dX1_valueOf_21 : decode cX1_valueOf 21 = .ok (.iload_n 1, 1) := by decide +kernel
theorem dX1_valueOf_22 : decode cX1_valueOf 22 = .ok (.invokevirtual 84, 3) := by decide +kernel
theorem dX1_valueOf_25 : decode cX1_valueOf 25 = .ok (.goto 14, 3) := by decide +kernel
theorem dX1_valueOf_28 : decode cX1_valueOf 28 = .ok (.aload_n 0, 1) := by decide +kernel
theorem dX1_valueOf_29 : decode cX1_valueOf 29 = .ok (.iload_n 1, 1) := by decide +kernel
theorem dX1_valueOf_30 : decode cX1_valueOf 30 = .ok (.aload_n 0, 1) := by decide +kernel
theorem dX1_valueOf_31 : decode cX1_valueOf 31 = .ok (.getfield 9, 3) := by decide +kernel
theorem dX1_valueOf_34 : decode cX1_valueOf 34 = .ok (.arraylength, 1) := by decide +kernel
theorem dX1_valueOf_35 : decode cX1_valueOf 35 = .ok (.isub, 1) := by decide +kernel
theorem dX1_valueOf_36 : decode cX1_valueOf 36 = .ok (.invokevirtual 88, 3) := by decide +kernel
theorem dX1_valueOf_39 : decode cX1_valueOf 39 = .ok (.ireturn, 1) := by decide +kernel
set_option maxRecDepth 20000 in
theorem ggX1_statusOf_X2_count : GoodIn wsX1_statusOf wsX2_count := goodIn_r _ [13, 14, 31, 32, 33, 34] (by decide +kernel) (by decide +kernel)
set_option maxRecDepth 20000 in
theorem gX1_statusOf_X2_count : GoodIn wsX1_statusOf (wsV RX1 91 RX2 yX2_count wsX2_count) := goodIn_app (goodIn_of _ (by decide +kernel)) ggX1_statusOf_X2_count
theorem dX1_statusOf_0 : decode cX1_statusOf 0 = .ok (.iload_n 1, 1) := by decide +kernel
theorem dX1_statusOf_1 : decode cX1_statusOf 1 = .ok (.tableswitch 98 0 6 #[43, 48, 61, 66, 74, 82, 90], 43) := by decide +kernel
theorem dX1_statusOf_44 : decode cX1_statusOf 44 = .ok (.aload_n 0, 1) := by decide +kernel
theorem dX1_statusOf_45 : decode cX1_statusOf 45 = .ok (.getfield 42, 3) := by decide +kernel
theorem dX1_statusOf_48 : decode cX1_statusOf 48 = .ok (.ireturn, 1) := by decide +kernel
theorem dX1_statusOf_49 : decode cX1_statusOf 49 = .ok (.aload_n 0, 1) := by decide +kernel
theorem dX1_statusOf_50 : decode cX1_statusOf 50 = .ok (.getfield 46, 3) := by decide +kernel
theorem dX1_statusOf_53 : decode cX1_statusOf 53 = .ok (.ifCond .eq 7, 3) := by decide +kernel
theorem dX1_statusOf_56 : decode cX1_statusOf 56 = .ok (.iconst 1, 1) := by decide +kernel
theorem dX1_statusOf_57 : decode cX1_statusOf 57 = .ok (.goto 4, 3) := by decide +kernel
theorem dX1_statusOf_60 : decode cX1_statusOf 60 = .ok (.iconst 0, 1) := by decide +kernel
theorem dX1_statusOf_61 : decode cX1_statusOf 61 = .ok (.ireturn, 1) := by decide +kernel
theorem dX1_statusOf_62 : decode cX1_statusOf 62 = .ok (.aload_n 0, 1) := by decide +kernel
theorem dX1_statusOf_63 : decode cX1_statusOf 63 = .ok (.getfield 50, 3) := by decide +kernel
theorem dX1_statusOf_66 : decode cX1_statusOf 66 = .ok (.ireturn, 1) := by decide +kernel
theorem dX1_statusOf_67 : decode cX1_statusOf 67 = .ok (.aload_n 0, 1) := by decide +kernel
theorem dX1_statusOf_68 : decode cX1_statusOf 68 = .ok (.getfield 26, 3) := by decide +kernel
theorem dX1_statusOf_71 : decode cX1_statusOf 71 = .ok (.invokevirtual 91, 3) := by decide +kernel
theorem dX1_statusOf_74 : decode cX1_statusOf 74 = .ok (.ireturn, 1) := by decide +kernel
theorem dX1_statusOf_75 : decode cX1_statusOf 75 = .ok (.aload_n 0, 1) := by decide +kernel
theorem dX1_statusOf_76 : decode cX1_statusOf 76 = .ok (.getfield 30, 3) := by decide +kernel
theorem dX1_statusOf_79 : decode cX1_statusOf 79 = .ok (.invokevirtual 91, 3) := by decide +kernel
theorem dX1_statusOf_82 : decode cX1_statusOf 82 = .ok (.ireturn, 1) := by decide +kernel
theorem dX1_statusOf_83 : decode cX1_statusOf 83 = .ok (.aload_n 0, 1) := by decide +kernel
theorem dX1_statusOf_84 : decode cX1_statusOf 84 = .ok (.getfield 33, 3) := by decide +kernel
theorem dX1_statusOf_87 : decode cX1_statusOf 87 = .ok (.invokevirtual 91, 3) := by decide +kernel
theorem dX1_statusOf_90 : decode cX1_statusOf 90 = .ok (.ireturn, 1) := by decide +kernel
theorem dX1_statusOf_91 : decode cX1_statusOf 91 = .ok (.aload_n 0, 1) := by decide +kernel
theorem dX1_statusOf_92 : decode cX1_statusOf 92 = .ok (.getfield 39, 3) := by decide +kernel
theorem dX1_statusOf_95 : decode cX1_statusOf 95 = .ok (.invokevirtual 91, 3) := by decide +kernel
theorem dX1_statusOf_98 : decode cX1_statusOf 98 = .ok (.ireturn, 1) := by decide +kernel
theorem dX1_statusOf_99 : decode cX1_statusOf 99 = .ok (.aload_n 0, 1) := by decide +kernel
theorem dX1_statusOf_100 : decode cX1_statusOf 100 = .ok (.getfield 36, 3) := by decide +kernel
theorem dX1_statusOf_103 : decode cX1_statusOf 103 = .ok (.invokevirtual 91, 3) := by decide +kernel
theorem dX1_statusOf_106 : decode cX1_statusOf 106 = .ok (.ireturn, 1) := by decide +kernel
set_option maxRecDepth 20000 in
theorem ggX1_hasRoom_X2_count : GoodIn wsX1_hasRoom wsX2_count := goodIn_r _ [7, 8, 35, 36, 37, 38] (by decide +kernel) (by decide +kernel)
set_option maxRecDepth 20000 in
theorem gX1_hasRoom_X2_count : GoodIn wsX1_hasRoom (wsV RX1 91 RX2 yX2_count wsX2_count) := goodIn_app (goodIn_of _ (by decide +kernel)) ggX1_hasRoom_X2_count
set_option maxRecDepth 20000 in
theorem ggX1_hasRoom_X2_hasBelow : GoodIn wsX1_hasRoom wsX2_hasBelow := goodIn_r _ [12, 8, 13, 14, 15, 6, 16, 17, 18, 35, 36, 37, 38] (by decide +kernel) (by decide +kernel)
set_option maxRecDepth 20000 in
theorem gX1_hasRoom_X2_hasBelow : GoodIn wsX1_hasRoom (wsV RX1 95 RX2 yX2_hasBelow wsX2_hasBelow) := goodIn_app (goodIn_of _ (by decide +kernel)) ggX1_hasRoom_X2_hasBelow
theorem dX1_hasRoom_0 : decode cX1_hasRoom 0 = .ok (.aload_n 0, 1) := by decide +kernel
theorem dX1_hasRoom_1 : decode cX1_hasRoom 1 = .ok (.getfield 26, 3) := by decide +kernel
theorem dX1_hasRoom_4 : decode cX1_hasRoom 4 = .ok (.invokevirtual 91, 3) := by decide +kernel
theorem dX1_hasRoom_7 : decode cX1_hasRoom 7 = .ok (.bipush 20, 2) := by decide +kernel
theorem dX1_hasRoom_9 : decode cX1_hasRoom 9 = .ok (.if_icmp .ge 33, 3) := by decide +kernel
theorem dX1_hasRoom_12 : decode cX1_hasRoom 12 = .ok (.aload_n 0, 1) := by decide +kernel
theorem dX1_hasRoom_13 : decode cX1_hasRoom 13 = .ok (.getfield 26, 3) := by decide +kernel
theorem dX1_hasRoom_16 : decode cX1_hasRoom 16 = .ok (.iconst 1, 1) := by decide +kernel
theorem dX1_hasRoom_17 : decode cX1_hasRoom 17 = .ok (.bipush 30, 2) := by decide +kernel
theorem dX1_hasRoom_19 : decode cX1_hasRoom 19 = .ok (.invokevirtual 95, 3) := by decide +kernel
theorem dX1_hasRoom_22 : decode cX1_hasRoom 22 = .ok (.ifCond .ne 20, 3) := by decide +kernel
theorem dX1_hasRoom_25 : decode cX1_hasRoom 25 = .ok (.aload_n 0, 1) := by decide +kernel
theorem dX1_hasRoom_26 : decode cX1_hasRoom 26 = .ok (.getfield 30, 3) := by decide +kernel
theorem dX1_hasRoom_29 : decode cX1_hasRoom 29 = .ok (.iconst 1, 1) := by decide +kernel
theorem dX1_hasRoom_30 : decode cX1_hasRoom 30 = .ok (.bipush 30, 2) := by decide +kernel
theorem dX1_hasRoom_32 : decode cX1_hasRoom 32 = .ok (.invokevirtual 95, 3) := by decide +kernel
theorem dX1_hasRoom_35 : decode cX1_hasRoom 35 = .ok (.ifCond .ne 7, 3) := by decide +kernel
theorem dX1_hasRoom_38 : decode cX1_hasRoom 38 = .ok (.iconst 1, 1) := by decide +kernel
theorem dX1_hasRoom_39 : decode cX1_hasRoom 39 = .ok (.goto 4, 3) := by decide +kernel
theorem dX1_hasRoom_42 : decode cX1_hasRoom 42 = .ok (.iconst 0, 1) := by decide +kernel
theorem dX1_hasRoom_43 : decode cX1_hasRoom 43 = .ok (.ireturn, 1) := by decide +kernel
set_option maxRecDepth 20000 in
theorem ggX1_enter_X1_counted : GoodIn wsX1_enter wsX1_counted := goodIn_r _ [7, 8, 27, 28, 29, 30, 31, 32, 33, 34, 35, 36, 37, 38, 39, 40, 41, 42] (by decide +kernel) (by decide +kernel)
set_option maxRecDepth 20000 in
theorem gX1_enter_X1_counted : GoodIn wsX1_enter (wsV RX1 99 RX1 yX1_counted wsX1_counted) := goodIn_app (goodIn_of _ (by decide +kernel)) ggX1_enter_X1_counted
set_option maxRecDepth 20000 in
theorem ggX1_enter_X1_count : GoodIn wsX1_enter wsX1_count := goodIn_r _ [12, 8, 27, 28, 29, 30, 31, 32, 33, 34, 35, 36, 37, 38, 39, 40, 41, 42] (by decide +kernel) (by decide +kernel)
set_option maxRecDepth 20000 in
theorem gX1_enter_X1_count : GoodIn wsX1_enter (wsV RX1 102 RX1 yX1_count wsX1_count) := goodIn_app (goodIn_of _ (by decide +kernel)) ggX1_enter_X1_count
set_option maxRecDepth 20000 in
theorem ggX1_enter_X2_addRow : GoodIn wsX1_enter wsX2_addRow := goodIn_r _ [17, 18, 19, 20, 21, 22, 23, 16, 24, 25, 43, 44, 45, 46] (by decide +kernel) (by decide +kernel)
set_option maxRecDepth 20000 in
theorem gX1_enter_X2_addRow : GoodIn wsX1_enter (wsV RX1 105 RX2 yX2_addRow wsX2_addRow) := goodIn_app (goodIn_of _ (by decide +kernel)) ggX1_enter_X2_addRow
set_option maxRecDepth 20000 in
theorem ggX1_enter_X2_put : GoodIn wsX1_enter wsX2_put := goodIn_r _ [24, 20, 25, 43, 44, 45, 46] (by decide +kernel) (by decide +kernel)
set_option maxRecDepth 20000 in
theorem gX1_enter_X2_put : GoodIn wsX1_enter (wsV RX1 108 RX2 yX2_put wsX2_put) := goodIn_app (goodIn_of _ (by decide +kernel)) ggX1_enter_X2_put
theorem dX1_enter_0 : decode cX1_enter 0 = .ok (.aload_n 0, 1) := by decide +kernel
theorem dX1_enter_1 : decode cX1_enter 1 = .ok (.iconst 0, 1) := by decide +kernel
theorem dX1_enter_2 : decode cX1_enter 2 = .ok (.invokevirtual 99, 3) := by decide +kernel
theorem dX1_enter_5 : decode cX1_enter 5 = .ok (.istore_n 2, 1) := by decide +kernel
theorem dX1_enter_6 : decode cX1_enter 6 = .ok (.aload_n 0, 1) := by decide +kernel
theorem dX1_enter_7 : decode cX1_enter 7 = .ok (.iconst 0, 1) := by decide +kernel
theorem dX1_enter_8 : decode cX1_enter 8 = .ok (.invokevirtual 102, 3) := by decide +kernel
theorem dX1_enter_11 : decode cX1_enter 11 = .ok (.aload_n 0, 1) := by decide +kernel
theorem dX1_enter_12 : decode cX1_enter 12 = .ok (.getfield 26, 3) := by decide +kernel
theorem dX1_enter_15 : decode cX1_enter 15 = .ok (.iload_n 2, 1) := by decide +kernel
theorem dX1_enter_16 : decode cX1_enter 16 = .ok (.invokevirtual 105, 3) := by decide +kernel
theorem dX1_enter_19 : decode cX1_enter 19 = .ok (.istore_n 3, 1) := by decide +kernel
theorem dX1_enter_20 : decode cX1_enter 20 = .ok (.aload_n 0, 1) := by decide +kernel
theorem dX1_enter_21 : decode cX1_enter 21 = .ok (.getfield 26, 3) := by decide +kernel
theorem dX1_enter_24 : decode cX1_enter 24 = .ok (.iload_n 3, 1) := by decide +kernel
theorem dX1_enter_25 : decode cX1_enter 25 = .ok (.iconst 2, 1) := by decide +kernel
theorem dX1_enter_26 : decode cX1_enter 26 = .ok (.iload_n 1, 1) := by decide +kernel
theorem dX1_enter_27 : decode cX1_enter 27 = .ok (.invokevirtual 108, 3) := by decide +kernel
theorem dX1_enter_30 : decode cX1_enter 30 = .ok (.aload_n 0, 1) := by decide +kernel
theorem dX1_enter_31 : decode cX1_enter 31 = .ok (.getfield 30, 3) := by decide +kernel
theorem dX1_enter_34 : decode cX1_enter 34 = .ok (.iload_n 2, 1) := by decide +kernel
theorem dX1_enter_35 : decode cX1_enter 35 = .ok (.invokevirtual 105, 3) := by decide +kernel
theorem dX1_enter_38 : decode cX1_enter 38 = .ok (.pop, 1) := by decide +kernel
theorem dX1_enter_39 : decode cX1_enter 39 = .ok (.iload_n 2, 1) := by decide +kernel
theorem dX1_enter_40 : decode cX1_enter 40 = .ok (.ireturn, 1) := by decide +kernel
set_option maxRecDepth 20000 in
theorem ggX1_passTick_X1_deliverVerdicts : GoodIn wsX1_passTick wsX1_deliverVerdicts := goodIn_r _ [7, 8, 1, 9, 10, 11, 12, 13, 14, 15, 16, 17, 18, 19, 20, 21, 22, 23, 6, 24, 25, 26, 27, 28, 29, 30, 31, 32, 33, 34, 35, 36, 37, 38, 39, 40, 41, 42, 43, 44, 45, 46, 47, 154, 155, 156, 157, 158, 159, 160, 161, 162, 163, 164, 165, 166, 167, 168, 169, 170, 171, 172, 173] (by decide +kernel) (by decide +kernel)
set_option maxRecDepth 20000 in
theorem gX1_passTick_X1_deliverVerdicts : GoodIn wsX1_passTick (wsV RX1 112 RX1 yX1_deliverVerdicts wsX1_deliverVerdicts) := goodIn_app (goodIn_of _ (by decide +kernel)) ggX1_passTick_X1_deliverVerdicts
set_option maxRecDepth 20000 in
theorem ggX1_passTick_X1_fillBin : GoodIn wsX1_passTick wsX1_fillBin := goodIn_r _ [51, 52, 1, 9, 10, 11, 12, 13, 14, 15, 16, 17, 18, 19, 20, 53, 54, 55, 6, 56, 57, 58, 59, 60, 61, 62, 2, 31, 32, 33, 34, 35, 63, 45, 46, 47, 40, 41, 42, 43, 30, 44, 154, 155, 156, 157, 158, 159, 160, 161, 162, 163, 164, 165, 166, 167, 168, 169, 170, 171, 172, 173] (by decide +kernel) (by decide +kernel)
set_option maxRecDepth 20000 in
theorem gX1_passTick_X1_fillBin : GoodIn wsX1_passTick (wsV RX1 115 RX1 yX1_fillBin wsX1_fillBin) := goodIn_app (goodIn_of _ (by decide +kernel)) ggX1_passTick_X1_fillBin
set_option maxRecDepth 20000 in
theorem ggX1_passTick_X1_closeOverdueExpectations : GoodIn wsX1_passTick wsX1_closeOverdueExpectations := goodIn_r _ [67, 57, 1, 9, 10, 11, 12, 13, 14, 15, 16, 17, 18, 19, 20, 63, 45, 46, 47, 58, 59, 60, 6, 61, 62, 2, 31, 32, 33, 34, 35, 154, 155, 156, 157, 158, 159, 160, 161, 162, 163, 164, 165, 166, 167, 168, 169, 170, 171, 172, 173] (by decide +kernel) (by decide +kernel)
set_option maxRecDepth 20000 in
theorem gX1_passTick_X1_closeOverdueExpectations : GoodIn wsX1_passTick (wsV RX1 118 RX1 yX1_closeOverdueExpectations wsX1_closeOverdueExpectations) := goodIn_app (goodIn_of _ (by decide +kernel)) ggX1_passTick_X1_closeOverdueExpectations
set_option maxRecDepth 20000 in
theorem ggX1_passTick_X1_setting : GoodIn wsX1_passTick wsX1_setting := goodIn_r _ [71, 72, 154, 155, 156, 157, 158, 159, 160, 161, 162, 163, 164, 165, 166, 167, 168, 169] (by decide +kernel) (by decide +kernel)
set_option maxRecDepth 20000 in
theorem gX1_passTick_X1_setting : GoodIn wsX1_passTick (wsV RX1 84 RX1 yX1_setting wsX1_setting) := goodIn_app (goodIn_of _ (by decide +kernel)) ggX1_passTick_X1_setting
set_option maxRecDepth 20000 in
theorem ggX1_passTick_X1_pulse : GoodIn wsX1_passTick wsX1_pulse := goodIn_r _ [76, 77, 25, 78, 79, 80, 12, 81, 14, 30, 16, 17, 18, 19, 20, 82, 37, 38, 39, 9, 10, 11, 13, 83, 84, 85, 6, 86, 15, 87, 88, 89, 90, 91, 92, 93, 94, 95, 96, 68, 69, 70, 71, 72, 36, 97, 98, 99, 100, 101, 102, 103, 104, 105, 106, 107, 108, 31, 32, 33, 34, 35, 109, 110, 111, 112, 8, 1, 113, 114, 115, 116, 117, 118, 119, 120, 121, 122, 123, 124, 125, 126, 127, 128, 129, 52, 130, 57, 131, 132, 133, 134, 135, 136, 137, 138, 139, 140, 141, 63, 45, 46, 47, 58, 59, 60, 61, 62, 2, 142, 143, 144, 145, 146, 147, 148, 149, 150, 151, 152, 153, 154, 155, 156, 157, 158, 159, 160, 161, 162, 163, 164, 165, 166, 167, 168, 169, 170, 171, 172, 173] (by decide +kernel) (by decide +kernel)
set_option maxRecDepth 20000 in
theorem gX1_passTick_X1_pulse : GoodIn wsX1_passTick (wsV RX1 121 RX1 yX1_pulse wsX1_pulse) := goodIn_app (goodIn_of _ (by decide +kernel)) ggX1_passTick_X1_pulse
theorem dX1_passTick_0 : decode cX1_passTick 0 = .ok (.aload_n 0, 1) := by decide +kernel
theorem dX1_passTick_1 : decode cX1_passTick 1 = .ok (.dup, 1) := by decide +kernel
theorem dX1_passTick_2 : decode cX1_passTick 2 = .ok (.getfield 42, 3) := by decide +kernel
theorem dX1_passTick_5 : decode cX1_passTick 5 = .ok (.iconst 1, 1) := by decide +kernel
theorem dX1_passTick_6 : decode cX1_passTick 6 = .ok (.iadd, 1) := by decide +kernel
theorem dX1_passTick_7 : decode cX1_passTick 7 = .ok (.putfield 42, 3) := by decide +kernel
theorem dX1_passTick_10 : decode cX1_passTick 10 = .ok (.aload_n 0, 1) := by decide +kernel
theorem dX1_passTick_11 : decode cX1_passTick 11 = .ok (.invokevirtual 112, 3) := by decide +kernel
theorem dX1_passTick_14 : decode cX1_passTick 14 = .ok (.aload_n 0, 1) := by decide +kernel
theorem dX1_passTick_15 : decode cX1_passTick 15 = .ok (.invokevirtual 115, 3) := by decide +kernel
theorem dX1_passTick_18 : decode cX1_passTick 18 = .ok (.aload_n 0, 1) := by decide +kernel
theorem dX1_passTick_19 : decode cX1_passTick 19 = .ok (.invokevirtual 118, 3) := by decide +kernel
theorem dX1_passTick_22 : decode cX1_passTick 22 = .ok (.aload_n 0, 1) := by decide +kernel
theorem dX1_passTick_23 : decode cX1_passTick 23 = .ok (.iconst 0, 1) := by decide +kernel
theorem dX1_passTick_24 : decode cX1_passTick 24 = .ok (.invokevirtual 84, 3) := by decide +kernel
theorem dX1_passTick_27 : decode cX1_passTick 27 = .ok (.istore_n 1, 1) := by decide +kernel
theorem dX1_passTick_28 : decode cX1_passTick 28 = .ok (.iconst 0, 1) := by decide +kernel
theorem dX1_passTick_29 : decode cX1_passTick 29 = .ok (.istore_n 2, 1) := by decide +kernel
theorem dX1_passTick_30 : decode cX1_passTick 30 = .ok (.iload_n 2, 1) := by decide +kernel
theorem dX1_passTick_31 : decode cX1_passTick 31 = .ok (.iload_n 1, 1) := by decide +kernel
theorem dX1_passTick_32 : decode cX1_passTick 32 = .ok (.if_icmp .ge 20, 3) := by decide +kernel
theorem dX1_passTick_35 : decode cX1_passTick 35 = .ok (.aload_n 0, 1) := by decide +kernel
theorem dX1_passTick_36 : decode cX1_passTick 36 = .ok (.getfield 46, 3) := by decide +kernel
theorem dX1_passTick_39 : decode cX1_passTick 39 = .ok (.ifCond .eq 13, 3) := by decide +kernel
theorem dX1_passTick_42 : decode cX1_passTick 42 = .ok (.aload_n 0, 1) := by decide +kernel
theorem dX1_passTick_43 : decode cX1_passTick 43 = .ok (.invokevirtual 121, 3) := by decide +kernel
theorem dX1_passTick_46 : decode cX1_passTick 46 = .ok (.iinc 2 1, 3) := by decide +kernel
theorem dX1_passTick_49 : decode cX1_passTick 49 = .ok (.goto (-19), 3) := by decide +kernel
theorem dX1_passTick_52 : decode cX1_passTick 52 = .ok (.return_, 1) := by decide +kernel
set_option maxRecDepth 20000 in
theorem ggX1_raise_X1_count : GoodIn wsX1_raise wsX1_count := goodIn_r _ [7, 8, 9, 10, 11, 12, 13, 14, 15, 16, 17, 18, 19, 20, 21, 22, 23, 24] (by decide +kernel) (by decide +kernel)
set_option maxRecDepth 20000 in
theorem gX1_raise_X1_count : GoodIn wsX1_raise (wsV RX1 102 RX1 yX1_count wsX1_count) := goodIn_app (goodIn_of _ (by decide +kernel)) ggX1_raise_X1_count
theorem dX1_raise_0 : decode cX1_raise 0 = .ok (.aload_n 0, 1) := by decide +kernel
theorem dX1_raise_1 : decode cX1_raise 1 = .ok (.bipush 13, 2) := by decide +kernel
theorem dX1_raise_3 : decode cX1_raise 3 = .ok (.iload_n 1, 1) := by decide +kernel
theorem dX1_raise_4 : decode cX1_raise 4 = .ok (.iadd, 1) := by decide +kernel
theorem dX1_raise_5 : decode cX1_raise 5 = .ok (.invokevirtual 102, 3) := by decide +kernel
theorem dX1_raise_8 : decode cX1_raise 8 = .ok (.aload_n 0, 1) := by decide +kernel
theorem dX1_raise_9 : decode cX1_raise 9 = .ok (.getfield 50, 3) := by decide +kernel
theorem dX1_raise_12 : decode cX1_raise 12 = .ok (.ifCond .ne 13, 3) := by decide +kernel
theorem dX1_raise_15 : decode cX1_raise 15 = .ok (.aload_n 0, 1) := by decide +kernel
theorem dX1_raise_16 : decode cX1_raise 16 = .ok (.iload_n 1, 1) := by decide +kernel
theorem dX1_raise_17 : decode cX1_raise 17 = .ok (.putfield 50, 3) := by decide +kernel
theorem dX1_raise_20 : decode cX1_raise 20 = .ok (.aload_n 0, 1) := by decide +kernel
theorem dX1_raise_21 : decode cX1_raise 21 = .ok (.iconst 0, 1) := by decide +kernel
theorem dX1_raise_22 : decode cX1_raise 22 = .ok (.putfield 46, 3) := by decide +kernel
theorem dX1_raise_25 : decode cX1_raise 25 = .ok (.return_, 1) := by decide +kernel
set_option maxRecDepth 20000 in
theorem ggX1_deliverVerdicts_X2_count : GoodIn wsX1_deliverVerdicts wsX2_count := goodIn_r _ [7, 8, 59, 60, 61, 62] (by decide +kernel) (by decide +kernel)
set_option maxRecDepth 20000 in
theorem gX1_deliverVerdicts_X2_count : GoodIn wsX1_deliverVerdicts (wsV RX1 91 RX2 yX2_count wsX2_count) := goodIn_app (goodIn_of _ (by decide +kernel)) ggX1_deliverVerdicts_X2_count
set_option maxRecDepth 20000 in
theorem ggX1_deliverVerdicts_X2_get : GoodIn wsX1_deliverVerdicts wsX2_get := goodIn_r _ [12, 13, 14, 59, 60, 61, 62] (by decide +kernel) (by decide +kernel)
set_option maxRecDepth 20000 in
theorem gX1_deliverVerdicts_X2_get : GoodIn wsX1_deliverVerdicts (wsV RX1 124 RX2 yX2_get wsX2_get) := goodIn_app (goodIn_of _ (by decide +kernel)) ggX1_deliverVerdicts_X2_get
set_option maxRecDepth 20000 in
theorem ggX1_deliverVerdicts_X1_deliver : GoodIn wsX1_deliverVerdicts wsX1_deliver := goodIn_r _ [19, 20, 1, 9, 10, 11, 6, 12, 13, 14, 21, 22, 23, 24, 8, 25, 26, 27, 28, 18, 29, 30, 31, 32, 33, 34, 43, 44, 45, 46, 47, 48, 49, 50, 51, 52, 53, 54, 55, 56, 57, 58, 59, 60, 61, 62] (by decide +kernel) (by decide +kernel)
set_option maxRecDepth 20000 in
theorem gX1_deliverVerdicts_X1_deliver : GoodIn wsX1_deliverVerdicts (wsV RX1 127 RX1 yX1_deliver wsX1_deliver) := goodIn_app (goodIn_of _ (by decide +kernel)) ggX1_deliverVerdicts_X1_deliver
set_option maxRecDepth 20000 in
theorem ggX1_deliverVerdicts_X2_removeRowsOf : GoodIn wsX1_deliverVerdicts wsX2_removeRowsOf := goodIn_r _ [38, 8, 25, 10, 11, 6, 12, 13, 14, 39, 40, 41, 42, 59, 60, 61, 62] (by decide +kernel) (by decide +kernel)
set_option maxRecDepth 20000 in
theorem gX1_deliverVerdicts_X2_removeRowsOf : GoodIn wsX1_deliverVerdicts (wsV RX1 130 RX2 yX2_removeRowsOf wsX2_removeRowsOf) := goodIn_app (goodIn_of _ (by decide +kernel)) ggX1_deliverVerdicts_X2_removeRowsOf
theorem dX1_deliverVerdicts_0 : decode cX1_deliverVerdicts 0 = .ok (.iconst 0, 1) := by decide +kernel
theorem dX1_deliverVerdicts_1 : decode cX1_deliverVerdicts 1 = .ok (.istore_n 1, 1) := by decide +kernel
theorem dX1_deliverVerdicts_2 : decode cX1_deliverVerdicts 2 = .ok (.iload_n 1, 1) := by decide +kernel
theorem dX1_deliverVerdicts_3 : decode cX1_deliverVerdicts 3 = .ok (.aload_n 0, 1) := by decide +kernel
theorem dX1_deliverVerdicts_4 : decode cX1_deliverVerdicts 4 = .ok (.getfield 33, 3) := by decide +kernel
theorem dX1_deliverVerdicts_7 : decode cX1_deliverVerdicts 7 = .ok (.invokevirtual 91, 3) := by decide +kernel
theorem dX1_deliverVerdicts_10 : decode cX1_deliverVerdicts 10 = .ok (.if_icmp .ge 30, 3) := by decide +kernel
theorem dX1_deliverVerdicts_13 : decode cX1_deliverVerdicts 13 = .ok (.aload_n 0, 1) := by decide +kernel
theorem dX1_deliverVerdicts_14 : decode cX1_deliverVerdicts 14 = .ok (.getfield 33, 3) := by decide +kernel
theorem dX1_deliverVerdicts_17 : decode cX1_deliverVerdicts 17 = .ok (.iload_n 1, 1) := by decide +kernel
theorem dX1_deliverVerdicts_18 : decode cX1_deliverVerdicts 18 = .ok (.iconst 0, 1) := by decide +kernel
theorem dX1_deliverVerdicts_19 : decode cX1_deliverVerdicts 19 = .ok (.invokevirtual 124, 3) := by decide +kernel
theorem dX1_deliverVerdicts_22 : decode cX1_deliverVerdicts 22 = .ok (.aload_n 0, 1) := by decide +kernel
theorem dX1_deliverVerdicts_23 : decode cX1_deliverVerdicts 23 = .ok (.getfield 42, 3) := by decide +kernel
theorem dX1_deliverVerdicts_26 : decode cX1_deliverVerdicts 26 = .ok (.if_icmp .ne 8, 3) := by decide +kernel
theorem dX1_deliverVerdicts_29 : decode cX1_deliverVerdicts 29 = .ok (.aload_n 0, 1) := by decide +kernel
theorem dX1_deliverVerdicts_30 : decode cX1_deliverVerdicts 30 = .ok (.iload_n 1, 1) := by decide +kernel
theorem dX1_deliverVerdicts_31 : decode cX1_deliverVerdicts 31 = .ok (.invokevirtual 127, 3) := by decide +kernel
theorem dX1_deliverVerdicts_34 : decode cX1_deliverVerdicts 34 = .ok (.iinc 1 1, 3) := by decide +kernel
theorem dX1_deliverVerdicts_37 : decode cX1_deliverVerdicts 37 = .ok (.goto (-35), 3) := by decide +kernel
theorem dX1_deliverVerdicts_40 : decode cX1_deliverVerdicts 40 = .ok (.aload_n 0, 1) := by decide +kernel
theorem dX1_deliverVerdicts_41 : decode cX1_deliverVerdicts 41 = .ok (.getfield 33, 3) := by decide +kernel
theorem dX1_deliverVerdicts_44 : decode cX1_deliverVerdicts 44 = .ok (.aload_n 0, 1) := by decide +kernel
theorem dX1_deliverVerdicts_45 : decode cX1_deliverVerdicts 45 = .ok (.getfield 42, 3) := by decide +kernel
theorem dX1_deliverVerdicts_48 : decode cX1_deliverVerdicts 48 = .ok (.invokevirtual 130, 3) := by decide +kernel
theorem dX1_deliverVerdicts_51 : decode cX1_deliverVerdicts 51 = .ok (.return_, 1) := by decide +kernel
set_option maxRecDepth 20000 in
theorem ggX1_deliver_X2_get : GoodIn wsX1_deliver wsX2_get := goodIn_r _ [7, 8, 9, 42, 43, 44, 45] (by decide +kernel) (by decide +kernel)
set_option maxRecDepth 20000 in
theorem gX1_deliver_X2_get : GoodIn wsX1_deliver (wsV RX1 124 RX2 yX2_get wsX2_get) := goodIn_app (goodIn_of _ (by decide +kernel)) ggX1_deliver_X2_get
set_option maxRecDepth 20000 in
theorem ggX1_deliver_X2_find : GoodIn wsX1_deliver wsX2_find := goodIn_r _ [13, 14, 15, 4, 5, 6, 7, 8, 9, 42, 43, 44, 45] (by decide +kernel) (by decide +kernel)
set_option maxRecDepth 20000 in
theorem gX1_deliver_X2_find : GoodIn wsX1_deliver (wsV RX1 133 RX2 yX2_find wsX2_find) := goodIn_app (goodIn_of _ (by decide +kernel)) ggX1_deliver_X2_find
set_option maxRecDepth 20000 in
theorem ggX1_deliver_X1_count : GoodIn wsX1_deliver wsX1_count := goodIn_r _ [20, 21, 26, 27, 28, 29, 30, 31, 32, 33, 34, 35, 36, 37, 38, 39, 40, 41] (by decide +kernel) (by decide +kernel)
set_option maxRecDepth 20000 in
theorem gX1_deliver_X1_count : GoodIn wsX1_deliver (wsV RX1 102 RX1 yX1_count wsX1_count) := goodIn_app (goodIn_of _ (by decide +kernel)) ggX1_deliver_X1_count
set_option maxRecDepth 20000 in
theorem ggX1_deliver_X2_put : GoodIn wsX1_deliver wsX2_put := goodIn_r _ [25, 8, 9, 42, 43, 44, 45] (by decide +kernel) (by decide +kernel)
set_option maxRecDepth 20000 in
theorem gX1_deliver_X2_put : GoodIn wsX1_deliver (wsV RX1 108 RX2 yX2_put wsX2_put) := goodIn_app (goodIn_of _ (by decide +kernel)) ggX1_deliver_X2_put
theorem dX1_deliver_0 : decode cX1_deliver 0 = .ok (.aload_n 0, 1) := by decide +kernel
theorem dX1_deliver_1 : decode cX1_deliver 1 = .ok (.getfield 30, 3) := by decide +kernel
theorem dX1_deliver_4 : decode cX1_deliver 4 = .ok (.aload_n 0, 1) := by decide +kernel
theorem dX1_deliver_5 : decode cX1_deliver 5 = .ok (.getfield 33, 3) := by decide +kernel
theorem dX1_deliver_8 : decode cX1_deliver 8 = .ok (.iload_n 1, 1) := by decide +kernel
theorem dX1_deliver_9 : decode cX1_deliver 9 = .ok (.iconst 1, 1) := by decide +kernel
theorem dX1_deliver_10 : decode cX1_deliver 10 = .ok (.invokevirtual 124, 3) := by decide +kernel
theorem dX1_deliver_13 : decode cX1_deliver 13 = .ok (.invokevirtual 133, 3) := by decide +kernel
theorem dX1_deliver_16 : decode cX1_deliver 16 = .ok (.istore_n 2, 1) := by decide +kernel
theorem dX1_deliver_17 : decode cX1_deliver 17 = .ok (.iload_n 2, 1) := by decide +kernel
theorem dX1_deliver_18 : decode cX1_deliver 18 = .ok (.iconst (-1), 1) := by decide +kernel
theorem dX1_deliver_19 : decode cX1_deliver 19 = .ok (.if_icmp .eq 16, 3) := by decide +kernel
theorem dX1_deliver_22 : decode cX1_deliver 22 = .ok (.aload_n 0, 1) := by decide +kernel
theorem dX1_deliver_23 : decode cX1_deliver 23 = .ok (.getfield 30, 3) := by decide +kernel
theorem dX1_deliver_26 : decode cX1_deliver 26 = .ok (.iload_n 2, 1) := by decide +kernel
theorem dX1_deliver_27 : decode cX1_deliver 27 = .ok (.iconst 4, 1) := by decide +kernel
theorem dX1_deliver_28 : decode cX1_deliver 28 = .ok (.invokevirtual 124, 3) := by decide +kernel
theorem dX1_deliver_31 : decode cX1_deliver 31 = .ok (.iconst 1, 1) := by decide +kernel
theorem dX1_deliver_32 : decode cX1_deliver 32 = .ok (.if_icmp .ne 9, 3) := by decide +kernel
theorem dX1_deliver_35 : decode cX1_deliver 35 = .ok (.aload_n 0, 1) := by decide +kernel
theorem dX1_deliver_36 : decode cX1_deliver 36 = .ok (.iconst 4, 1) := by decide +kernel
theorem dX1_deliver_37 : decode cX1_deliver 37 = .ok (.invokevirtual 102, 3) := by decide +kernel
theorem dX1_deliver_40 : decode cX1_deliver 40 = .ok (.return_, 1) := by decide +kernel
theorem dX1_deliver_41 : decode cX1_deliver 41 = .ok (.aload_n 0, 1) := by decide +kernel
theorem dX1_deliver_42 : decode cX1_deliver 42 = .ok (.getfield 33, 3) := by decide +kernel
theorem dX1_deliver_45 : decode cX1_deliver 45 = .ok (.iload_n 1, 1) := by decide +kernel
theorem dX1_deliver_46 : decode cX1_deliver 46 = .ok (.iconst 3, 1) := by decide +kernel
theorem dX1_deliver_47 : decode cX1_deliver 47 = .ok (.invokevirtual 124, 3) := by decide +kernel
theorem dX1_deliver_50 : decode cX1_deliver 50 = .ok (.istore_n 3, 1) := by decide +kernel
theorem dX1_deliver_51 : decode cX1_deliver 51 = .ok (.aload_n 0, 1) := by decide +kernel
theorem dX1_deliver_52 : decode cX1_deliver 52 = .ok (.getfield 30, 3) := by decide +kernel
theorem dX1_deliver_55 : decode cX1_deliver 55 = .ok (.iload_n 2, 1) := by decide +kernel
theorem dX1_deliver_56 : decode cX1_deliver 56 = .ok (.iconst 2, 1) := by decide +kernel
theorem dX1_deliver_57 : decode cX1_deliver 57 = .ok (.invokevirtual 124, 3) := by decide +kernel
theorem dX1_deliver_60 : decode cX1_deliver 60 = .ok (.istore 4, 2) := by decide +kernel
theorem dX1_deliver_62 : decode cX1_deliver 62 = .ok (.aload_n 0, 1) := by decide +kernel
theorem dX1_deliver_63 : decode cX1_deliver 63 = .ok (.getfield 33, 3) := by decide +kernel
theorem dX1_deliver_66 : decode cX1_deliver 66 = .ok (.iload_n 1, 1) := by decide +kernel
theorem dX1_deliver_67 : decode cX1_deliver 67 = .ok (.iconst 2, 1) := by decide +kernel
theorem dX1_deliver_68 : decode cX1_deliver 68 = .ok (.invokevirtual 124, 3) := by decide +kernel
theorem dX1_deliver_71 : decode cX1_deliver 71 = .ok (.ifCond .ne 21, 3) := by decide +kernel
theorem dX1_deliver_74 : decode cX1_deliver 74 = .ok (.iload 4, 2) := by decide +kernel
theorem dX1_deliver_76 : decode cX1_deliver 76 = .ok (.ifCond .ne 46, 3) := by decide +kernel
theorem dX1_deliver_79 : decode cX1_deliver 79 = .ok (.aload_n 0, 1) := by decide +kernel
theorem dX1_deliver_80 : decode cX1_deliver 80 = .ok (.getfield 30, 3) := by decide +kernel
theorem dX1_deliver_83 : decode cX1_deliver 83 = .ok (.iload_n 2, 1) := by decide +kernel
theorem dX1_deliver_84 : decode cX1_deliver 84 = .ok (.iconst 2, 1) := by decide +kernel
theorem dX1_deliver_85 : decode cX1_deliver 85 = .ok (.iload_n 3, 1) := by decide +kernel
theorem dX1_deliver_86 : decode cX1_deliver 86 = .ok (.invokevirtual 108, 3) := by decide +kernel
theorem dX1_deliver_89 : decode cX1_deliver 89 = .ok (.goto 33, 3) := by decide +kernel
theorem dX1_deliver_92 : decode cX1_deliver 92 = .ok (.iload 4, 2) := by decide +kernel
theorem dX1_deliver_94 : decode cX1_deliver 94 = .ok (.ifCond .eq 9, 3) := by decide +kernel
theorem dX1_deliver_97 : decode cX1_deliver 97 = .ok (.iload 4, 2) := by decide +kernel
theorem dX1_deliver_99 : decode cX1_deliver 99 = .ok (.iconst 3, 1) := by decide +kernel
theorem dX1_deliver_100 : decode cX1_deliver 100 = .ok (.if_icmp .ne 22, 3) := by decide +kernel
theorem dX1_deliver_103 : decode cX1_deliver 103 = .ok (.aload_n 0, 1) := by decide +kernel
theorem dX1_deliver_104 : decode cX1_deliver 104 = .ok (.getfield 30, 3) := by decide +kernel
theorem dX1_deliver_107 : decode cX1_deliver 107 = .ok (.iload_n 2, 1) := by decide +kernel
theorem dX1_deliver_108 : decode cX1_deliver 108 = .ok (.iconst 2, 1) := by decide +kernel
theorem dX1_deliver_109 : decode cX1_deliver 109 = .ok (.iload_n 3, 1) := by decide +kernel
theorem dX1_deliver_110 : decode cX1_deliver 110 = .ok (.iconst 3, 1) := by decide +kernel
theorem dX1_deliver_111 : decode cX1_deliver 111 = .ok (.if_icmp .ne 7, 3) := by decide +kernel
theorem dX1_deliver_114 : decode cX1_deliver 114 = .ok (.iconst 2, 1) := by decide +kernel
theorem dX1_deliver_115 : decode cX1_deliver 115 = .ok (.goto 4, 3) := by decide +kernel
theorem dX1_deliver_118 : decode cX1_deliver 118 = .ok (.iload_n 3, 1) := by decide +kernel
theorem dX1_deliver_119 : decode cX1_deliver 119 = .ok (.invokevirtual 108, 3) := by decide +kernel
theorem dX1_deliver_122 : decode cX1_deliver 122 = .ok (.return_, 1) := by decide +kernel
set_option maxRecDepth 20000 in
theorem ggX1_fillBin_X2_count : GoodIn wsX1_fillBin wsX2_count := goodIn_r _ [7, 8, 58, 59, 60, 61] (by decide +kernel) (by decide +kernel)
set_option maxRecDepth 20000 in
theorem gX1_fillBin_X2_count : GoodIn wsX1_fillBin (wsV RX1 91 RX2 yX2_count wsX2_count) := goodIn_app (goodIn_of _ (by decide +kernel)) ggX1_fillBin_X2_count
set_option maxRecDepth 20000 in
theorem ggX1_fillBin_X2_get : GoodIn wsX1_fillBin wsX2_get := goodIn_r _ [12, 13, 14, 58, 59, 60, 61] (by decide +kernel) (by decide +kernel)
set_option maxRecDepth 20000 in
theorem gX1_fillBin_X2_get : GoodIn wsX1_fillBin (wsV RX1 124 RX2 yX2_get wsX2_get) := goodIn_app (goodIn_of _ (by decide +kernel)) ggX1_fillBin_X2_get
set_option maxRecDepth 20000 in
theorem ggX1_fillBin_X1_confirmOldest : GoodIn wsX1_fillBin wsX1_confirmOldest := goodIn_r _ [19, 20, 3, 4, 5, 6, 7, 8, 21, 22, 23, 18, 24, 25, 26, 27, 28, 29, 30, 31, 32, 33, 34, 35, 13, 14, 42, 43, 44, 45, 46, 47, 48, 49, 50, 51, 52, 53, 54, 55, 56, 57, 58, 59, 60, 61] (by decide +kernel) (by decide +kernel)
set_option maxRecDepth 20000 in
theorem gX1_fillBin_X1_confirmOldest : GoodIn wsX1_fillBin (wsV RX1 136 RX1 yX1_confirmOldest wsX1_confirmOldest) := goodIn_app (goodIn_of _ (by decide +kernel)) ggX1_fillBin_X1_confirmOldest
set_option maxRecDepth 20000 in
theorem ggX1_fillBin_X2_removeRowsOf : GoodIn wsX1_fillBin wsX2_removeRowsOf := goodIn_r _ [39, 8, 40, 10, 11, 6, 12, 13, 14, 41, 33, 34, 35, 58, 59, 60, 61] (by decide +kernel) (by decide +kernel)
set_option maxRecDepth 20000 in
theorem gX1_fillBin_X2_removeRowsOf : GoodIn wsX1_fillBin (wsV RX1 130 RX2 yX2_removeRowsOf wsX2_removeRowsOf) := goodIn_app (goodIn_of _ (by decide +kernel)) ggX1_fillBin_X2_removeRowsOf
theorem dX1_fillBin_0 : decode cX1_fillBin 0 = .ok (.iconst 0, 1) := by decide +kernel
theorem dX1_fillBin_1 : decode cX1_fillBin 1 = .ok (.istore_n 1, 1) := by decide +kernel
theorem dX1_fillBin_2 : decode cX1_fillBin 2 = .ok (.iload_n 1, 1) := by decide +kernel
theorem dX1_fillBin_3 : decode cX1_fillBin 3 = .ok (.aload_n 0, 1) := by decide +kernel
theorem dX1_fillBin_4 : decode cX1_fillBin 4 = .ok (.getfield 36, 3) := by decide +kernel
theorem dX1_fillBin_7 : decode cX1_fillBin 7 = .ok (.invokevirtual 91, 3) := by decide +kernel
theorem dX1_fillBin_10 : decode cX1_fillBin 10 = .ok (.if_icmp .ge 29, 3) := by decide +kernel
theorem dX1_fillBin_13 : decode cX1_fillBin 13 = .ok (.aload_n 0, 1) := by decide +kernel
theorem dX1_fillBin_14 : decode cX1_fillBin 14 = .ok (.getfield 36, 3) := by decide +kernel
theorem dX1_fillBin_17 : decode cX1_fillBin 17 = .ok (.iload_n 1, 1) := by decide +kernel
theorem dX1_fillBin_18 : decode cX1_fillBin 18 = .ok (.iconst 0, 1) := by decide +kernel
theorem dX1_fillBin_19 : decode cX1_fillBin 19 = .ok (.invokevirtual 124, 3) := by decide +kernel
theorem dX1_fillBin_22 : decode cX1_fillBin 22 = .ok (.aload_n 0, 1) := by decide +kernel
theorem dX1_fillBin_23 : decode cX1_fillBin 23 = .ok (.getfield 42, 3) := by decide +kernel
theorem dX1_fillBin_26 : decode cX1_fillBin 26 = .ok (.if_icmp .ne 7, 3) := by decide +kernel
theorem dX1_fillBin_29 : decode cX1_fillBin 29 = .ok (.aload_n 0, 1) := by decide +kernel
theorem dX1_fillBin_30 : decode cX1_fillBin 30 = .ok (.invokevirtual 136, 3) := by decide +kernel
theorem dX1_fillBin_33 : decode cX1_fillBin 33 = .ok (.iinc 1 1, 3) := by decide +kernel
theorem dX1_fillBin_36 : decode cX1_fillBin 36 = .ok (.goto (-34), 3) := by decide +kernel
theorem dX1_fillBin_39 : decode cX1_fillBin 39 = .ok (.aload_n 0, 1) := by decide +kernel
theorem dX1_fillBin_40 : decode cX1_fillBin 40 = .ok (.getfield 36, 3) := by decide +kernel
theorem dX1_fillBin_43 : decode cX1_fillBin 43 = .ok (.aload_n 0, 1) := by decide +kernel
theorem dX1_fillBin_44 : decode cX1_fillBin 44 = .ok (.getfield 42, 3) := by decide +kernel
theorem dX1_fillBin_47 : decode cX1_fillBin 47 = .ok (.invokevirtual 130, 3) := by decide +kernel
theorem dX1_fillBin_50 : decode cX1_fillBin 50 = .ok (.return_, 1) := by decide +kernel
set_option maxRecDepth 20000 in
theorem ggX1_confirmOldest_X2_count : GoodIn wsX1_confirmOldest wsX2_count := goodIn_r _ [6, 7, 42, 43, 44, 45] (by decide +kernel) (by decide +kernel)
set_option maxRecDepth 20000 in
theorem gX1_confirmOldest_X2_count : GoodIn wsX1_confirmOldest (wsV RX1 91 RX2 yX2_count wsX2_count) := goodIn_app (goodIn_of _ (by decide +kernel)) ggX1_confirmOldest_X2_count
set_option maxRecDepth 20000 in
theorem ggX1_confirmOldest_X1_raise : GoodIn wsX1_confirmOldest wsX1_raise := goodIn_r _ [12, 13, 14, 15, 16, 17, 11, 18, 19, 26, 27, 28, 29, 30, 31, 32, 33, 34, 35, 36, 37, 38, 39, 40, 41] (by decide +kernel) (by decide +kernel)
set_option maxRecDepth 20000 in
theorem gX1_confirmOldest_X1_raise : GoodIn wsX1_confirmOldest (wsV RX1 139 RX1 yX1_raise wsX1_raise) := goodIn_app (goodIn_of _ (by decide +kernel)) ggX1_confirmOldest_X1_raise
set_option maxRecDepth 20000 in
theorem ggX1_confirmOldest_X2_removeRow : GoodIn wsX1_confirmOldest wsX2_removeRow := goodIn_r _ [23, 7, 24, 25, 42, 43, 44, 45] (by decide +kernel) (by decide +kernel)
set_option maxRecDepth 20000 in
theorem gX1_confirmOldest_X2_removeRow : GoodIn wsX1_confirmOldest (wsV RX1 142 RX2 yX2_removeRow wsX2_removeRow) := goodIn_app (goodIn_of _ (by decide +kernel)) ggX1_confirmOldest_X2_removeRow
set_option maxRecDepth 20000 in
theorem ggX1_confirmOldest_X1_count : GoodIn wsX1_confirmOldest wsX1_count := goodIn_r _ [18, 19, 26, 27, 28, 29, 30, 31, 32, 33, 34, 35, 36, 37, 38, 39, 40, 41] (by decide +kernel) (by decide +kernel)
set_option maxRecDepth 20000 in
theorem gX1_confirmOldest_X1_count : GoodIn wsX1_confirmOldest (wsV RX1 102 RX1 yX1_count wsX1_count) := goodIn_app (goodIn_of _ (by decide +kernel)) ggX1_confirmOldest_X1_count
theorem dX1_confirmOldest_0 : decode cX1_confirmOldest 0 = .ok (.aload_n 0, 1) := by decide +kernel
theorem dX1_confirmOldest_1 : decode cX1_confirmOldest 1 = .ok (.getfield 39, 3) := by decide +kernel
theorem dX1_confirmOldest_4 : decode cX1_confirmOldest 4 = .ok (.invokevirtual 91, 3) := by decide +kernel
theorem dX1_confirmOldest_7 : decode cX1_confirmOldest 7 = .ok (.ifCond .ne 9, 3) := by decide +kernel
theorem dX1_confirmOldest_10 : decode cX1_confirmOldest 10 = .ok (.aload_n 0, 1) := by decide +kernel
theorem dX1_confirmOldest_11 : decode cX1_confirmOldest 11 = .ok (.iconst 3, 1) := by decide +kernel
theorem dX1_confirmOldest_12 : decode cX1_confirmOldest 12 = .ok (.invokevirtual 139, 3) := by decide +kernel
theorem dX1_confirmOldest_15 : decode cX1_confirmOldest 15 = .ok (.return_, 1) := by decide +kernel
theorem dX1_confirmOldest_16 : decode cX1_confirmOldest 16 = .ok (.aload_n 0, 1) := by decide +kernel
theorem dX1_confirmOldest_17 : decode cX1_confirmOldest 17 = .ok (.getfield 39, 3) := by decide +kernel
theorem dX1_confirmOldest_20 : decode cX1_confirmOldest 20 = .ok (.iconst 0, 1) := by decide +kernel
theorem dX1_confirmOldest_21 : decode cX1_confirmOldest 21 = .ok (.invokevirtual 142, 3) := by decide +kernel
theorem dX1_confirmOldest_24 : decode cX1_confirmOldest 24 = .ok (.aload_n 0, 1) := by decide +kernel
theorem dX1_confirmOldest_25 : decode cX1_confirmOldest 25 = .ok (.bipush 6, 2) := by decide +kernel
theorem dX1_confirmOldest_27 : decode cX1_confirmOldest 27 = .ok (.invokevirtual 102, 3) := by decide +kernel
theorem dX1_confirmOldest_30 : decode cX1_confirmOldest 30 = .ok (.return_, 1) := by decide +kernel
set_option maxRecDepth 20000 in
theorem ggX1_closeOverdueExpectations_X2_count : GoodIn wsX1_closeOverdueExpectations wsX2_count := goodIn_r _ [7, 8, 47, 48, 49, 50] (by decide +kernel) (by decide +kernel)
set_option maxRecDepth 20000 in
theorem gX1_closeOverdueExpectations_X2_count : GoodIn wsX1_closeOverdueExpectations (wsV RX1 91 RX2 yX2_count wsX2_count) := goodIn_app (goodIn_of _ (by decide +kernel)) ggX1_closeOverdueExpectations_X2_count
set_option maxRecDepth 20000 in
theorem ggX1_closeOverdueExpectations_X2_get : GoodIn wsX1_closeOverdueExpectations wsX2_get := goodIn_r _ [12, 13, 14, 47, 48, 49, 50] (by decide +kernel) (by decide +kernel)
set_option maxRecDepth 20000 in
theorem gX1_closeOverdueExpectations_X2_get : GoodIn wsX1_closeOverdueExpectations (wsV RX1 124 RX2 yX2_get wsX2_get) := goodIn_app (goodIn_of _ (by decide +kernel)) ggX1_closeOverdueExpectations_X2_get
set_option maxRecDepth 20000 in
theorem ggX1_closeOverdueExpectations_X2_removeRow : GoodIn wsX1_closeOverdueExpectations wsX2_removeRow := goodIn_r _ [18, 8, 13, 14, 47, 48, 49, 50] (by decide +kernel) (by decide +kernel)
set_option maxRecDepth 20000 in
theorem gX1_closeOverdueExpectations_X2_removeRow : GoodIn wsX1_closeOverdueExpectations (wsV RX1 142 RX2 yX2_removeRow wsX2_removeRow) := goodIn_app (goodIn_of _ (by decide +kernel)) ggX1_closeOverdueExpectations_X2_removeRow
set_option maxRecDepth 20000 in
theorem ggX1_closeOverdueExpectations_X1_raise : GoodIn wsX1_closeOverdueExpectations wsX1_raise := goodIn_r _ [23, 24, 25, 26, 27, 28, 22, 29, 30, 31, 32, 33, 34, 35, 36, 37, 38, 39, 40, 41, 42, 43, 44, 45, 46] (by decide +kernel) (by decide +kernel)
set_option maxRecDepth 20000 in
theorem gX1_closeOverdueExpectations_X1_raise : GoodIn wsX1_closeOverdueExpectations (wsV RX1 139 RX1 yX1_raise wsX1_raise) := goodIn_app (goodIn_of _ (by decide +kernel)) ggX1_closeOverdueExpectations_X1_raise
theorem dX1_closeOverdueExpectations_0 : decode cX1_closeOverdueExpectations 0 = .ok (.aload_n 0, 1) := by decide +kernel
theorem dX1_closeOverdueExpectations_1 : decode cX1_closeOverdueExpectations 1 = .ok (.getfield 39, 3) := by decide +kernel
theorem dX1_closeOverdueExpectations_4 : decode cX1_closeOverdueExpectations 4 = .ok (.invokevirtual 91, 3) := by decide +kernel
theorem dX1_closeOverdueExpectations_7 : decode cX1_closeOverdueExpectations 7 = .ok (.iconst 1, 1) := by decide +kernel
theorem dX1_closeOverdueExpectations_8 : decode cX1_closeOverdueExpectations 8 = .ok (.isub, 1) := by decide +kernel
theorem dX1_closeOverdueExpectations_9 : decode cX1_closeOverdueExpectations 9 = .ok (.istore_n 1, 1) := by decide +kernel
theorem dX1_closeOverdueExpectations_10 : decode cX1_closeOverdueExpectations 10 = .ok (.iload_n 1, 1) := by decide +kernel
theorem dX1_closeOverdueExpectations_11 : decode cX1_closeOverdueExpectations 11 = .ok (.ifCond .lt 38, 3) := by decide +kernel
theorem dX1_closeOverdueExpectations_14 : decode cX1_closeOverdueExpectations 14 = .ok (.aload_n 0, 1) := by decide +kernel
theorem dX1_closeOverdueExpectations_15 : decode cX1_closeOverdueExpectations 15 = .ok (.getfield 39, 3) := by decide +kernel
theorem dX1_closeOverdueExpectations_18 : decode cX1_closeOverdueExpectations 18 = .ok (.iload_n 1, 1) := by decide +kernel
theorem dX1_closeOverdueExpectations_19 : decode cX1_closeOverdueExpectations 19 = .ok (.iconst 0, 1) := by decide +kernel
theorem dX1_closeOverdueExpectations_20 : decode cX1_closeOverdueExpectations 20 = .ok (.invokevirtual 124, 3) := by decide +kernel
theorem dX1_closeOverdueExpectations_23 : decode cX1_closeOverdueExpectations 23 = .ok (.aload_n 0, 1) := by decide +kernel
theorem dX1_closeOverdueExpectations_24 : decode cX1_closeOverdueExpectations 24 = .ok (.getfield 42, 3) := by decide +kernel
theorem dX1_closeOverdueExpectations_27 : decode cX1_closeOverdueExpectations 27 = .ok (.if_icmp .ge 16, 3) := by decide +kernel
theorem dX1_closeOverdueExpectations_30 : decode cX1_closeOverdueExpectations 30 = .ok (.aload_n 0, 1) := by decide +kernel
theorem dX1_closeOverdueExpectations_31 : decode cX1_closeOverdueExpectations 31 = .ok (.getfield 39, 3) := by decide +kernel
theorem dX1_closeOverdueExpectations_34 : decode cX1_closeOverdueExpectations 34 = .ok (.iload_n 1, 1) := by decide +kernel
theorem dX1_closeOverdueExpectations_35 : decode cX1_closeOverdueExpectations 35 = .ok (.invokevirtual 142, 3) := by decide +kernel
theorem dX1_closeOverdueExpectations_38 : decode cX1_closeOverdueExpectations 38 = .ok (.aload_n 0, 1) := by decide +kernel
theorem dX1_closeOverdueExpectations_39 : decode cX1_closeOverdueExpectations 39 = .ok (.iconst 2, 1) := by decide +kernel
theorem dX1_closeOverdueExpectations_40 : decode cX1_closeOverdueExpectations 40 = .ok (.invokevirtual 139, 3) := by decide +kernel
theorem dX1_closeOverdueExpectations_43 : decode cX1_closeOverdueExpectations 43 = .ok (.iinc 1 (-1), 3) := by decide +kernel
theorem dX1_closeOverdueExpectations_46 : decode cX1_closeOverdueExpectations 46 = .ok (.goto (-36), 3) := by decide +kernel
theorem dX1_closeOverdueExpectations_49 : decode cX1_closeOverdueExpectations 49 = .ok (.return_, 1) := by decide +kernel
set_option maxRecDepth 20000 in
theorem ggX1_pulse_X2_increase : GoodIn wsX1_pulse wsX2_increase := goodIn_r _ [7, 8, 9, 10, 11, 6, 12, 13, 14, 15, 16, 17, 18, 137, 138, 139, 140] (by decide +kernel) (by decide +kernel)
set_option maxRecDepth 20000 in
theorem gX1_pulse_X2_increase : GoodIn wsX1_pulse (wsV RX1 145 RX2 yX2_increase wsX2_increase) := goodIn_app (goodIn_of _ (by decide +kernel)) ggX1_pulse_X2_increase
set_option maxRecDepth 20000 in
theorem ggX1_pulse_X2_count : GoodIn wsX1_pulse wsX2_count := goodIn_r _ [22, 8, 137, 138, 139, 140] (by decide +kernel) (by decide +kernel)
set_option maxRecDepth 20000 in
theorem gX1_pulse_X2_count : GoodIn wsX1_pulse (wsV RX1 91 RX2 yX2_count wsX2_count) := goodIn_app (goodIn_of _ (by decide +kernel)) ggX1_pulse_X2_count
set_option maxRecDepth 20000 in
theorem ggX1_pulse_X1_staysInRegister : GoodIn wsX1_pulse wsX1_staysInRegister := goodIn_r _ [27, 2, 28, 10, 11, 6, 12, 13, 14, 29, 30, 31, 26, 32, 33, 34, 35, 36, 37, 38, 1, 39, 40, 41, 42, 43, 44, 16, 17, 18, 45, 46, 47, 48, 49, 50, 51, 52, 53, 54, 55, 56, 19, 20, 21, 22, 8, 57, 58, 59, 60, 61, 62, 63, 64, 65, 66, 67, 68, 69, 70, 71, 72, 15, 73, 74, 75, 76, 77, 78, 79, 80, 81, 82, 83, 84, 85, 86, 87, 88, 89, 90, 91, 92, 93, 94, 95, 96, 97, 98, 99, 100, 101, 102, 103, 104, 105, 106, 107, 108, 109, 110, 111, 112, 121, 122, 123, 124, 125, 126, 127, 128, 129, 130, 131, 132, 133, 134, 135, 136, 137, 138, 139, 140] (by decide +kernel) (by decide +kernel)
set_option maxRecDepth 20000 in
theorem gX1_pulse_X1_staysInRegister : GoodIn wsX1_pulse (wsV RX1 148 RX1 yX1_staysInRegister wsX1_staysInRegister) := goodIn_app (goodIn_of _ (by decide +kernel)) ggX1_pulse_X1_staysInRegister
set_option maxRecDepth 20000 in
theorem ggX1_pulse_X2_get : GoodIn wsX1_pulse wsX2_get := goodIn_r _ [12, 13, 14, 137, 138, 139, 140] (by decide +kernel) (by decide +kernel)
set_option maxRecDepth 20000 in
theorem gX1_pulse_X2_get : GoodIn wsX1_pulse (wsV RX1 124 RX2 yX2_get wsX2_get) := goodIn_app (goodIn_of _ (by decide +kernel)) ggX1_pulse_X2_get
set_option maxRecDepth 20000 in
theorem ggX1_pulse_X1_place : GoodIn wsX1_pulse wsX1_place := goodIn_r _ [32, 33, 121, 122, 123, 124, 125, 126, 127, 128, 129, 130, 131, 132, 133, 134, 135, 136] (by decide +kernel) (by decide +kernel)
set_option maxRecDepth 20000 in
theorem gX1_pulse_X1_place : GoodIn wsX1_pulse (wsV RX1 88 RX1 yX1_place wsX1_place) := goodIn_app (goodIn_of _ (by decide +kernel)) ggX1_pulse_X1_place
set_option maxRecDepth 20000 in
theorem ggX1_pulse_X1_leaveBelt : GoodIn wsX1_pulse wsX1_leaveBelt := goodIn_r _ [116, 1, 2, 99, 100, 101, 6, 102, 8, 13, 14, 57, 58, 59, 26, 60, 61, 117, 118, 119, 120, 53, 54, 55, 56, 29, 30, 31, 32, 33, 39, 40, 41, 42, 43, 19, 20, 21, 22, 28, 10, 11, 12, 103, 104, 105, 106, 107, 108, 44, 16, 17, 18, 121, 122, 123, 124, 125, 126, 127, 128, 129, 130, 131, 132, 133, 134, 135, 136, 137, 138, 139, 140] (by decide +kernel) (by decide +kernel)
set_option maxRecDepth 20000 in
theorem gX1_pulse_X1_leaveBelt : GoodIn wsX1_pulse (wsV RX1 152 RX1 yX1_leaveBelt wsX1_leaveBelt) := goodIn_app (goodIn_of _ (by decide +kernel)) ggX1_pulse_X1_leaveBelt
theorem dX1_pulse_0 : decode cX1_pulse 0 = .ok (.aload_n 0, 1) := by decide +kernel
theorem dX1_pulse_1 : decode cX1_pulse 1 = .ok (.getfield 26, 3) := by decide +kernel
theorem dX1_pulse_4 : decode cX1_pulse 4 = .ok (.iconst 1, 1) := by decide +kernel
theorem dX1_pulse_5 : decode cX1_pulse 5 = .ok (.invokevirtual 145, 3) := by decide +kernel
theorem dX1_pulse_8 : decode cX1_pulse 8 = .ok (.aload_n 0, 1) := by decide +kernel
theorem dX1_pulse_9 : decode cX1_pulse 9 = .ok (.getfield 30, 3) := by decide +kernel
theorem dX1_pulse_12 : decode cX1_pulse 12 = .ok (.iconst 1, 1) := by decide +kernel
theorem dX1_pulse_13 : decode cX1_pulse 13 = .ok (.invokevirtual 145, 3) := by decide +kernel
theorem dX1_pulse_16 : decode cX1_pulse 16 = .ok (.iconst 0, 1) := by decide +kernel
theorem dX1_pulse_17 : decode cX1_pulse 17 = .ok (.istore_n 1, 1) := by decide +kernel
theorem dX1_pulse_18 : decode cX1_pulse 18 = .ok (.aload_n 0, 1) := by decide +kernel
theorem dX1_pulse_19 : decode cX1_pulse 19 = .ok (.getfield 30, 3) := by decide +kernel
theorem dX1_pulse_22 : decode cX1_pulse 22 = .ok (.invokevirtual 91, 3) := by decide +kernel
theorem dX1_pulse_25 : decode cX1_pulse 25 = .ok (.istore_n 2, 1) := by decide +kernel
theorem dX1_pulse_26 : decode cX1_pulse 26 = .ok (.iload_n 2, 1) := by decide +kernel
theorem dX1_pulse_27 : decode cX1_pulse 27 = .ok (.ifCond .le 20, 3) := by decide +kernel
theorem dX1_pulse_30 : decode cX1_pulse 30 = .ok (.aload_n 0, 1) := by decide +kernel
theorem dX1_pulse_31 : decode cX1_pulse 31 = .ok (.iload_n 1, 1) := by decide +kernel
theorem dX1_pulse_32 : decode cX1_pulse 32 = .ok (.invokevirtual 148, 3) := by decide +kernel
theorem dX1_pulse_35 : decode cX1_pulse 35 = .ok (.ifCond .eq 6, 3) := by decide +kernel
theorem dX1_pulse_38 : decode cX1_pulse 38 = .ok (.iinc 1 1, 3) := by decide +kernel
theorem dX1_pulse_41 : decode cX1_pulse 41 = .ok (.iinc 2 (-1), 3) := by decide +kernel
theorem dX1_pulse_44 : decode cX1_pulse 44 = .ok (.goto (-18), 3) := by decide +kernel
theorem dX1_pulse_47 : decode cX1_pulse 47 = .ok (.iconst 0, 1) := by decide +kernel
theorem dX1_pulse_48 : decode cX1_pulse 48 = .ok (.istore_n 2, 1) := by decide +kernel
theorem dX1_pulse_49 : decode cX1_pulse 49 = .ok (.aload_n 0, 1) := by decide +kernel
theorem dX1_pulse_50 : decode cX1_pulse 50 = .ok (.getfield 26, 3) := by decide +kernel
theorem dX1_pulse_53 : decode cX1_pulse 53 = .ok (.invokevirtual 91, 3) := by decide +kernel
theorem dX1_pulse_56 : decode cX1_pulse 56 = .ok (.istore_n 3, 1) := by decide +kernel
theorem dX1_pulse_57 : decode cX1_pulse 57 = .ok (.iload_n 3, 1) := by decide +kernel
theorem dX1_pulse_58 : decode cX1_pulse 58 = .ok (.ifCond .le 37, 3) := by decide +kernel
theorem dX1_pulse_61 : decode cX1_pulse 61 = .ok (.aload_n 0, 1) := by decide +kernel
theorem dX1_pulse_62 : decode cX1_pulse 62 = .ok (.getfield 26, 3) := by decide +kernel
theorem dX1_pulse_65 : decode cX1_pulse 65 = .ok (.iload_n 2, 1) := by decide +kernel
theorem dX1_pulse_66 : decode cX1_pulse 66 = .ok (.iconst 1, 1) := by decide +kernel
theorem dX1_pulse_67 : decode cX1_pulse 67 = .ok (.invokevirtual 124, 3) := by decide +kernel
theorem dX1_pulse_70 : decode cX1_pulse 70 = .ok (.aload_n 0, 1) := by decide +kernel
theorem dX1_pulse_71 : decode cX1_pulse 71 = .ok (.iconst 4, 1) := by decide +kernel
theorem dX1_pulse_72 : decode cX1_pulse 72 = .ok (.invokevirtual 88, 3) := by decide +kernel
theorem dX1_pulse_75 : decode cX1_pulse 75 = .ok (.if_icmp .ne 11, 3) := by decide +kernel
theorem dX1_pulse_78 : decode cX1_pulse 78 = .ok (.aload_n 0, 1) := by decide +kernel
theorem dX1_pulse_79 : decode cX1_pulse 79 = .ok (.iload_n 2, 1) := by decide +kernel
theorem dX1_pulse_80 : decode cX1_pulse 80 = .ok (.invokevirtual 152, 3) := by decide +kernel
theorem dX1_pulse_83 : decode cX1_pulse 83 = .ok (.goto 6, 3) := by decide +kernel
theorem dX1_pulse_86 : decode cX1_pulse 86 = .ok (.iinc 2 1, 3) := by decide +kernel
theorem dX1_pulse_89 : decode cX1_pulse 89 = .ok (.iinc 3 (-1), 3) := by decide +kernel
theorem dX1_pulse_92 : decode cX1_pulse 92 = .ok (.goto (-35), 3) := by decide +kernel
theorem dX1_pulse_95 : decode cX1_pulse 95 = .ok (.return_, 1) := by decide +kernel
set_option maxRecDepth 20000 in
theorem ggX1_staysInRegister_X2_get : GoodIn wsX1_staysInRegister wsX2_get := goodIn_r _ [6, 7, 8, 120, 121, 122, 123] (by decide +kernel) (by decide +kernel)
set_option maxRecDepth 20000 in
theorem gX1_staysInRegister_X2_get : GoodIn wsX1_staysInRegister (wsV RX1 124 RX2 yX2_get wsX2_get) := goodIn_app (goodIn_of _ (by decide +kernel)) ggX1_staysInRegister_X2_get
set_option maxRecDepth 20000 in
theorem ggX1_staysInRegister_X1_place : GoodIn wsX1_staysInRegister wsX1_place := goodIn_r _ [13, 14, 104, 105, 106, 107, 108, 109, 110, 111, 112, 113, 114, 115, 116, 117, 118, 119] (by decide +kernel) (by decide +kernel)
set_option maxRecDepth 20000 in
theorem gX1_staysInRegister_X1_place : GoodIn wsX1_staysInRegister (wsV RX1 88 RX1 yX1_place wsX1_place) := goodIn_app (goodIn_of _ (by decide +kernel)) ggX1_staysInRegister_X1_place
set_option maxRecDepth 20000 in
theorem ggX1_staysInRegister_X1_labelerActs : GoodIn wsX1_staysInRegister wsX1_labelerActs := goodIn_r _ [18, 19, 1, 20, 21, 22, 23, 12, 24, 25, 26, 27, 28, 5, 29, 7, 8, 30, 31, 32, 33, 34, 35, 36, 37, 38, 39, 40, 41, 9, 10, 11, 13, 14, 42, 43, 44, 45, 46, 2, 3, 4, 6, 47, 48, 49, 50, 51, 104, 105, 106, 107, 108, 109, 110, 111, 112, 113, 114, 115, 116, 117, 118, 119, 120, 121, 122, 123] (by decide +kernel) (by decide +kernel)
set_option maxRecDepth 20000 in
theorem gX1_staysInRegister_X1_labelerActs : GoodIn wsX1_staysInRegister (wsV RX1 155 RX1 yX1_labelerActs wsX1_labelerActs) := goodIn_app (goodIn_of _ (by decide +kernel)) ggX1_staysInRegister_X1_labelerActs
set_option maxRecDepth 20000 in
theorem ggX1_staysInRegister_X1_cameraActs : GoodIn wsX1_staysInRegister wsX1_cameraActs := goodIn_r _ [55, 56, 57, 1, 21, 22, 23, 12, 24, 25, 58, 59, 60, 5, 61, 46, 62, 7, 63, 27, 28, 29, 8, 2, 3, 4, 6, 26, 34, 35, 36, 37, 20, 38, 39, 40, 41, 9, 10, 11, 13, 14, 42, 43, 44, 45, 64, 65, 66, 67, 104, 105, 106, 107, 108, 109, 110, 111, 112, 113, 114, 115, 116, 117, 118, 119, 120, 121, 122, 123] (by decide +kernel) (by decide +kernel)
set_option maxRecDepth 20000 in
theorem gX1_staysInRegister_X1_cameraActs : GoodIn wsX1_staysInRegister (wsV RX1 158 RX1 yX1_cameraActs wsX1_cameraActs) := goodIn_app (goodIn_of _ (by decide +kernel)) ggX1_staysInRegister_X1_cameraActs
set_option maxRecDepth 20000 in
theorem ggX1_staysInRegister_X1_mayPass : GoodIn wsX1_staysInRegister wsX1_mayPass := goodIn_r _ [71, 1, 2, 3, 4, 5, 6, 7, 8, 104, 105, 106, 107, 108, 109, 110, 111, 112, 113, 114, 115, 116, 117, 118, 119, 120, 121, 122, 123] (by decide +kernel) (by decide +kernel)
set_option maxRecDepth 20000 in
theorem gX1_staysInRegister_X1_mayPass : GoodIn wsX1_staysInRegister (wsV RX1 162 RX1 yX1_mayPass wsX1_mayPass) := goodIn_app (goodIn_of _ (by decide +kernel)) ggX1_staysInRegister_X1_mayPass
set_option maxRecDepth 20000 in
theorem ggX1_staysInRegister_X1_reject : GoodIn wsX1_staysInRegister wsX1_reject := goodIn_r _ [75, 20, 76, 57, 77, 78, 79, 80, 81, 82, 12, 83, 1, 2, 3, 4, 5, 6, 7, 8, 47, 48, 49, 50, 51, 84, 85, 86, 87, 88, 89, 90, 91, 92, 93, 46, 34, 35, 36, 37, 38, 39, 40, 41, 9, 10, 11, 13, 14, 21, 22, 23, 24, 25, 42, 43, 44, 45, 58, 59, 60, 61, 62, 63, 27, 28, 29, 94, 95, 96, 97, 98, 99, 104, 105, 106, 107, 108, 109, 110, 111, 112, 113, 114, 115, 116, 117, 118, 119, 120, 121, 122, 123] (by decide +kernel) (by decide +kernel)
set_option maxRecDepth 20000 in
theorem gX1_staysInRegister_X1_reject : GoodIn wsX1_staysInRegister (wsV RX1 165 RX1 yX1_reject wsX1_reject) := goodIn_app (goodIn_of _ (by decide +kernel)) ggX1_staysInRegister_X1_reject
set_option maxRecDepth 20000 in
theorem ggX1_staysInRegister_X1_pass : GoodIn wsX1_staysInRegister wsX1_pass := goodIn_r _ [103, 1, 79, 26, 27, 28, 5, 29, 7, 8, 104, 105, 106, 107, 108, 109, 110, 111, 112, 113, 114, 115, 116, 117, 118, 119, 120, 121, 122, 123] (by decide +kernel) (by decide +kernel)
set_option maxRecDepth 20000 in
theorem gX1_staysInRegister_X1_pass : GoodIn wsX1_staysInRegister (wsV RX1 168 RX1 yX1_pass wsX1_pass) := goodIn_app (goodIn_of _ (by decide +kernel)) ggX1_staysInRegister_X1_pass
set_option maxRecDepth 20000 in
theorem ggX1_staysInRegister_X1_setting : GoodIn wsX1_staysInRegister wsX1_setting := goodIn_r _ [24, 25, 104, 105, 106, 107, 108, 109, 110, 111, 112, 113, 114, 115, 116, 117, 118, 119] (by decide +kernel) (by decide +kernel)
set_option maxRecDepth 20000 in
theorem gX1_staysInRegister_X1_setting : GoodIn wsX1_staysInRegister (wsV RX1 84 RX1 yX1_setting wsX1_setting) := goodIn_app (goodIn_of _ (by decide +kernel)) ggX1_staysInRegister_X1_setting
set_option maxRecDepth 20000 in
theorem ggX1_staysInRegister_X1_leaveRegister : GoodIn wsX1_staysInRegister wsX1_leaveRegister := goodIn_r _ [87, 1, 88, 89, 2, 3, 4, 5, 6, 7, 8, 47, 48, 49, 12, 50, 51, 90, 91, 92, 93, 46, 104, 105, 106, 107, 108, 109, 110, 111, 112, 113, 114, 115, 116, 117, 118, 119, 120, 121, 122, 123] (by decide +kernel) (by decide +kernel)
set_option maxRecDepth 20000 in
theorem gX1_staysInRegister_X1_leaveRegister : GoodIn wsX1_staysInRegister (wsV RX1 171 RX1 yX1_leaveRegister wsX1_leaveRegister) := goodIn_app (goodIn_of _ (by decide +kernel)) ggX1_staysInRegister_X1_leaveRegister
theorem dX1_staysInRegister_0 : decode cX1_staysInRegister 0 = .ok (.aload_n 0, 1) := by decide +kernel
theorem dX1_staysInRegister_1 : decode cX1_staysInRegister 1 = .ok (.getfield 30, 3) := by decide +kernel
theorem dX1_staysInRegister_4 : decode cX1_staysInRegister 4 = .ok (.iload_n 1, 1) := by decide +kernel
theorem dX1_staysInRegister_5 : decode cX1_staysInRegister 5 = .ok (.iconst 1, 1) := by decide +kernel
theorem dX1_staysInRegister_6 : decode cX1_staysInRegister 6 = .ok (.invokevirtual 124, 3) := by decide +kernel
theorem dX1_staysInRegister_9 : decode cX1_staysInRegister 9 = .ok (.istore_n 2, 1) := by decide +kernel
theorem dX1_staysInRegister_10 : decode cX1_staysInRegister 10 = .ok (.iload_n 2, 1) := by decide +kernel
theorem dX1_staysInRegister_11 : decode cX1_staysInRegister 11 = .ok (.aload_n 0, 1) := by decide +kernel
theorem dX1_staysInRegister_12 : decode cX1_staysInRegister 12 = .ok (.iconst 0, 1) := by decide +kernel
theorem dX1_staysInRegister_13 : decode cX1_staysInRegister 13 = .ok (.invokevirtual 88, 3) := by decide +kernel
theorem dX1_staysInRegister_16 : decode cX1_staysInRegister 16 = .ok (.if_icmp .ne 11, 3) := by decide +kernel
theorem dX1_staysInRegister_19 : decode cX1_staysInRegister 19 = .ok (.aload_n 0, 1) := by decide +kernel
theorem dX1_staysInRegister_20 : decode cX1_staysInRegister 20 = .ok (.iload_n 1, 1) := by decide +kernel
theorem dX1_staysInRegister_21 : decode cX1_staysInRegister 21 = .ok (.invokevirtual 155, 3) := by decide +kernel
theorem dX1_staysInRegister_24 : decode cX1_staysInRegister 24 = .ok (.goto 124, 3) := by decide +kernel
theorem dX1_staysInRegister_27 : decode cX1_staysInRegister 27 = .ok (.iload_n 2, 1) := by decide +kernel
theorem dX1_staysInRegister_28 : decode cX1_staysInRegister 28 = .ok (.aload_n 0, 1) := by decide +kernel
theorem dX1_staysInRegister_29 : decode cX1_staysInRegister 29 = .ok (.iconst 1, 1) := by decide +kernel
theorem dX1_staysInRegister_30 : decode cX1_staysInRegister 30 = .ok (.invokevirtual 88, 3) := by decide +kernel
theorem dX1_staysInRegister_33 : decode cX1_staysInRegister 33 = .ok (.if_icmp .ne 12, 3) := by decide +kernel
theorem dX1_staysInRegister_36 : decode cX1_staysInRegister 36 = .ok (.aload_n 0, 1) := by decide +kernel
theorem dX1_staysInRegister_37 : decode cX1_staysInRegister 37 = .ok (.iload_n 1, 1) := by decide +kernel
theorem dX1_staysInRegister_38 : decode cX1_staysInRegister 38 = .ok (.iconst 0, 1) := by decide +kernel
theorem dX1_staysInRegister_39 : decode cX1_staysInRegister 39 = .ok (.invokevirtual 158, 3) := by decide +kernel
theorem dX1_staysInRegister_42 : decode cX1_staysInRegister 42 = .ok (.goto 106, 3) := by decide +kernel
theorem dX1_staysInRegister_45 : decode cX1_staysInRegister 45 = .ok (.iload_n 2, 1) := by decide +kernel
theorem dX1_staysInRegister_46 : decode cX1_staysInRegister 46 = .ok (.aload_n 0, 1) := by decide +kernel
theorem dX1_staysInRegister_47 : decode cX1_staysInRegister 47 = .ok (.iconst 2, 1) := by decide +kernel
theorem dX1_staysInRegister_48 : decode cX1_staysInRegister 48 = .ok (.invokevirtual 88, 3) := by decide +kernel
theorem dX1_staysInRegister_51 : decode cX1_staysInRegister 51 = .ok (.if_icmp .ne 25, 3) := by decide +kernel
theorem dX1_staysInRegister_54 : decode cX1_staysInRegister 54 = .ok (.aload_n 0, 1) := by decide +kernel
theorem dX1_staysInRegister_55 : decode cX1_staysInRegister 55 = .ok (.getfield 30, 3) := by decide +kernel
theorem dX1_staysInRegister_58 : decode cX1_staysInRegister 58 = .ok (.iload_n 1, 1) := by decide +kernel
theorem dX1_staysInRegister_59 : decode cX1_staysInRegister 59 = .ok (.iconst 2, 1) := by decide +kernel
theorem dX1_staysInRegister_60 : decode cX1_staysInRegister 60 = .ok (.invokevirtual 124, 3) := by decide +kernel
theorem dX1_staysInRegister_63 : decode cX1_staysInRegister 63 = .ok (.iconst 3, 1) := by decide +kernel
theorem dX1_staysInRegister_64 : decode cX1_staysInRegister 64 = .ok (.if_icmp .ne 84, 3) := by decide +kernel
theorem dX1_staysInRegister_67 : decode cX1_staysInRegister 67 = .ok (.aload_n 0, 1) := by decide +kernel
theorem dX1_staysInRegister_68 : decode cX1_staysInRegister 68 = .ok (.iload_n 1, 1) := by decide +kernel
theorem dX1_staysInRegister_69 : decode cX1_staysInRegister 69 = .ok (.iconst 1, 1) := by decide +kernel
theorem dX1_staysInRegister_70 : decode cX1_staysInRegister 70 = .ok (.invokevirtual 158, 3) := by decide +kernel
theorem dX1_staysInRegister_73 : decode cX1_staysInRegister 73 = .ok (.goto 75, 3) := by decide +kernel
theorem dX1_staysInRegister_76 : decode cX1_staysInRegister 76 = .ok (.iload_n 2, 1) := by decide +kernel
theorem dX1_staysInRegister_77 : decode cX1_staysInRegister 77 = .ok (.aload_n 0, 1) := by decide +kernel
theorem dX1_staysInRegister_78 : decode cX1_staysInRegister 78 = .ok (.iconst 3, 1) := by decide +kernel
theorem dX1_staysInRegister_79 : decode cX1_staysInRegister 79 = .ok (.invokevirtual 88, 3) := by decide +kernel
theorem dX1_staysInRegister_82 : decode cX1_staysInRegister 82 = .ok (.if_icmp .ne 26, 3) := by decide +kernel
theorem dX1_staysInRegister_85 : decode cX1_staysInRegister 85 = .ok (.aload_n 0, 1) := by decide +kernel
theorem dX1_staysInRegister_86 : decode cX1_staysInRegister 86 = .ok (.iload_n 1, 1) := by decide +kernel
theorem dX1_staysInRegister_87 : decode cX1_staysInRegister 87 = .ok (.invokevirtual 162, 3) := by decide +kernel
theorem dX1_staysInRegister_90 : decode cX1_staysInRegister 90 = .ok (.ifCond .ne 10, 3) := by decide +kernel
theorem dX1_staysInRegister_93 : decode cX1_staysInRegister 93 = .ok (.aload_n 0, 1) := by decide +kernel
theorem dX1_staysInRegister_94 : decode cX1_staysInRegister 94 = .ok (.iload_n 1, 1) := by decide +kernel
theorem dX1_staysInRegister_95 : decode cX1_staysInRegister 95 = .ok (.invokevirtual 165, 3) := by decide +kernel
theorem dX1_staysInRegister_98 : decode cX1_staysInRegister 98 = .ok (.iconst 0, 1) := by decide +kernel
theorem dX1_staysInRegister_99 : decode cX1_staysInRegister 99 = .ok (.ireturn, 1) := by decide +kernel
theorem dX1_staysInRegister_100 : decode cX1_staysInRegister 100 = .ok (.aload_n 0, 1) := by decide +kernel
theorem dX1_staysInRegister_101 : decode cX1_staysInRegister 101 = .ok (.iload_n 1, 1) := by decide +kernel
theorem dX1_staysInRegister_102 : decode cX1_staysInRegister 102 = .ok (.invokevirtual 168, 3) := by decide +kernel
theorem dX1_staysInRegister_105 : decode cX1_staysInRegister 105 = .ok (.goto 43, 3) := by decide +kernel
theorem dX1_staysInRegister_108 : decode cX1_staysInRegister 108 = .ok (.iload_n 2, 1) := by decide +kernel
theorem dX1_staysInRegister_109 : decode cX1_staysInRegister 109 = .ok (.aload_n 0, 1) := by decide +kernel
theorem dX1_staysInRegister_110 : decode cX1_staysInRegister 110 = .ok (.iconst 4, 1) := by decide +kernel
theorem dX1_staysInRegister_111 : decode cX1_staysInRegister 111 = .ok (.invokevirtual 88, 3) := by decide +kernel
theorem dX1_staysInRegister_114 : decode cX1_staysInRegister 114 = .ok (.aload_n 0, 1) := by decide +kernel
theorem dX1_staysInRegister_115 : decode cX1_staysInRegister 115 = .ok (.iconst 5, 1) := by decide +kernel
theorem dX1_staysInRegister_116 : decode cX1_staysInRegister 116 = .ok (.invokevirtual 84, 3) := by decide +kernel
theorem dX1_staysInRegister_119 : decode cX1_staysInRegister 119 = .ok (.iadd, 1) := by decide +kernel
theorem dX1_staysInRegister_120 : decode cX1_staysInRegister 120 = .ok (.if_icmp .le 28, 3) := by decide +kernel
theorem dX1_staysInRegister_123 : decode cX1_staysInRegister 123 = .ok (.aload_n 0, 1) := by decide +kernel
theorem dX1_staysInRegister_124 : decode cX1_staysInRegister 124 = .ok (.iload_n 1, 1) := by decide +kernel
theorem dX1_staysInRegister_125 : decode cX1_staysInRegister 125 = .ok (.aload_n 0, 1) := by decide +kernel
theorem dX1_staysInRegister_126 : decode cX1_staysInRegister 126 = .ok (.getfield 30, 3) := by decide +kernel
theorem dX1_staysInRegister_129 : decode cX1_staysInRegister 129 = .ok (.iload_n 1, 1) := by decide +kernel
theorem dX1_staysInRegister_130 : decode cX1_staysInRegister 130 = .ok (.iconst 5, 1) := by decide +kernel
theorem dX1_staysInRegister_131 : decode cX1_staysInRegister 131 = .ok (.invokevirtual 124, 3) := by decide +kernel
theorem dX1_staysInRegister_134 : decode cX1_staysInRegister 134 = .ok (.iconst 1, 1) := by decide +kernel
theorem dX1_staysInRegister_135 : decode cX1_staysInRegister 135 = .ok (.if_icmp .ne 7, 3) := by decide +kernel
theorem dX1_staysInRegister_138 : decode cX1_staysInRegister 138 = .ok (.iconst 1, 1) := by decide +kernel
theorem dX1_staysInRegister_139 : decode cX1_staysInRegister 139 = .ok (.goto 4, 3) := by decide +kernel
theorem dX1_staysInRegister_142 : decode cX1_staysInRegister 142 = .ok (.iconst 3, 1) := by decide +kernel
theorem dX1_staysInRegister_143 : decode cX1_staysInRegister 143 = .ok (.invokevirtual 171, 3) := by decide +kernel
theorem dX1_staysInRegister_146 : decode cX1_staysInRegister 146 = .ok (.iconst 0, 1) := by decide +kernel
theorem dX1_staysInRegister_147 : decode cX1_staysInRegister 147 = .ok (.ireturn, 1) := by decide +kernel
theorem dX1_staysInRegister_148 : decode cX1_staysInRegister 148 = .ok (.iconst 1, 1) := by decide +kernel
end
section
theorem dX1_staysInRegister_149 : decode cX1_staysInRegister 149 = .ok (.ireturn, 1) := by decide +kernel
set_option maxRecDepth 20000 in
theorem ggX1_labelerActs_X1_setting : GoodIn wsX1_labelerActs wsX1_setting := goodIn_r _ [8, 9, 48, 49, 50, 51, 52, 53, 54, 55, 56, 57, 58, 59, 60, 61, 62, 63] (by decide +kernel) (by decide +kernel)
set_option maxRecDepth 20000 in
theorem gX1_labelerActs_X1_setting : GoodIn wsX1_labelerActs (wsV RX1 84 RX1 yX1_setting wsX1_setting) := goodIn_app (goodIn_of _ (by decide +kernel)) ggX1_labelerActs_X1_setting
set_option maxRecDepth 20000 in
theorem ggX1_labelerActs_X2_put : GoodIn wsX1_labelerActs wsX2_put := goodIn_r _ [14, 15, 16, 64, 65, 66, 67] (by decide +kernel) (by decide +kernel)
set_option maxRecDepth 20000 in
theorem gX1_labelerActs_X2_put : GoodIn wsX1_labelerActs (wsV RX1 108 RX2 yX2_put wsX2_put) := goodIn_app (goodIn_of _ (by decide +kernel)) ggX1_labelerActs_X2_put
set_option maxRecDepth 20000 in
theorem ggX1_labelerActs_X1_putSetting : GoodIn wsX1_labelerActs wsX1_putSetting := goodIn_r _ [20, 9, 48, 49, 50, 51, 52, 53, 54, 55, 56, 57, 58, 59, 60, 61, 62, 63] (by decide +kernel) (by decide +kernel)
set_option maxRecDepth 20000 in
theorem gX1_labelerActs_X1_putSetting : GoodIn wsX1_labelerActs (wsV RX1 174 RX1 yX1_putSetting wsX1_putSetting) := goodIn_app (goodIn_of _ (by decide +kernel)) ggX1_labelerActs_X1_putSetting
set_option maxRecDepth 20000 in
theorem ggX1_labelerActs_X1_itemAt : GoodIn wsX1_labelerActs wsX1_itemAt := goodIn_r _ [24, 3, 25, 26, 27, 28, 29, 30, 31, 7, 32, 33, 4, 5, 6, 8, 9, 34, 35, 36, 13, 37, 38, 39, 40, 41, 42, 15, 16, 48, 49, 50, 51, 52, 53, 54, 55, 56, 57, 58, 59, 60, 61, 62, 63, 64, 65, 66, 67] (by decide +kernel) (by decide +kernel)
set_option maxRecDepth 20000 in
theorem gX1_labelerActs_X1_itemAt : GoodIn wsX1_labelerActs (wsV RX1 177 RX1 yX1_itemAt wsX1_itemAt) := goodIn_app (goodIn_of _ (by decide +kernel)) ggX1_labelerActs_X1_itemAt
set_option maxRecDepth 20000 in
theorem ggX1_labelerActs_X1_count : GoodIn wsX1_labelerActs wsX1_count := goodIn_r _ [46, 47, 48, 49, 50, 51, 52, 53, 54, 55, 56, 57, 58, 59, 60, 61, 62, 63] (by decide +kernel) (by decide +kernel)
set_option maxRecDepth 20000 in
theorem gX1_labelerActs_X1_count : GoodIn wsX1_labelerActs (wsV RX1 102 RX1 yX1_count wsX1_count) := goodIn_app (goodIn_of _ (by decide +kernel)) ggX1_labelerActs_X1_count
theorem dX1_labelerActs_0 : decode cX1_labelerActs 0 = .ok (.aload_n 0, 1) := by decide +kernel
theorem dX1_labelerActs_1 : decode cX1_labelerActs 1 = .ok (.getfield 53, 3) := by decide +kernel
theorem dX1_labelerActs_4 : decode cX1_labelerActs 4 = .ok (.ifCond .ne 12, 3) := by decide +kernel
theorem dX1_labelerActs_7 : decode cX1_labelerActs 7 = .ok (.aload_n 0, 1) := by decide +kernel
theorem dX1_labelerActs_8 : decode cX1_labelerActs 8 = .ok (.bipush 6, 2) := by decide +kernel
theorem dX1_labelerActs_10 : decode cX1_labelerActs 10 = .ok (.invokevirtual 84, 3) := by decide +kernel
theorem dX1_labelerActs_13 : decode cX1_labelerActs 13 = .ok (.ifCond .ne 14, 3) := by decide +kernel
theorem dX1_labelerActs_16 : decode cX1_labelerActs 16 = .ok (.aload_n 0, 1) := by decide +kernel
theorem dX1_labelerActs_17 : decode cX1_labelerActs 17 = .ok (.getfield 30, 3) := by decide +kernel
theorem dX1_labelerActs_20 : decode cX1_labelerActs 20 = .ok (.iload_n 1, 1) := by decide +kernel
theorem dX1_labelerActs_21 : decode cX1_labelerActs 21 = .ok (.iconst 3, 1) := by decide +kernel
theorem dX1_labelerActs_22 : decode cX1_labelerActs 22 = .ok (.iconst 1, 1) := by decide +kernel
theorem dX1_labelerActs_23 : decode cX1_labelerActs 23 = .ok (.invokevirtual 108, 3) := by decide +kernel
theorem dX1_labelerActs_26 : decode cX1_labelerActs 26 = .ok (.return_, 1) := by decide +kernel
theorem dX1_labelerActs_27 : decode cX1_labelerActs 27 = .ok (.aload_n 0, 1) := by decide +kernel
theorem dX1_labelerActs_28 : decode cX1_labelerActs 28 = .ok (.bipush 6, 2) := by decide +kernel
theorem dX1_labelerActs_30 : decode cX1_labelerActs 30 = .ok (.aload_n 0, 1) := by decide +kernel
theorem dX1_labelerActs_31 : decode cX1_labelerActs 31 = .ok (.bipush 6, 2) := by decide +kernel
theorem dX1_labelerActs_33 : decode cX1_labelerActs 33 = .ok (.invokevirtual 84, 3) := by decide +kernel
theorem dX1_labelerActs_36 : decode cX1_labelerActs 36 = .ok (.iconst 1, 1) := by decide +kernel
theorem dX1_labelerActs_37 : decode cX1_labelerActs 37 = .ok (.isub, 1) := by decide +kernel
theorem dX1_labelerActs_38 : decode cX1_labelerActs 38 = .ok (.invokevirtual 174, 3) := by decide +kernel
theorem dX1_labelerActs_41 : decode cX1_labelerActs 41 = .ok (.aload_n 0, 1) := by decide +kernel
theorem dX1_labelerActs_42 : decode cX1_labelerActs 42 = .ok (.iconst 0, 1) := by decide +kernel
theorem dX1_labelerActs_43 : decode cX1_labelerActs 43 = .ok (.invokevirtual 177, 3) := by decide +kernel
theorem dX1_labelerActs_46 : decode cX1_labelerActs 46 = .ok (.istore_n 2, 1) := by decide +kernel
theorem dX1_labelerActs_47 : decode cX1_labelerActs 47 = .ok (.iload_n 2, 1) := by decide +kernel
theorem dX1_labelerActs_48 : decode cX1_labelerActs 48 = .ok (.iconst (-1), 1) := by decide +kernel
theorem dX1_labelerActs_49 : decode cX1_labelerActs 49 = .ok (.if_icmp .ne 11, 3) := by decide +kernel
theorem dX1_labelerActs_52 : decode cX1_labelerActs 52 = .ok (.aload_n 0, 1) := by decide +kernel
theorem dX1_labelerActs_53 : decode cX1_labelerActs 53 = .ok (.iconst 5, 1) := by decide +kernel
theorem dX1_labelerActs_54 : decode cX1_labelerActs 54 = .ok (.invokevirtual 102, 3) := by decide +kernel
theorem dX1_labelerActs_57 : decode cX1_labelerActs 57 = .ok (.goto 13, 3) := by decide +kernel
theorem dX1_labelerActs_60 : decode cX1_labelerActs 60 = .ok (.aload_n 0, 1) := by decide +kernel
theorem dX1_labelerActs_61 : decode cX1_labelerActs 61 = .ok (.getfield 26, 3) := by decide +kernel
theorem dX1_labelerActs_64 : decode cX1_labelerActs 64 = .ok (.iload_n 2, 1) := by decide +kernel
theorem dX1_labelerActs_65 : decode cX1_labelerActs 65 = .ok (.iconst 3, 1) := by decide +kernel
theorem dX1_labelerActs_66 : decode cX1_labelerActs 66 = .ok (.iconst 1, 1) := by decide +kernel
theorem dX1_labelerActs_67 : decode cX1_labelerActs 67 = .ok (.invokevirtual 108, 3) := by decide +kernel
theorem dX1_labelerActs_70 : decode cX1_labelerActs 70 = .ok (.return_, 1) := by decide +kernel
set_option maxRecDepth 20000 in
theorem ggX1_cameraActs_X1_setting : GoodIn wsX1_cameraActs wsX1_setting := goodIn_r _ [8, 9, 50, 51, 52, 53, 54, 55, 56, 57, 58, 59, 60, 61, 62, 63, 64, 65] (by decide +kernel) (by decide +kernel)
set_option maxRecDepth 20000 in
theorem gX1_cameraActs_X1_setting : GoodIn wsX1_cameraActs (wsV RX1 84 RX1 yX1_setting wsX1_setting) := goodIn_app (goodIn_of _ (by decide +kernel)) ggX1_cameraActs_X1_setting
set_option maxRecDepth 20000 in
theorem ggX1_cameraActs_X2_addRow : GoodIn wsX1_cameraActs wsX2_addRow := goodIn_r _ [14, 15, 16, 17, 18, 19, 20, 13, 21, 22, 66, 67, 68, 69] (by decide +kernel) (by decide +kernel)
set_option maxRecDepth 20000 in
theorem gX1_cameraActs_X2_addRow : GoodIn wsX1_cameraActs (wsV RX1 105 RX2 yX2_addRow wsX2_addRow) := goodIn_app (goodIn_of _ (by decide +kernel)) ggX1_cameraActs_X2_addRow
set_option maxRecDepth 20000 in
theorem ggX1_cameraActs_X2_get : GoodIn wsX1_cameraActs wsX2_get := goodIn_r _ [26, 17, 22, 66, 67, 68, 69] (by decide +kernel) (by decide +kernel)
set_option maxRecDepth 20000 in
theorem gX1_cameraActs_X2_get : GoodIn wsX1_cameraActs (wsV RX1 124 RX2 yX2_get wsX2_get) := goodIn_app (goodIn_of _ (by decide +kernel)) ggX1_cameraActs_X2_get
set_option maxRecDepth 20000 in
theorem ggX1_cameraActs_X2_put : GoodIn wsX1_cameraActs wsX2_put := goodIn_r _ [21, 17, 22, 66, 67, 68, 69] (by decide +kernel) (by decide +kernel)
set_option maxRecDepth 20000 in
theorem gX1_cameraActs_X2_put : GoodIn wsX1_cameraActs (wsV RX1 108 RX2 yX2_put wsX2_put) := goodIn_app (goodIn_of _ (by decide +kernel)) ggX1_cameraActs_X2_put
set_option maxRecDepth 20000 in
theorem ggX1_cameraActs_X1_itemAt : GoodIn wsX1_cameraActs wsX1_itemAt := goodIn_r _ [31, 32, 33, 34, 35, 36, 37, 38, 39, 7, 40, 41, 4, 5, 6, 8, 9, 42, 43, 44, 13, 45, 15, 23, 24, 25, 26, 17, 22, 50, 51, 52, 53, 54, 55, 56, 57, 58, 59, 60, 61, 62, 63, 64, 65, 66, 67, 68, 69] (by decide +kernel) (by decide +kernel)
set_option maxRecDepth 20000 in
theorem gX1_cameraActs_X1_itemAt : GoodIn wsX1_cameraActs (wsV RX1 177 RX1 yX1_itemAt wsX1_itemAt) := goodIn_app (goodIn_of _ (by decide +kernel)) ggX1_cameraActs_X1_itemAt
set_option maxRecDepth 20000 in
theorem ggX1_cameraActs_X1_seen : GoodIn wsX1_cameraActs wsX1_seen := goodIn_r _ [49, 32, 23, 24, 25, 13, 26, 17, 22, 50, 51, 52, 53, 54, 55, 56, 57, 58, 59, 60, 61, 62, 63, 64, 65, 66, 67, 68, 69] (by decide +kernel) (by decide +kernel)
set_option maxRecDepth 20000 in
theorem gX1_cameraActs_X1_seen : GoodIn wsX1_cameraActs (wsV RX1 180 RX1 yX1_seen wsX1_seen) := goodIn_app (goodIn_of _ (by decide +kernel)) ggX1_cameraActs_X1_seen
theorem dX1_cameraActs_0 : decode cX1_cameraActs 0 = .ok (.aload_n 0, 1) := by decide +kernel
theorem dX1_cameraActs_1 : decode cX1_cameraActs 1 = .ok (.getfield 33, 3) := by decide +kernel
theorem dX1_cameraActs_4 : decode cX1_cameraActs 4 = .ok (.aload_n 0, 1) := by decide +kernel
theorem dX1_cameraActs_5 : decode cX1_cameraActs 5 = .ok (.getfield 42, 3) := by decide +kernel
theorem dX1_cameraActs_8 : decode cX1_cameraActs 8 = .ok (.aload_n 0, 1) := by decide +kernel
theorem dX1_cameraActs_9 : decode cX1_cameraActs 9 = .ok (.iconst 1, 1) := by decide +kernel
theorem dX1_cameraActs_10 : decode cX1_cameraActs 10 = .ok (.invokevirtual 84, 3) := by decide +kernel
theorem dX1_cameraActs_13 : decode cX1_cameraActs 13 = .ok (.iadd, 1) := by decide +kernel
theorem dX1_cameraActs_14 : decode cX1_cameraActs 14 = .ok (.invokevirtual 105, 3) := by decide +kernel
theorem dX1_cameraActs_17 : decode cX1_cameraActs 17 = .ok (.istore_n 3, 1) := by decide +kernel
theorem dX1_cameraActs_18 : decode cX1_cameraActs 18 = .ok (.aload_n 0, 1) := by decide +kernel
theorem dX1_cameraActs_19 : decode cX1_cameraActs 19 = .ok (.getfield 33, 3) := by decide +kernel
theorem dX1_cameraActs_22 : decode cX1_cameraActs 22 = .ok (.iload_n 3, 1) := by decide +kernel
theorem dX1_cameraActs_23 : decode cX1_cameraActs 23 = .ok (.iconst 1, 1) := by decide +kernel
theorem dX1_cameraActs_24 : decode cX1_cameraActs 24 = .ok (.aload_n 0, 1) := by decide +kernel
theorem dX1_cameraActs_25 : decode cX1_cameraActs 25 = .ok (.getfield 30, 3) := by decide +kernel
theorem dX1_cameraActs_28 : decode cX1_cameraActs 28 = .ok (.iload_n 1, 1) := by decide +kernel
theorem dX1_cameraActs_29 : decode cX1_cameraActs 29 = .ok (.iconst 0, 1) := by decide +kernel
theorem dX1_cameraActs_30 : decode cX1_cameraActs 30 = .ok (.invokevirtual 124, 3) := by decide +kernel
theorem dX1_cameraActs_33 : decode cX1_cameraActs 33 = .ok (.invokevirtual 108, 3) := by decide +kernel
theorem dX1_cameraActs_36 : decode cX1_cameraActs 36 = .ok (.aload_n 0, 1) := by decide +kernel
theorem dX1_cameraActs_37 : decode cX1_cameraActs 37 = .ok (.getfield 33, 3) := by decide +kernel
theorem dX1_cameraActs_40 : decode cX1_cameraActs 40 = .ok (.iload_n 3, 1) := by decide +kernel
theorem dX1_cameraActs_41 : decode cX1_cameraActs 41 = .ok (.iconst 2, 1) := by decide +kernel
theorem dX1_cameraActs_42 : decode cX1_cameraActs 42 = .ok (.iload_n 2, 1) := by decide +kernel
theorem dX1_cameraActs_43 : decode cX1_cameraActs 43 = .ok (.ifCond .eq 7, 3) := by decide +kernel
theorem dX1_cameraActs_46 : decode cX1_cameraActs 46 = .ok (.iconst 1, 1) := by decide +kernel
theorem dX1_cameraActs_47 : decode cX1_cameraActs 47 = .ok (.goto 4, 3) := by decide +kernel
theorem dX1_cameraActs_50 : decode cX1_cameraActs 50 = .ok (.iconst 0, 1) := by decide +kernel
theorem dX1_cameraActs_51 : decode cX1_cameraActs 51 = .ok (.invokevirtual 108, 3) := by decide +kernel
theorem dX1_cameraActs_54 : decode cX1_cameraActs 54 = .ok (.aload_n 0, 1) := by decide +kernel
theorem dX1_cameraActs_55 : decode cX1_cameraActs 55 = .ok (.getfield 33, 3) := by decide +kernel
theorem dX1_cameraActs_58 : decode cX1_cameraActs 58 = .ok (.iload_n 3, 1) := by decide +kernel
theorem dX1_cameraActs_59 : decode cX1_cameraActs 59 = .ok (.iconst 3, 1) := by decide +kernel
theorem dX1_cameraActs_60 : decode cX1_cameraActs 60 = .ok (.aload_n 0, 1) := by decide +kernel
theorem dX1_cameraActs_61 : decode cX1_cameraActs 61 = .ok (.aload_n 0, 1) := by decide +kernel
theorem dX1_cameraActs_62 : decode cX1_cameraActs 62 = .ok (.iload_n 2, 1) := by decide +kernel
theorem dX1_cameraActs_63 : decode cX1_cameraActs 63 = .ok (.ifCond .eq 7, 3) := by decide +kernel
theorem dX1_cameraActs_66 : decode cX1_cameraActs 66 = .ok (.iconst 2, 1) := by decide +kernel
theorem dX1_cameraActs_67 : decode cX1_cameraActs 67 = .ok (.goto 4, 3) := by decide +kernel
theorem dX1_cameraActs_70 : decode cX1_cameraActs 70 = .ok (.iconst 1, 1) := by decide +kernel
theorem dX1_cameraActs_71 : decode cX1_cameraActs 71 = .ok (.invokevirtual 177, 3) := by decide +kernel
theorem dX1_cameraActs_74 : decode cX1_cameraActs 74 = .ok (.iload_n 2, 1) := by decide +kernel
theorem dX1_cameraActs_75 : decode cX1_cameraActs 75 = .ok (.invokevirtual 180, 3) := by decide +kernel
theorem dX1_cameraActs_78 : decode cX1_cameraActs 78 = .ok (.invokevirtual 108, 3) := by decide +kernel
theorem dX1_cameraActs_81 : decode cX1_cameraActs 81 = .ok (.return_, 1) := by decide +kernel
set_option maxRecDepth 20000 in
theorem ggX1_seen_X2_get : GoodIn wsX1_seen wsX2_get := goodIn_r _ [6, 7, 8, 25, 26, 27, 28] (by decide +kernel) (by decide +kernel)
set_option maxRecDepth 20000 in
theorem gX1_seen_X2_get : GoodIn wsX1_seen (wsV RX1 124 RX2 yX2_get wsX2_get) := goodIn_app (goodIn_of _ (by decide +kernel)) ggX1_seen_X2_get
theorem dX1_seen_0 : decode cX1_seen 0 = .ok (.iload_n 1, 1) := by decide +kernel
theorem dX1_seen_1 : decode cX1_seen 1 = .ok (.iconst (-1), 1) := by decide +kernel
theorem dX1_seen_2 : decode cX1_seen 2 = .ok (.if_icmp .eq 15, 3) := by decide +kernel
theorem dX1_seen_5 : decode cX1_seen 5 = .ok (.aload_n 0, 1) := by decide +kernel
theorem dX1_seen_6 : decode cX1_seen 6 = .ok (.getfield 26, 3) := by decide +kernel
theorem dX1_seen_9 : decode cX1_seen 9 = .ok (.iload_n 1, 1) := by decide +kernel
theorem dX1_seen_10 : decode cX1_seen 10 = .ok (.iconst 3, 1) := by decide +kernel
theorem dX1_seen_11 : decode cX1_seen 11 = .ok (.invokevirtual 124, 3) := by decide +kernel
theorem dX1_seen_14 : decode cX1_seen 14 = .ok (.ifCond .ne 5, 3) := by decide +kernel
theorem dX1_seen_17 : decode cX1_seen 17 = .ok (.iconst 2, 1) := by decide +kernel
theorem dX1_seen_18 : decode cX1_seen 18 = .ok (.ireturn, 1) := by decide +kernel
theorem dX1_seen_19 : decode cX1_seen 19 = .ok (.aload_n 0, 1) := by decide +kernel
theorem dX1_seen_20 : decode cX1_seen 20 = .ok (.getfield 26, 3) := by decide +kernel
theorem dX1_seen_23 : decode cX1_seen 23 = .ok (.iload_n 1, 1) := by decide +kernel
theorem dX1_seen_24 : decode cX1_seen 24 = .ok (.iconst 2, 1) := by decide +kernel
theorem dX1_seen_25 : decode cX1_seen 25 = .ok (.invokevirtual 124, 3) := by decide +kernel
theorem dX1_seen_28 : decode cX1_seen 28 = .ok (.tableswitch 46 0 3 #[32, 46, 34, 44], 32) := by decide +kernel
theorem dX1_seen_60 : decode cX1_seen 60 = .ok (.iconst 1, 1) := by decide +kernel
theorem dX1_seen_61 : decode cX1_seen 61 = .ok (.ireturn, 1) := by decide +kernel
theorem dX1_seen_62 : decode cX1_seen 62 = .ok (.iload_n 2, 1) := by decide +kernel
theorem dX1_seen_63 : decode cX1_seen 63 = .ok (.ifCond .eq 7, 3) := by decide +kernel
theorem dX1_seen_66 : decode cX1_seen 66 = .ok (.iconst 1, 1) := by decide +kernel
theorem dX1_seen_67 : decode cX1_seen 67 = .ok (.goto 4, 3) := by decide +kernel
theorem dX1_seen_70 : decode cX1_seen 70 = .ok (.iconst 3, 1) := by decide +kernel
theorem dX1_seen_71 : decode cX1_seen 71 = .ok (.ireturn, 1) := by decide +kernel
theorem dX1_seen_72 : decode cX1_seen 72 = .ok (.iconst 3, 1) := by decide +kernel
theorem dX1_seen_73 : decode cX1_seen 73 = .ok (.ireturn, 1) := by decide +kernel
theorem dX1_seen_74 : decode cX1_seen 74 = .ok (.iconst 2, 1) := by decide +kernel
theorem dX1_seen_75 : decode cX1_seen 75 = .ok (.ireturn, 1) := by decide +kernel
set_option maxRecDepth 20000 in
theorem ggX1_mayPass_X2_get : GoodIn wsX1_mayPass wsX2_get := goodIn_r _ [6, 7, 8, 25, 26, 27, 28] (by decide +kernel) (by decide +kernel)
set_option maxRecDepth 20000 in
theorem gX1_mayPass_X2_get : GoodIn wsX1_mayPass (wsV RX1 124 RX2 yX2_get wsX2_get) := goodIn_app (goodIn_of _ (by decide +kernel)) ggX1_mayPass_X2_get
theorem dX1_mayPass_0 : decode cX1_mayPass 0 = .ok (.aload_n 0, 1) := by decide +kernel
theorem dX1_mayPass_1 : decode cX1_mayPass 1 = .ok (.getfield 30, 3) := by decide +kernel
theorem dX1_mayPass_4 : decode cX1_mayPass 4 = .ok (.iload_n 1, 1) := by decide +kernel
theorem dX1_mayPass_5 : decode cX1_mayPass 5 = .ok (.iconst 2, 1) := by decide +kernel
theorem dX1_mayPass_6 : decode cX1_mayPass 6 = .ok (.invokevirtual 124, 3) := by decide +kernel
theorem dX1_mayPass_9 : decode cX1_mayPass 9 = .ok (.iconst 1, 1) := by decide +kernel
theorem dX1_mayPass_10 : decode cX1_mayPass 10 = .ok (.if_icmp .ne 19, 3) := by decide +kernel
theorem dX1_mayPass_13 : decode cX1_mayPass 13 = .ok (.aload_n 0, 1) := by decide +kernel
theorem dX1_mayPass_14 : decode cX1_mayPass 14 = .ok (.getfield 30, 3) := by decide +kernel
theorem dX1_mayPass_17 : decode cX1_mayPass 17 = .ok (.iload_n 1, 1) := by decide +kernel
theorem dX1_mayPass_18 : decode cX1_mayPass 18 = .ok (.iconst 3, 1) := by decide +kernel
theorem dX1_mayPass_19 : decode cX1_mayPass 19 = .ok (.invokevirtual 124, 3) := by decide +kernel
theorem dX1_mayPass_22 : decode cX1_mayPass 22 = .ok (.ifCond .ne 7, 3) := by decide +kernel
theorem dX1_mayPass_25 : decode cX1_mayPass 25 = .ok (.iconst 1, 1) := by decide +kernel
theorem dX1_mayPass_26 : decode cX1_mayPass 26 = .ok (.goto 4, 3) := by decide +kernel
theorem dX1_mayPass_29 : decode cX1_mayPass 29 = .ok (.iconst 0, 1) := by decide +kernel
theorem dX1_mayPass_30 : decode cX1_mayPass 30 = .ok (.ireturn, 1) := by decide +kernel
set_option maxRecDepth 20000 in
theorem ggX1_pass_X2_put : GoodIn wsX1_pass wsX2_put := goodIn_r _ [7, 8, 9, 26, 27, 28, 29] (by decide +kernel) (by decide +kernel)
set_option maxRecDepth 20000 in
theorem gX1_pass_X2_put : GoodIn wsX1_pass (wsV RX1 108 RX2 yX2_put wsX2_put) := goodIn_app (goodIn_of _ (by decide +kernel)) ggX1_pass_X2_put
theorem dX1_pass_0 : decode cX1_pass 0 = .ok (.aload_n 0, 1) := by decide +kernel
theorem dX1_pass_1 : decode cX1_pass 1 = .ok (.getfield 30, 3) := by decide +kernel
theorem dX1_pass_4 : decode cX1_pass 4 = .ok (.iload_n 1, 1) := by decide +kernel
theorem dX1_pass_5 : decode cX1_pass 5 = .ok (.iconst 4, 1) := by decide +kernel
theorem dX1_pass_6 : decode cX1_pass 6 = .ok (.iconst 1, 1) := by decide +kernel
theorem dX1_pass_7 : decode cX1_pass 7 = .ok (.invokevirtual 108, 3) := by decide +kernel
theorem dX1_pass_10 : decode cX1_pass 10 = .ok (.aload_n 0, 1) := by decide +kernel
theorem dX1_pass_11 : decode cX1_pass 11 = .ok (.iconst 0, 1) := by decide +kernel
theorem dX1_pass_12 : decode cX1_pass 12 = .ok (.putfield 56, 3) := by decide +kernel
theorem dX1_pass_15 : decode cX1_pass 15 = .ok (.return_, 1) := by decide +kernel
set_option maxRecDepth 20000 in
theorem ggX1_reject_X1_causeOf : GoodIn wsX1_reject wsX1_causeOf := goodIn_r _ [11, 12, 13, 14, 15, 16, 17, 18, 19, 73, 74, 75, 76, 77, 78, 79, 80, 81, 82, 83, 84, 85, 86, 87, 88, 89, 90, 91, 92] (by decide +kernel) (by decide +kernel)
set_option maxRecDepth 20000 in
theorem gX1_reject_X1_causeOf : GoodIn wsX1_reject (wsV RX1 184 RX1 yX1_causeOf wsX1_causeOf) := goodIn_app (goodIn_of _ (by decide +kernel)) ggX1_reject_X1_causeOf
set_option maxRecDepth 20000 in
theorem ggX1_reject_X1_count : GoodIn wsX1_reject wsX1_count := goodIn_r _ [23, 24, 73, 74, 75, 76, 77, 78, 79, 80, 81, 82, 83, 84, 85, 86, 87, 88] (by decide +kernel) (by decide +kernel)
set_option maxRecDepth 20000 in
theorem gX1_reject_X1_count : GoodIn wsX1_reject (wsV RX1 102 RX1 yX1_count wsX1_count) := goodIn_app (goodIn_of _ (by decide +kernel)) ggX1_reject_X1_count
set_option maxRecDepth 20000 in
theorem ggX1_reject_X1_leaveRegister : GoodIn wsX1_reject wsX1_leaveRegister := goodIn_r _ [28, 12, 29, 30, 13, 14, 15, 16, 17, 18, 19, 20, 21, 22, 10, 23, 24, 31, 32, 33, 34, 35, 73, 74, 75, 76, 77, 78, 79, 80, 81, 82, 83, 84, 85, 86, 87, 88, 89, 90, 91, 92] (by decide +kernel) (by decide +kernel)
set_option maxRecDepth 20000 in
theorem gX1_reject_X1_leaveRegister : GoodIn wsX1_reject (wsV RX1 171 RX1 yX1_leaveRegister wsX1_leaveRegister) := goodIn_app (goodIn_of _ (by decide +kernel)) ggX1_reject_X1_leaveRegister
set_option maxRecDepth 20000 in
theorem ggX1_reject_X1_itemAt : GoodIn wsX1_reject wsX1_itemAt := goodIn_r _ [39, 1, 40, 41, 42, 43, 44, 45, 46, 10, 47, 48, 49, 50, 51, 52, 53, 54, 55, 56, 16, 57, 35, 13, 14, 15, 17, 18, 19, 73, 74, 75, 76, 77, 78, 79, 80, 81, 82, 83, 84, 85, 86, 87, 88, 89, 90, 91, 92] (by decide +kernel) (by decide +kernel)
set_option maxRecDepth 20000 in
theorem gX1_reject_X1_itemAt : GoodIn wsX1_reject (wsV RX1 177 RX1 yX1_itemAt wsX1_itemAt) := goodIn_app (goodIn_of _ (by decide +kernel)) ggX1_reject_X1_itemAt
set_option maxRecDepth 20000 in
theorem ggX1_reject_X2_removeRow : GoodIn wsX1_reject wsX2_removeRow := goodIn_r _ [34, 35, 18, 19, 89, 90, 91, 92] (by decide +kernel) (by decide +kernel)
set_option maxRecDepth 20000 in
theorem gX1_reject_X2_removeRow : GoodIn wsX1_reject (wsV RX1 142 RX2 yX2_removeRow wsX2_removeRow) := goodIn_app (goodIn_of _ (by decide +kernel)) ggX1_reject_X2_removeRow
set_option maxRecDepth 20000 in
theorem ggX1_reject_X1_setting : GoodIn wsX1_reject wsX1_setting := goodIn_r _ [52, 53, 73, 74, 75, 76, 77, 78, 79, 80, 81, 82, 83, 84, 85, 86, 87, 88] (by decide +kernel) (by decide +kernel)
set_option maxRecDepth 20000 in
theorem gX1_reject_X1_setting : GoodIn wsX1_reject (wsV RX1 84 RX1 yX1_setting wsX1_setting) := goodIn_app (goodIn_of _ (by decide +kernel)) ggX1_reject_X1_setting
set_option maxRecDepth 20000 in
theorem ggX1_reject_X2_addRow : GoodIn wsX1_reject wsX2_addRow := goodIn_r _ [61, 35, 62, 18, 63, 64, 65, 16, 66, 19, 89, 90, 91, 92] (by decide +kernel) (by decide +kernel)
set_option maxRecDepth 20000 in
theorem gX1_reject_X2_addRow : GoodIn wsX1_reject (wsV RX1 105 RX2 yX2_addRow wsX2_addRow) := goodIn_app (goodIn_of _ (by decide +kernel)) ggX1_reject_X2_addRow
set_option maxRecDepth 20000 in
theorem ggX1_reject_X1_raise : GoodIn wsX1_reject wsX1_raise := goodIn_r _ [70, 71, 72, 20, 21, 22, 10, 23, 24, 73, 74, 75, 76, 77, 78, 79, 80, 81, 82, 83, 84, 85, 86, 87, 88] (by decide +kernel) (by decide +kernel)
set_option maxRecDepth 20000 in
theorem gX1_reject_X1_raise : GoodIn wsX1_reject (wsV RX1 139 RX1 yX1_raise wsX1_raise) := goodIn_app (goodIn_of _ (by decide +kernel)) ggX1_reject_X1_raise
theorem dX1_reject_0 : decode cX1_reject 0 = .ok (.aload_n 0, 1) := by decide +kernel
theorem dX1_reject_1 : decode cX1_reject 1 = .ok (.aload_n 0, 1) := by decide +kernel
theorem dX1_reject_2 : decode cX1_reject 2 = .ok (.iload_n 1, 1) := by decide +kernel
theorem dX1_reject_3 : decode cX1_reject 3 = .ok (.invokevirtual 184, 3) := by decide +kernel
theorem dX1_reject_6 : decode cX1_reject 6 = .ok (.invokevirtual 102, 3) := by decide +kernel
theorem dX1_reject_9 : decode cX1_reject 9 = .ok (.aload_n 0, 1) := by decide +kernel
theorem dX1_reject_10 : decode cX1_reject 10 = .ok (.iload_n 1, 1) := by decide +kernel
theorem dX1_reject_11 : decode cX1_reject 11 = .ok (.iconst 2, 1) := by decide +kernel
theorem dX1_reject_12 : decode cX1_reject 12 = .ok (.invokevirtual 171, 3) := by decide +kernel
theorem dX1_reject_15 : decode cX1_reject 15 = .ok (.aload_n 0, 1) := by decide +kernel
theorem dX1_reject_16 : decode cX1_reject 16 = .ok (.iconst 3, 1) := by decide +kernel
theorem dX1_reject_17 : decode cX1_reject 17 = .ok (.invokevirtual 177, 3) := by decide +kernel
theorem dX1_reject_20 : decode cX1_reject 20 = .ok (.istore_n 2, 1) := by decide +kernel
theorem dX1_reject_21 : decode cX1_reject 21 = .ok (.iload_n 2, 1) := by decide +kernel
theorem dX1_reject_22 : decode cX1_reject 22 = .ok (.iconst (-1), 1) := by decide +kernel
theorem dX1_reject_23 : decode cX1_reject 23 = .ok (.if_icmp .eq 39, 3) := by decide +kernel
theorem dX1_reject_26 : decode cX1_reject 26 = .ok (.aload_n 0, 1) := by decide +kernel
theorem dX1_reject_27 : decode cX1_reject 27 = .ok (.getfield 26, 3) := by decide +kernel
theorem dX1_reject_30 : decode cX1_reject 30 = .ok (.iload_n 2, 1) := by decide +kernel
theorem dX1_reject_31 : decode cX1_reject 31 = .ok (.invokevirtual 142, 3) := by decide +kernel
theorem dX1_reject_34 : decode cX1_reject 34 = .ok (.aload_n 0, 1) := by decide +kernel
theorem dX1_reject_35 : decode cX1_reject 35 = .ok (.getfield 36, 3) := by decide +kernel
theorem dX1_reject_38 : decode cX1_reject 38 = .ok (.aload_n 0, 1) := by decide +kernel
theorem dX1_reject_39 : decode cX1_reject 39 = .ok (.getfield 42, 3) := by decide +kernel
theorem dX1_reject_42 : decode cX1_reject 42 = .ok (.aload_n 0, 1) := by decide +kernel
theorem dX1_reject_43 : decode cX1_reject 43 = .ok (.iconst 2, 1) := by decide +kernel
theorem dX1_reject_44 : decode cX1_reject 44 = .ok (.invokevirtual 84, 3) := by decide +kernel
theorem dX1_reject_47 : decode cX1_reject 47 = .ok (.iadd, 1) := by decide +kernel
theorem dX1_reject_48 : decode cX1_reject 48 = .ok (.invokevirtual 105, 3) := by decide +kernel
theorem dX1_reject_51 : decode cX1_reject 51 = .ok (.pop, 1) := by decide +kernel
theorem dX1_reject_52 : decode cX1_reject 52 = .ok (.aload_n 0, 1) := by decide +kernel
theorem dX1_reject_53 : decode cX1_reject 53 = .ok (.dup, 1) := by decide +kernel
theorem dX1_reject_54 : decode cX1_reject 54 = .ok (.getfield 59, 3) := by decide +kernel
theorem dX1_reject_57 : decode cX1_reject 57 = .ok (.iconst 1, 1) := by decide +kernel
theorem dX1_reject_58 : decode cX1_reject 58 = .ok (.iadd, 1) := by decide +kernel
theorem dX1_reject_59 : decode cX1_reject 59 = .ok (.putfield 59, 3) := by decide +kernel
theorem dX1_reject_62 : decode cX1_reject 62 = .ok (.aload_n 0, 1) := by decide +kernel
theorem dX1_reject_63 : decode cX1_reject 63 = .ok (.getfield 39, 3) := by decide +kernel
theorem dX1_reject_66 : decode cX1_reject 66 = .ok (.aload_n 0, 1) := by decide +kernel
theorem dX1_reject_67 : decode cX1_reject 67 = .ok (.getfield 42, 3) := by decide +kernel
theorem dX1_reject_70 : decode cX1_reject 70 = .ok (.aload_n 0, 1) := by decide +kernel
theorem dX1_reject_71 : decode cX1_reject 71 = .ok (.iconst 3, 1) := by decide +kernel
theorem dX1_reject_72 : decode cX1_reject 72 = .ok (.invokevirtual 84, 3) := by decide +kernel
theorem dX1_reject_75 : decode cX1_reject 75 = .ok (.iadd, 1) := by decide +kernel
theorem dX1_reject_76 : decode cX1_reject 76 = .ok (.invokevirtual 105, 3) := by decide +kernel
theorem dX1_reject_79 : decode cX1_reject 79 = .ok (.pop, 1) := by decide +kernel
theorem dX1_reject_80 : decode cX1_reject 80 = .ok (.aload_n 0, 1) := by decide +kernel
theorem dX1_reject_81 : decode cX1_reject 81 = .ok (.dup, 1) := by decide +kernel
theorem dX1_reject_82 : decode cX1_reject 82 = .ok (.getfield 56, 3) := by decide +kernel
theorem dX1_reject_85 : decode cX1_reject 85 = .ok (.iconst 1, 1) := by decide +kernel
theorem dX1_reject_86 : decode cX1_reject 86 = .ok (.iadd, 1) := by decide +kernel
theorem dX1_reject_87 : decode cX1_reject 87 = .ok (.putfield 56, 3) := by decide +kernel
theorem dX1_reject_90 : decode cX1_reject 90 = .ok (.aload_n 0, 1) := by decide +kernel
theorem dX1_reject_91 : decode cX1_reject 91 = .ok (.getfield 56, 3) := by decide +kernel
theorem dX1_reject_94 : decode cX1_reject 94 = .ok (.aload_n 0, 1) := by decide +kernel
theorem dX1_reject_95 : decode cX1_reject 95 = .ok (.iconst 4, 1) := by decide +kernel
theorem dX1_reject_96 : decode cX1_reject 96 = .ok (.invokevirtual 84, 3) := by decide +kernel
theorem dX1_reject_99 : decode cX1_reject 99 = .ok (.if_icmp .lt 13, 3) := by decide +kernel
theorem dX1_reject_102 : decode cX1_reject 102 = .ok (.aload_n 0, 1) := by decide +kernel
theorem dX1_reject_103 : decode cX1_reject 103 = .ok (.iconst 1, 1) := by decide +kernel
theorem dX1_reject_104 : decode cX1_reject 104 = .ok (.invokevirtual 139, 3) := by decide +kernel
theorem dX1_reject_107 : decode cX1_reject 107 = .ok (.aload_n 0, 1) := by decide +kernel
theorem dX1_reject_108 : decode cX1_reject 108 = .ok (.iconst 0, 1) := by decide +kernel
theorem dX1_reject_109 : decode cX1_reject 109 = .ok (.putfield 56, 3) := by decide +kernel
theorem dX1_reject_112 : decode cX1_reject 112 = .ok (.return_, 1) := by decide +kernel
set_option maxRecDepth 20000 in
theorem ggX1_causeOf_X2_get : GoodIn wsX1_causeOf wsX2_get := goodIn_r _ [6, 7, 8, 25, 26, 27, 28] (by decide +kernel) (by decide +kernel)
set_option maxRecDepth 20000 in
theorem gX1_causeOf_X2_get : GoodIn wsX1_causeOf (wsV RX1 124 RX2 yX2_get wsX2_get) := goodIn_app (goodIn_of _ (by decide +kernel)) ggX1_causeOf_X2_get
theorem dX1_causeOf_0 : decode cX1_causeOf 0 = .ok (.aload_n 0, 1) := by decide +kernel
theorem dX1_causeOf_1 : decode cX1_causeOf 1 = .ok (.getfield 30, 3) := by decide +kernel
theorem dX1_causeOf_4 : decode cX1_causeOf 4 = .ok (.iload_n 1, 1) := by decide +kernel
theorem dX1_causeOf_5 : decode cX1_causeOf 5 = .ok (.iconst 3, 1) := by decide +kernel
theorem dX1_causeOf_6 : decode cX1_causeOf 6 = .ok (.invokevirtual 124, 3) := by decide +kernel
theorem dX1_causeOf_9 : decode cX1_causeOf 9 = .ok (.iconst 1, 1) := by decide +kernel
theorem dX1_causeOf_10 : decode cX1_causeOf 10 = .ok (.if_icmp .ne 6, 3) := by decide +kernel
theorem dX1_causeOf_13 : decode cX1_causeOf 13 = .ok (.bipush 10, 2) := by decide +kernel
theorem dX1_causeOf_15 : decode cX1_causeOf 15 = .ok (.ireturn, 1) := by decide +kernel
theorem dX1_causeOf_16 : decode cX1_causeOf 16 = .ok (.aload_n 0, 1) := by decide +kernel
theorem dX1_causeOf_17 : decode cX1_causeOf 17 = .ok (.getfield 30, 3) := by decide +kernel
theorem dX1_causeOf_20 : decode cX1_causeOf 20 = .ok (.iload_n 1, 1) := by decide +kernel
theorem dX1_causeOf_21 : decode cX1_causeOf 21 = .ok (.iconst 2, 1) := by decide +kernel
theorem dX1_causeOf_22 : decode cX1_causeOf 22 = .ok (.invokevirtual 124, 3) := by decide +kernel
theorem dX1_causeOf_25 : decode cX1_causeOf 25 = .ok (.lookupswitch 33 #[(2, 27), (3, 30)], 27) := by decide +kernel
theorem dX1_causeOf_52 : decode cX1_causeOf 52 = .ok (.bipush 11, 2) := by decide +kernel
theorem dX1_causeOf_54 : decode cX1_causeOf 54 = .ok (.ireturn, 1) := by decide +kernel
theorem dX1_causeOf_55 : decode cX1_causeOf 55 = .ok (.bipush 12, 2) := by decide +kernel
theorem dX1_causeOf_57 : decode cX1_causeOf 57 = .ok (.ireturn, 1) := by decide +kernel
theorem dX1_causeOf_58 : decode cX1_causeOf 58 = .ok (.bipush 13, 2) := by decide +kernel
theorem dX1_causeOf_60 : decode cX1_causeOf 60 = .ok (.ireturn, 1) := by decide +kernel
set_option maxRecDepth 20000 in
theorem ggX1_leaveRegister_X2_get : GoodIn wsX1_leaveRegister wsX2_get := goodIn_r _ [8, 9, 10, 38, 39, 40, 41] (by decide +kernel) (by decide +kernel)
set_option maxRecDepth 20000 in
theorem gX1_leaveRegister_X2_get : GoodIn wsX1_leaveRegister (wsV RX1 124 RX2 yX2_get wsX2_get) := goodIn_app (goodIn_of _ (by decide +kernel)) ggX1_leaveRegister_X2_get
set_option maxRecDepth 20000 in
theorem ggX1_leaveRegister_X1_count : GoodIn wsX1_leaveRegister wsX1_count := goodIn_r _ [15, 16, 22, 23, 24, 25, 26, 27, 28, 29, 30, 31, 32, 33, 34, 35, 36, 37] (by decide +kernel) (by decide +kernel)
set_option maxRecDepth 20000 in
theorem gX1_leaveRegister_X1_count : GoodIn wsX1_leaveRegister (wsV RX1 102 RX1 yX1_count wsX1_count) := goodIn_app (goodIn_of _ (by decide +kernel)) ggX1_leaveRegister_X1_count
set_option maxRecDepth 20000 in
theorem ggX1_leaveRegister_X2_removeRow : GoodIn wsX1_leaveRegister wsX2_removeRow := goodIn_r _ [20, 21, 9, 10, 38, 39, 40, 41] (by decide +kernel) (by decide +kernel)
set_option maxRecDepth 20000 in
theorem gX1_leaveRegister_X2_removeRow : GoodIn wsX1_leaveRegister (wsV RX1 142 RX2 yX2_removeRow wsX2_removeRow) := goodIn_app (goodIn_of _ (by decide +kernel)) ggX1_leaveRegister_X2_removeRow
theorem dX1_leaveRegister_0 : decode cX1_leaveRegister 0 = .ok (.aload_n 0, 1) := by decide +kernel
theorem dX1_leaveRegister_1 : decode cX1_leaveRegister 1 = .ok (.getfield 30, 3) := by decide +kernel
theorem dX1_leaveRegister_4 : decode cX1_leaveRegister 4 = .ok (.iload_n 1, 1) := by decide +kernel
theorem dX1_leaveRegister_5 : decode cX1_leaveRegister 5 = .ok (.iconst 0, 1) := by decide +kernel
theorem dX1_leaveRegister_6 : decode cX1_leaveRegister 6 = .ok (.invokevirtual 124, 3) := by decide +kernel
theorem dX1_leaveRegister_9 : decode cX1_leaveRegister 9 = .ok (.aload_n 0, 1) := by decide +kernel
theorem dX1_leaveRegister_10 : decode cX1_leaveRegister 10 = .ok (.getfield 62, 3) := by decide +kernel
theorem dX1_leaveRegister_13 : decode cX1_leaveRegister 13 = .ok (.if_icmp .ne 8, 3) := by decide +kernel
theorem dX1_leaveRegister_16 : decode cX1_leaveRegister 16 = .ok (.aload_n 0, 1) := by decide +kernel
theorem dX1_leaveRegister_17 : decode cX1_leaveRegister 17 = .ok (.iload_n 2, 1) := by decide +kernel
theorem dX1_leaveRegister_18 : decode cX1_leaveRegister 18 = .ok (.putfield 65, 3) := by decide +kernel
theorem dX1_leaveRegister_21 : decode cX1_leaveRegister 21 = .ok (.aload_n 0, 1) := by decide +kernel
theorem dX1_leaveRegister_22 : decode cX1_leaveRegister 22 = .ok (.iload_n 2, 1) := by decide +kernel
theorem dX1_leaveRegister_23 : decode cX1_leaveRegister 23 = .ok (.invokevirtual 102, 3) := by decide +kernel
theorem dX1_leaveRegister_26 : decode cX1_leaveRegister 26 = .ok (.aload_n 0, 1) := by decide +kernel
theorem dX1_leaveRegister_27 : decode cX1_leaveRegister 27 = .ok (.getfield 30, 3) := by decide +kernel
theorem dX1_leaveRegister_30 : decode cX1_leaveRegister 30 = .ok (.iload_n 1, 1) := by decide +kernel
theorem dX1_leaveRegister_31 : decode cX1_leaveRegister 31 = .ok (.invokevirtual 142, 3) := by decide +kernel
theorem dX1_leaveRegister_34 : decode cX1_leaveRegister 34 = .ok (.return_, 1) := by decide +kernel
set_option maxRecDepth 20000 in
theorem ggX1_leaveBelt_X2_removeRow : GoodIn wsX1_leaveBelt wsX2_removeRow := goodIn_r _ [7, 8, 9, 10, 69, 70, 71, 72] (by decide +kernel) (by decide +kernel)
set_option maxRecDepth 20000 in
theorem gX1_leaveBelt_X2_removeRow : GoodIn wsX1_leaveBelt (wsV RX1 142 RX2 yX2_removeRow wsX2_removeRow) := goodIn_app (goodIn_of _ (by decide +kernel)) ggX1_leaveBelt_X2_removeRow
set_option maxRecDepth 20000 in
theorem ggX1_leaveBelt_X1_count : GoodIn wsX1_leaveBelt wsX1_count := goodIn_r _ [15, 16, 53, 54, 55, 56, 57, 58, 59, 60, 61, 62, 63, 64, 65, 66, 67, 68] (by decide +kernel) (by decide +kernel)
set_option maxRecDepth 20000 in
theorem gX1_leaveBelt_X1_count : GoodIn wsX1_leaveBelt (wsV RX1 102 RX1 yX1_count wsX1_count) := goodIn_app (goodIn_of _ (by decide +kernel)) ggX1_leaveBelt_X1_count
set_option maxRecDepth 20000 in
theorem ggX1_leaveBelt_X1_recordForExit : GoodIn wsX1_leaveBelt wsX1_recordForExit := goodIn_r _ [20, 2, 21, 22, 23, 24, 25, 26, 27, 14, 28, 29, 30, 31, 32, 33, 34, 35, 36, 37, 6, 38, 8, 39, 40, 41, 42, 9, 10, 53, 54, 55, 56, 57, 58, 59, 60, 61, 62, 63, 64, 65, 66, 67, 68, 69, 70, 71, 72] (by decide +kernel) (by decide +kernel)
set_option maxRecDepth 20000 in
theorem gX1_leaveBelt_X1_recordForExit : GoodIn wsX1_leaveBelt (wsV RX1 187 RX1 yX1_recordForExit wsX1_recordForExit) := goodIn_app (goodIn_of _ (by decide +kernel)) ggX1_leaveBelt_X1_recordForExit
set_option maxRecDepth 20000 in
theorem ggX1_leaveBelt_X1_raise : GoodIn wsX1_leaveBelt wsX1_raise := goodIn_r _ [46, 47, 48, 11, 12, 13, 14, 15, 16, 53, 54, 55, 56, 57, 58, 59, 60, 61, 62, 63, 64, 65, 66, 67, 68] (by decide +kernel) (by decide +kernel)
set_option maxRecDepth 20000 in
theorem gX1_leaveBelt_X1_raise : GoodIn wsX1_leaveBelt (wsV RX1 139 RX1 yX1_raise wsX1_raise) := goodIn_app (goodIn_of _ (by decide +kernel)) ggX1_leaveBelt_X1_raise
set_option maxRecDepth 20000 in
theorem ggX1_leaveBelt_X2_put : GoodIn wsX1_leaveBelt wsX2_put := goodIn_r _ [52, 9, 10, 69, 70, 71, 72] (by decide +kernel) (by decide +kernel)
set_option maxRecDepth 20000 in
theorem gX1_leaveBelt_X2_put : GoodIn wsX1_leaveBelt (wsV RX1 108 RX2 yX2_put wsX2_put) := goodIn_app (goodIn_of _ (by decide +kernel)) ggX1_leaveBelt_X2_put
theorem dX1_leaveBelt_0 : decode cX1_leaveBelt 0 = .ok (.aload_n 0, 1) := by decide +kernel
theorem dX1_leaveBelt_1 : decode cX1_leaveBelt 1 = .ok (.getfield 26, 3) := by decide +kernel
theorem dX1_leaveBelt_4 : decode cX1_leaveBelt 4 = .ok (.iload_n 1, 1) := by decide +kernel
theorem dX1_leaveBelt_5 : decode cX1_leaveBelt 5 = .ok (.invokevirtual 142, 3) := by decide +kernel
theorem dX1_leaveBelt_8 : decode cX1_leaveBelt 8 = .ok (.aload_n 0, 1) := by decide +kernel
theorem dX1_leaveBelt_9 : decode cX1_leaveBelt 9 = .ok (.bipush 8, 2) := by decide +kernel
theorem dX1_leaveBelt_11 : decode cX1_leaveBelt 11 = .ok (.invokevirtual 102, 3) := by decide +kernel
theorem dX1_leaveBelt_14 : decode cX1_leaveBelt 14 = .ok (.aload_n 0, 1) := by decide +kernel
theorem dX1_leaveBelt_15 : decode cX1_leaveBelt 15 = .ok (.invokevirtual 187, 3) := by decide +kernel
theorem dX1_leaveBelt_18 : decode cX1_leaveBelt 18 = .ok (.istore_n 2, 1) := by decide +kernel
theorem dX1_leaveBelt_19 : decode cX1_leaveBelt 19 = .ok (.iload_n 2, 1) := by decide +kernel
theorem dX1_leaveBelt_20 : decode cX1_leaveBelt 20 = .ok (.iconst (-1), 1) := by decide +kernel
theorem dX1_leaveBelt_21 : decode cX1_leaveBelt 21 = .ok (.if_icmp .ne 17, 3) := by decide +kernel
theorem dX1_leaveBelt_24 : decode cX1_leaveBelt 24 = .ok (.aload_n 0, 1) := by decide +kernel
theorem dX1_leaveBelt_25 : decode cX1_leaveBelt 25 = .ok (.bipush 9, 2) := by decide +kernel
theorem dX1_leaveBelt_27 : decode cX1_leaveBelt 27 = .ok (.invokevirtual 102, 3) := by decide +kernel
theorem dX1_leaveBelt_30 : decode cX1_leaveBelt 30 = .ok (.aload_n 0, 1) := by decide +kernel
theorem dX1_leaveBelt_31 : decode cX1_leaveBelt 31 = .ok (.iconst 4, 1) := by decide +kernel
theorem dX1_leaveBelt_32 : decode cX1_leaveBelt 32 = .ok (.invokevirtual 139, 3) := by decide +kernel
theorem dX1_leaveBelt_35 : decode cX1_leaveBelt 35 = .ok (.goto 13, 3) := by decide +kernel
theorem dX1_leaveBelt_38 : decode cX1_leaveBelt 38 = .ok (.aload_n 0, 1) := by decide +kernel
theorem dX1_leaveBelt_39 : decode cX1_leaveBelt 39 = .ok (.getfield 30, 3) := by decide +kernel
theorem dX1_leaveBelt_42 : decode cX1_leaveBelt 42 = .ok (.iload_n 2, 1) := by decide +kernel
theorem dX1_leaveBelt_43 : decode cX1_leaveBelt 43 = .ok (.iconst 5, 1) := by decide +kernel
theorem dX1_leaveBelt_44 : decode cX1_leaveBelt 44 = .ok (.iconst 1, 1) := by decide +kernel
theorem dX1_leaveBelt_45 : decode cX1_leaveBelt 45 = .ok (.invokevirtual 108, 3) := by decide +kernel
theorem dX1_leaveBelt_48 : decode cX1_leaveBelt 48 = .ok (.return_, 1) := by decide +kernel
set_option maxRecDepth 20000 in
theorem ggX1_itemAt_X1_place : GoodIn wsX1_itemAt wsX1_place := goodIn_r _ [10, 11, 29, 30, 31, 32, 33, 34, 35, 36, 37, 38, 39, 40, 41, 42, 43, 44] (by decide +kernel) (by decide +kernel)
set_option maxRecDepth 20000 in
theorem gX1_itemAt_X1_place : GoodIn wsX1_itemAt (wsV RX1 88 RX1 yX1_place wsX1_place) := goodIn_app (goodIn_of _ (by decide +kernel)) ggX1_itemAt_X1_place
set_option maxRecDepth 20000 in
theorem ggX1_itemAt_X1_setting : GoodIn wsX1_itemAt wsX1_setting := goodIn_r _ [15, 16, 29, 30, 31, 32, 33, 34, 35, 36, 37, 38, 39, 40, 41, 42, 43, 44] (by decide +kernel) (by decide +kernel)
set_option maxRecDepth 20000 in
theorem gX1_itemAt_X1_setting : GoodIn wsX1_itemAt (wsV RX1 84 RX1 yX1_setting wsX1_setting) := goodIn_app (goodIn_of _ (by decide +kernel)) ggX1_itemAt_X1_setting
set_option maxRecDepth 20000 in
theorem ggX1_itemAt_X2_count : GoodIn wsX1_itemAt wsX2_count := goodIn_r _ [21, 22, 45, 46, 47, 48] (by decide +kernel) (by decide +kernel)
set_option maxRecDepth 20000 in
theorem gX1_itemAt_X2_count : GoodIn wsX1_itemAt (wsV RX1 91 RX2 yX2_count wsX2_count) := goodIn_app (goodIn_of _ (by decide +kernel)) ggX1_itemAt_X2_count
set_option maxRecDepth 20000 in
theorem ggX1_itemAt_X2_get : GoodIn wsX1_itemAt wsX2_get := goodIn_r _ [26, 27, 28, 45, 46, 47, 48] (by decide +kernel) (by decide +kernel)
set_option maxRecDepth 20000 in
theorem gX1_itemAt_X2_get : GoodIn wsX1_itemAt (wsV RX1 124 RX2 yX2_get wsX2_get) := goodIn_app (goodIn_of _ (by decide +kernel)) ggX1_itemAt_X2_get
theorem dX1_itemAt_0 : decode cX1_itemAt 0 = .ok (.aload_n 0, 1) := by decide +kernel
theorem dX1_itemAt_1 : decode cX1_itemAt 1 = .ok (.iload_n 1, 1) := by decide +kernel
theorem dX1_itemAt_2 : decode cX1_itemAt 2 = .ok (.invokevirtual 88, 3) := by decide +kernel
theorem dX1_itemAt_5 : decode cX1_itemAt 5 = .ok (.istore_n 2, 1) := by decide +kernel
theorem dX1_itemAt_6 : decode cX1_itemAt 6 = .ok (.iconst (-1), 1) := by decide +kernel
theorem dX1_itemAt_7 : decode cX1_itemAt 7 = .ok (.istore_n 3, 1) := by decide +kernel
theorem dX1_itemAt_8 : decode cX1_itemAt 8 = .ok (.aload_n 0, 1) := by decide +kernel
theorem dX1_itemAt_9 : decode cX1_itemAt 9 = .ok (.iconst 5, 1) := by decide +kernel
theorem dX1_itemAt_10 : decode cX1_itemAt 10 = .ok (.invokevirtual 84, 3) := by decide +kernel
theorem dX1_itemAt_13 : decode cX1_itemAt 13 = .ok (.iconst 1, 1) := by decide +kernel
theorem dX1_itemAt_14 : decode cX1_itemAt 14 = .ok (.iadd, 1) := by decide +kernel
theorem dX1_itemAt_15 : decode cX1_itemAt 15 = .ok (.istore 4, 2) := by decide +kernel
theorem dX1_itemAt_17 : decode cX1_itemAt 17 = .ok (.iconst 0, 1) := by decide +kernel
theorem dX1_itemAt_18 : decode cX1_itemAt 18 = .ok (.istore 5, 2) := by decide +kernel
theorem dX1_itemAt_20 : decode cX1_itemAt 20 = .ok (.iload 5, 2) := by decide +kernel
theorem dX1_itemAt_22 : decode cX1_itemAt 22 = .ok (.aload_n 0, 1) := by decide +kernel
theorem dX1_itemAt_23 : decode cX1_itemAt 23 = .ok (.getfield 26, 3) := by decide +kernel
theorem dX1_itemAt_26 : decode cX1_itemAt 26 = .ok (.invokevirtual 91, 3) := by decide +kernel
theorem dX1_itemAt_29 : decode cX1_itemAt 29 = .ok (.if_icmp .ge 40, 3) := by decide +kernel
theorem dX1_itemAt_32 : decode cX1_itemAt 32 = .ok (.aload_n 0, 1) := by decide +kernel
theorem dX1_itemAt_33 : decode cX1_itemAt 33 = .ok (.getfield 26, 3) := by decide +kernel
theorem dX1_itemAt_36 : decode cX1_itemAt 36 = .ok (.iload 5, 2) := by decide +kernel
theorem dX1_itemAt_38 : decode cX1_itemAt 38 = .ok (.iconst 1, 1) := by decide +kernel
theorem dX1_itemAt_39 : decode cX1_itemAt 39 = .ok (.invokevirtual 124, 3) := by decide +kernel
theorem dX1_itemAt_42 : decode cX1_itemAt 42 = .ok (.iload_n 2, 1) := by decide +kernel
theorem dX1_itemAt_43 : decode cX1_itemAt 43 = .ok (.isub, 1) := by decide +kernel
theorem dX1_itemAt_44 : decode cX1_itemAt 44 = .ok (.invokestatic 190, 3) := by decide +kernel
theorem dX1_itemAt_47 : decode cX1_itemAt 47 = .ok (.istore 6, 2) := by decide +kernel
theorem dX1_itemAt_49 : decode cX1_itemAt 49 = .ok (.iload 6, 2) := by decide +kernel
theorem dX1_itemAt_51 : decode cX1_itemAt 51 = .ok (.iload 4, 2) := by decide +kernel
theorem dX1_itemAt_53 : decode cX1_itemAt 53 = .ok (.if_icmp .ge 10, 3) := by decide +kernel
theorem dX1_itemAt_56 : decode cX1_itemAt 56 = .ok (.iload 5, 2) := by decide +kernel
theorem dX1_itemAt_58 : decode cX1_itemAt 58 = .ok (.istore_n 3, 1) := by decide +kernel
theorem dX1_itemAt_59 : decode cX1_itemAt 59 = .ok (.iload 6, 2) := by decide +kernel
theorem dX1_itemAt_61 : decode cX1_itemAt 61 = .ok (.istore 4, 2) := by decide +kernel
theorem dX1_itemAt_63 : decode cX1_itemAt 63 = .ok (.iinc 5 1, 3) := by decide +kernel
theorem dX1_itemAt_66 : decode cX1_itemAt 66 = .ok (.goto (-46), 3) := by decide +kernel
theorem dX1_itemAt_69 : decode cX1_itemAt 69 = .ok (.iload_n 3, 1) := by decide +kernel
theorem dX1_itemAt_70 : decode cX1_itemAt 70 = .ok (.ireturn, 1) := by decide +kernel
set_option maxRecDepth 20000 in
theorem ggX1_recordForExit_X1_place : GoodIn wsX1_recordForExit wsX1_place := goodIn_r _ [10, 11, 29, 30, 31, 32, 33, 34, 35, 36, 37, 38, 39, 40, 41, 42, 43, 44] (by decide +kernel) (by decide +kernel)
set_option maxRecDepth 20000 in
theorem gX1_recordForExit_X1_place : GoodIn wsX1_recordForExit (wsV RX1 88 RX1 yX1_place wsX1_place) := goodIn_app (goodIn_of _ (by decide +kernel)) ggX1_recordForExit_X1_place
set_option maxRecDepth 20000 in
theorem ggX1_recordForExit_X1_setting : GoodIn wsX1_recordForExit wsX1_setting := goodIn_r _ [15, 16, 29, 30, 31, 32, 33, 34, 35, 36, 37, 38, 39, 40, 41, 42, 43, 44] (by decide +kernel) (by decide +kernel)
set_option maxRecDepth 20000 in
theorem gX1_recordForExit_X1_setting : GoodIn wsX1_recordForExit (wsV RX1 84 RX1 yX1_setting wsX1_setting) := goodIn_app (goodIn_of _ (by decide +kernel)) ggX1_recordForExit_X1_setting
set_option maxRecDepth 20000 in
theorem ggX1_recordForExit_X2_count : GoodIn wsX1_recordForExit wsX2_count := goodIn_r _ [21, 22, 45, 46, 47, 48] (by decide +kernel) (by decide +kernel)
set_option maxRecDepth 20000 in
theorem gX1_recordForExit_X2_count : GoodIn wsX1_recordForExit (wsV RX1 91 RX2 yX2_count wsX2_count) := goodIn_app (goodIn_of _ (by decide +kernel)) ggX1_recordForExit_X2_count
set_option maxRecDepth 20000 in
theorem ggX1_recordForExit_X2_get : GoodIn wsX1_recordForExit wsX2_get := goodIn_r _ [26, 27, 28, 45, 46, 47, 48] (by decide +kernel) (by decide +kernel)
set_option maxRecDepth 20000 in
theorem gX1_recordForExit_X2_get : GoodIn wsX1_recordForExit (wsV RX1 124 RX2 yX2_get wsX2_get) := goodIn_app (goodIn_of _ (by decide +kernel)) ggX1_recordForExit_X2_get
theorem dX1_recordForExit_0 : decode cX1_recordForExit 0 = .ok (.aload_n 0, 1) := by decide +kernel
theorem dX1_recordForExit_1 : decode cX1_recordForExit 1 = .ok (.iconst 4, 1) := by decide +kernel
theorem dX1_recordForExit_2 : decode cX1_recordForExit 2 = .ok (.invokevirtual 88, 3) := by decide +kernel
theorem dX1_recordForExit_5 : decode cX1_recordForExit 5 = .ok (.istore_n 1, 1) := by decide +kernel
theorem dX1_recordForExit_6 : decode cX1_recordForExit 6 = .ok (.iconst (-1), 1) := by decide +kernel
theorem dX1_recordForExit_7 : decode cX1_recordForExit 7 = .ok (.istore_n 2, 1) := by decide +kernel
theorem dX1_recordForExit_8 : decode cX1_recordForExit 8 = .ok (.aload_n 0, 1) := by decide +kernel
theorem dX1_recordForExit_9 : decode cX1_recordForExit 9 = .ok (.iconst 5, 1) := by decide +kernel
theorem dX1_recordForExit_10 : decode cX1_recordForExit 10 = .ok (.invokevirtual 84, 3) := by decide +kernel
theorem dX1_recordForExit_13 : decode cX1_recordForExit 13 = .ok (.iconst 1, 1) := by decide +kernel
theorem dX1_recordForExit_14 : decode cX1_recordForExit 14 = .ok (.iadd, 1) := by decide +kernel
theorem dX1_recordForExit_15 : decode cX1_recordForExit 15 = .ok (.istore_n 3, 1) := by decide +kernel
theorem dX1_recordForExit_16 : decode cX1_recordForExit 16 = .ok (.iconst 0, 1) := by decide +kernel
theorem dX1_recordForExit_17 : decode cX1_recordForExit 17 = .ok (.istore 4, 2) := by decide +kernel
theorem dX1_recordForExit_19 : decode cX1_recordForExit 19 = .ok (.iload 4, 2) := by decide +kernel
theorem dX1_recordForExit_21 : decode cX1_recordForExit 21 = .ok (.aload_n 0, 1) := by decide +kernel
theorem dX1_recordForExit_22 : decode cX1_recordForExit 22 = .ok (.getfield 30, 3) := by decide +kernel
theorem dX1_recordForExit_25 : decode cX1_recordForExit 25 = .ok (.invokevirtual 91, 3) := by decide +kernel
theorem dX1_recordForExit_28 : decode cX1_recordForExit 28 = .ok (.if_icmp .ge 77, 3) := by decide +kernel
theorem dX1_recordForExit_31 : decode cX1_recordForExit 31 = .ok (.aload_n 0, 1) := by decide +kernel
theorem dX1_recordForExit_32 : decode cX1_recordForExit 32 = .ok (.getfield 30, 3) := by decide +kernel
theorem dX1_recordForExit_35 : decode cX1_recordForExit 35 = .ok (.iload 4, 2) := by decide +kernel
theorem dX1_recordForExit_37 : decode cX1_recordForExit 37 = .ok (.iconst 1, 1) := by decide +kernel
theorem dX1_recordForExit_38 : decode cX1_recordForExit 38 = .ok (.invokevirtual 124, 3) := by decide +kernel
theorem dX1_recordForExit_41 : decode cX1_recordForExit 41 = .ok (.iload_n 1, 1) := by decide +kernel
theorem dX1_recordForExit_42 : decode cX1_recordForExit 42 = .ok (.isub, 1) := by decide +kernel
theorem dX1_recordForExit_43 : decode cX1_recordForExit 43 = .ok (.invokestatic 190, 3) := by decide +kernel
theorem dX1_recordForExit_46 : decode cX1_recordForExit 46 = .ok (.istore 5, 2) := by decide +kernel
theorem dX1_recordForExit_48 : decode cX1_recordForExit 48 = .ok (.aload_n 0, 1) := by decide +kernel
theorem dX1_recordForExit_49 : decode cX1_recordForExit 49 = .ok (.getfield 30, 3) := by decide +kernel
theorem dX1_recordForExit_52 : decode cX1_recordForExit 52 = .ok (.iload 4, 2) := by decide +kernel
theorem dX1_recordForExit_54 : decode cX1_recordForExit 54 = .ok (.iconst 4, 1) := by decide +kernel
theorem dX1_recordForExit_55 : decode cX1_recordForExit 55 = .ok (.invokevirtual 124, 3) := by decide +kernel
theorem dX1_recordForExit_58 : decode cX1_recordForExit 58 = .ok (.iconst 1, 1) := by decide +kernel
theorem dX1_recordForExit_59 : decode cX1_recordForExit 59 = .ok (.if_icmp .ne 20, 3) := by decide +kernel
theorem dX1_recordForExit_62 : decode cX1_recordForExit 62 = .ok (.aload_n 0, 1) := by decide +kernel
theorem dX1_recordForExit_63 : decode cX1_recordForExit 63 = .ok (.getfield 30, 3) := by decide +kernel
theorem dX1_recordForExit_66 : decode cX1_recordForExit 66 = .ok (.iload 4, 2) := by decide +kernel
theorem dX1_recordForExit_68 : decode cX1_recordForExit 68 = .ok (.iconst 5, 1) := by decide +kernel
theorem dX1_recordForExit_69 : decode cX1_recordForExit 69 = .ok (.invokevirtual 124, 3) := by decide +kernel
theorem dX1_recordForExit_72 : decode cX1_recordForExit 72 = .ok (.ifCond .ne 7, 3) := by decide +kernel
theorem dX1_recordForExit_75 : decode cX1_recordForExit 75 = .ok (.iconst 1, 1) := by decide +kernel
theorem dX1_recordForExit_76 : decode cX1_recordForExit 76 = .ok (.goto 4, 3) := by decide +kernel
theorem dX1_recordForExit_79 : decode cX1_recordForExit 79 = .ok (.iconst 0, 1) := by decide +kernel
theorem dX1_recordForExit_80 : decode cX1_recordForExit 80 = .ok (.istore 6, 2) := by decide +kernel
theorem dX1_recordForExit_82 : decode cX1_recordForExit 82 = .ok (.iload 6, 2) := by decide +kernel
theorem dX1_recordForExit_84 : decode cX1_recordForExit 84 = .ok (.ifCond .eq 15, 3) := by decide +kernel
theorem dX1_recordForExit_87 : decode cX1_recordForExit 87 = .ok (.iload 5, 2) := by decide +kernel
theorem dX1_recordForExit_89 : decode cX1_recordForExit 89 = .ok (.iload_n 3, 1) := by decide +kernel
theorem dX1_recordForExit_90 : decode cX1_recordForExit 90 = .ok (.if_icmp .ge 9, 3) := by decide +kernel
theorem dX1_recordForExit_93 : decode cX1_recordForExit 93 = .ok (.iload 4, 2) := by decide +kernel
theorem dX1_recordForExit_95 : decode cX1_recordForExit 95 = .ok (.istore_n 2, 1) := by decide +kernel
theorem dX1_recordForExit_96 : decode cX1_recordForExit 96 = .ok (.iload 5, 2) := by decide +kernel
theorem dX1_recordForExit_98 : decode cX1_recordForExit 98 = .ok (.istore_n 3, 1) := by decide +kernel
theorem dX1_recordForExit_99 : decode cX1_recordForExit 99 = .ok (.iinc 4 1, 3) := by decide +kernel
theorem dX1_recordForExit_102 : decode cX1_recordForExit 102 = .ok (.goto (-83), 3) := by decide +kernel
theorem dX1_recordForExit_105 : decode cX1_recordForExit 105 = .ok (.iload_n 2, 1) := by decide +kernel
theorem dX1_recordForExit_106 : decode cX1_recordForExit 106 = .ok (.ireturn, 1) := by decide +kernel
theorem dX2_init_0 : decode cX2_init 0 = .ok (.aload_n 0, 1) := by decide +kernel
theorem dX2_init_1 : decode cX2_init 1 = .ok (.invokespecial 3, 3) := by decide +kernel
theorem dX2_init_4 : decode cX2_init 4 = .ok (.aload_n 0, 1) := by decide +kernel
theorem dX2_init_5 : decode cX2_init 5 = .ok (.iconst 0, 1) := by decide +kernel
theorem dX2_init_6 : decode cX2_init 6 = .ok (.putfield 9, 3) := by decide +kernel
theorem dX2_init_9 : decode cX2_init 9 = .ok (.aload_n 0, 1) := by decide +kernel
theorem dX2_init_10 : decode cX2_init 10 = .ok (.iconst 1, 1) := by decide +kernel
theorem dX2_init_11 : decode cX2_init 11 = .ok (.iload_n 1, 1) := by decide +kernel
theorem dX2_init_12 : decode cX2_init 12 = .ok (.invokestatic 15, 3) := by decide +kernel
theorem dX2_init_15 : decode cX2_init 15 = .ok (.putfield 21, 3) := by decide +kernel
theorem dX2_init_18 : decode cX2_init 18 = .ok (.aload_n 0, 1) := by decide +kernel
theorem dX2_init_19 : decode cX2_init 19 = .ok (.iconst 1, 1) := by decide +kernel
theorem dX2_init_20 : decode cX2_init 20 = .ok (.iload_n 2, 1) := by decide +kernel
theorem dX2_init_21 : decode cX2_init 21 = .ok (.invokestatic 15, 3) := by decide +kernel
theorem dX2_init_24 : decode cX2_init 24 = .ok (.putfield 24, 3) := by decide +kernel
theorem dX2_init_27 : decode cX2_init 27 = .ok (.aload_n 0, 1) := by decide +kernel
theorem dX2_init_28 : decode cX2_init 28 = .ok (.aload_n 0, 1) := by decide +kernel
theorem dX2_init_29 : decode cX2_init 29 = .ok (.getfield 21, 3) := by decide +kernel
theorem dX2_init_32 : decode cX2_init 32 = .ok (.aload_n 0, 1) := by decide +kernel
theorem dX2_init_33 : decode cX2_init 33 = .ok (.getfield 24, 3) := by decide +kernel
theorem dX2_init_36 : decode cX2_init 36 = .ok (.imul, 1) := by decide +kernel
theorem dX2_init_37 : decode cX2_init 37 = .ok (.newarray .int, 2) := by decide +kernel
theorem dX2_init_39 : decode cX2_init 39 = .ok (.putfield 27, 3) := by decide +kernel
theorem dX2_init_42 : decode cX2_init 42 = .ok (.return_, 1) := by decide +kernel
theorem dX2_copyFrom_0 : decode cX2_copyFrom 0 = .ok (.aload_n 0, 1) := by decide +kernel
theorem dX2_copyFrom_1 : decode cX2_copyFrom 1 = .ok (.getfield 27, 3) := by decide +kernel
theorem dX2_copyFrom_4 : decode cX2_copyFrom 4 = .ok (.arraylength, 1) := by decide +kernel
theorem dX2_copyFrom_5 : decode cX2_copyFrom 5 = .ok (.aload_n 1, 1) := by decide +kernel
theorem dX2_copyFrom_6 : decode cX2_copyFrom 6 = .ok (.getfield 27, 3) := by decide +kernel
theorem dX2_copyFrom_9 : decode cX2_copyFrom 9 = .ok (.arraylength, 1) := by decide +kernel
theorem dX2_copyFrom_10 : decode cX2_copyFrom 10 = .ok (.if_icmp .ne 29, 3) := by decide +kernel
theorem dX2_copyFrom_13 : decode cX2_copyFrom 13 = .ok (.aload_n 1, 1) := by decide +kernel
theorem dX2_copyFrom_14 : decode cX2_copyFrom 14 = .ok (.getfield 27, 3) := by decide +kernel
theorem dX2_copyFrom_17 : decode cX2_copyFrom 17 = .ok (.iconst 0, 1) := by decide +kernel
theorem dX2_copyFrom_18 : decode cX2_copyFrom 18 = .ok (.aload_n 0, 1) := by decide +kernel
theorem dX2_copyFrom_19 : decode cX2_copyFrom 19 = .ok (.getfield 27, 3) := by decide +kernel
theorem dX2_copyFrom_22 : decode cX2_copyFrom 22 = .ok (.iconst 0, 1) := by decide +kernel
theorem dX2_copyFrom_23 : decode cX2_copyFrom 23 = .ok (.aload_n 0, 1) := by decide +kernel
theorem dX2_copyFrom_24 : decode cX2_copyFrom 24 = .ok (.getfield 27, 3) := by decide +kernel
theorem dX2_copyFrom_27 : decode cX2_copyFrom 27 = .ok (.arraylength, 1) := by decide +kernel
theorem dX2_copyFrom_28 : decode cX2_copyFrom 28 = .ok (.invokestatic 31, 3) := by decide +kernel
theorem dX2_copyFrom_31 : decode cX2_copyFrom 31 = .ok (.aload_n 0, 1) := by decide +kernel
theorem dX2_copyFrom_32 : decode cX2_copyFrom 32 = .ok (.aload_n 1, 1) := by decide +kernel
theorem dX2_copyFrom_33 : decode cX2_copyFrom 33 = .ok (.getfield 9, 3) := by decide +kernel
theorem dX2_copyFrom_36 : decode cX2_copyFrom 36 = .ok (.putfield 9, 3) := by decide +kernel
theorem dX2_copyFrom_39 : decode cX2_copyFrom 39 = .ok (.return_, 1) := by decide +kernel
theorem dX2_count_0 : decode cX2_count 0 = .ok (.aload_n 0, 1) := by decide +kernel
theorem dX2_count_1 : decode cX2_count 1 = .ok (.getfield 9, 3) := by decide +kernel
theorem dX2_count_4 : decode cX2_count 4 = .ok (.ireturn, 1) := by decide +kernel
theorem dX2_get_0 : decode cX2_get 0 = .ok (.iload_n 1, 1) := by decide +kernel
theorem dX2_get_1 : decode cX2_get 1 = .ok (.aload_n 0, 1) := by decide +kernel
theorem dX2_get_2 : decode cX2_get 2 = .ok (.getfield 21, 3) := by decide +kernel
theorem dX2_get_5 : decode cX2_get 5 = .ok (.imul, 1) := by decide +kernel
theorem dX2_get_6 : decode cX2_get 6 = .ok (.iload_n 2, 1) := by decide +kernel
theorem dX2_get_7 : decode cX2_get 7 = .ok (.iadd, 1) := by decide +kernel
theorem dX2_get_8 : decode cX2_get 8 = .ok (.istore_n 3, 1) := by decide +kernel
theorem dX2_get_9 : decode cX2_get 9 = .ok (.iload_n 3, 1) := by decide +kernel
theorem dX2_get_10 : decode cX2_get 10 = .ok (.ifCond .lt 21, 3) := by decide +kernel
theorem dX2_get_13 : decode cX2_get 13 = .ok (.iload_n 3, 1) := by decide +kernel
theorem dX2_get_14 : decode cX2_get 14 = .ok (.aload_n 0, 1) := by decide +kernel
theorem dX2_get_15 : decode cX2_get 15 = .ok (.getfield 27, 3) := by decide +kernel
theorem dX2_get_18 : decode cX2_get 18 = .ok (.arraylength, 1) := by decide +kernel
theorem dX2_get_19 : decode cX2_get 19 = .ok (.if_icmp .ge 12, 3) := by decide +kernel
theorem dX2_get_22 : decode cX2_get 22 = .ok (.aload_n 0, 1) := by decide +kernel
theorem dX2_get_23 : decode cX2_get 23 = .ok (.getfield 27, 3) := by decide +kernel
theorem dX2_get_26 : decode cX2_get 26 = .ok (.iload_n 3, 1) := by decide +kernel
theorem dX2_get_27 : decode cX2_get 27 = .ok (.iaload, 1) := by decide +kernel
theorem dX2_get_28 : decode cX2_get 28 = .ok (.goto 4, 3) := by decide +kernel
theorem dX2_get_31 : decode cX2_get 31 = .ok (.iconst 0, 1) := by decide +kernel
theorem dX2_get_32 : decode cX2_get 32 = .ok (.ireturn, 1) := by decide +kernel
theorem dX2_put_0 : decode cX2_put 0 = .ok (.iload_n 1, 1) := by decide +kernel
theorem dX2_put_1 : decode cX2_put 1 = .ok (.aload_n 0, 1) := by decide +kernel
theorem dX2_put_2 : decode cX2_put 2 = .ok (.getfield 21, 3) := by decide +kernel
theorem dX2_put_5 : decode cX2_put 5 = .ok (.imul, 1) := by decide +kernel
theorem dX2_put_6 : decode cX2_put 6 = .ok (.iload_n 2, 1) := by decide +kernel
theorem dX2_put_7 : decode cX2_put 7 = .ok (.iadd, 1) := by decide +kernel
theorem dX2_put_8 : decode cX2_put 8 = .ok (.istore 4, 2) := by decide +kernel
theorem dX2_put_10 : decode cX2_put 10 = .ok (.iload 4, 2) := by decide +kernel
theorem dX2_put_12 : decode cX2_put 12 = .ok (.ifCond .lt 21, 3) := by decide +kernel
theorem dX2_put_15 : decode cX2_put 15 = .ok (.iload 4, 2) := by decide +kernel
theorem dX2_put_17 : decode cX2_put 17 = .ok (.aload_n 0, 1) := by decide +kernel
theorem dX2_put_18 : decode cX2_put 18 = .ok (.getfield 27, 3) := by decide +kernel
theorem dX2_put_21 : decode cX2_put 21 = .ok (.arraylength, 1) := by decide +kernel
theorem dX2_put_22 : decode cX2_put 22 = .ok (.if_icmp .ge 11, 3) := by decide +kernel
theorem dX2_put_25 : decode cX2_put 25 = .ok (.aload_n 0, 1) := by decide +kernel
theorem dX2_put_26 : decode cX2_put 26 = .ok (.getfield 27, 3) := by decide +kernel
theorem dX2_put_29 : decode cX2_put 29 = .ok (.iload 4, 2) := by decide +kernel
theorem dX2_put_31 : decode cX2_put 31 = .ok (.iload_n 3, 1) := by decide +kernel
theorem dX2_put_32 : decode cX2_put 32 = .ok (.iastore, 1) := by decide +kernel
theorem dX2_put_33 : decode cX2_put 33 = .ok (.return_, 1) := by decide +kernel
set_option maxRecDepth 20000 in
theorem ggX2_addRow_X2_put : GoodIn wsX2_addRow wsX2_put := goodIn_r _ [8, 3, 9, 10, 11, 12, 13] (by decide +kernel) (by decide +kernel)
set_option maxRecDepth 20000 in
theorem gX2_addRow_X2_put : GoodIn wsX2_addRow (wsV RX2 37 RX2 yX2_put wsX2_put) := goodIn_app (goodIn_of _ (by decide +kernel)) ggX2_addRow_X2_put
theorem dX2_addRow_0 : decode cX2_addRow 0 = .ok (.aload_n 0, 1) := by decide +kernel
theorem dX2_addRow_1 : decode cX2_addRow 1 = .ok (.getfield 9, 3) := by decide +kernel
theorem dX2_addRow_4 : decode cX2_addRow 4 = .ok (.aload_n 0, 1) := by decide +kernel
theorem dX2_addRow_5 : decode cX2_addRow 5 = .ok (.getfield 24, 3) := by decide +kernel
theorem dX2_addRow_8 : decode cX2_addRow 8 = .ok (.if_icmp .lt 5, 3) := by decide +kernel
theorem dX2_addRow_11 : decode cX2_addRow 11 = .ok (.iconst (-1), 1) := by decide +kernel
theorem dX2_addRow_12 : decode cX2_addRow 12 = .ok (.ireturn, 1) := by decide +kernel
theorem dX2_addRow_13 : decode cX2_addRow 13 = .ok (.aload_n 0, 1) := by decide +kernel
theorem dX2_addRow_14 : decode cX2_addRow 14 = .ok (.getfield 9, 3) := by decide +kernel
theorem dX2_addRow_17 : decode cX2_addRow 17 = .ok (.istore_n 2, 1) := by decide +kernel
theorem dX2_addRow_18 : decode cX2_addRow 18 = .ok (.aload_n 0, 1) := by decide +kernel
theorem dX2_addRow_19 : decode cX2_addRow 19 = .ok (.dup, 1) := by decide +kernel
theorem dX2_addRow_20 : decode cX2_addRow 20 = .ok (.getfield 9, 3) := by decide +kernel
theorem dX2_addRow_23 : decode cX2_addRow 23 = .ok (.iconst 1, 1) := by decide +kernel
theorem dX2_addRow_24 : decode cX2_addRow 24 = .ok (.iadd, 1) := by decide +kernel
theorem dX2_addRow_25 : decode cX2_addRow 25 = .ok (.putfield 9, 3) := by decide +kernel
theorem dX2_addRow_28 : decode cX2_addRow 28 = .ok (.aload_n 0, 1) := by decide +kernel
theorem dX2_addRow_29 : decode cX2_addRow 29 = .ok (.iload_n 2, 1) := by decide +kernel
theorem dX2_addRow_30 : decode cX2_addRow 30 = .ok (.iconst 0, 1) := by decide +kernel
theorem dX2_addRow_31 : decode cX2_addRow 31 = .ok (.iload_n 1, 1) := by decide +kernel
theorem dX2_addRow_32 : decode cX2_addRow 32 = .ok (.invokevirtual 37, 3) := by decide +kernel
theorem dX2_addRow_35 : decode cX2_addRow 35 = .ok (.iconst 1, 1) := by decide +kernel
theorem dX2_addRow_36 : decode cX2_addRow 36 = .ok (.istore_n 3, 1) := by decide +kernel
theorem dX2_addRow_37 : decode cX2_addRow 37 = .ok (.iload_n 3, 1) := by decide +kernel
theorem dX2_addRow_38 : decode cX2_addRow 38 = .ok (.aload_n 0, 1) := by decide +kernel
theorem dX2_addRow_39 : decode cX2_addRow 39 = .ok (.getfield 21, 3) := by decide +kernel
theorem dX2_addRow_42 : decode cX2_addRow 42 = .ok (.if_icmp .ge 16, 3) := by decide +kernel
theorem dX2_addRow_45 : decode cX2_addRow 45 = .ok (.aload_n 0, 1) := by decide +kernel
theorem dX2_addRow_46 : decode cX2_addRow 46 = .ok (.iload_n 2, 1) := by decide +kernel
theorem dX2_addRow_47 : decode cX2_addRow 47 = .ok (.iload_n 3, 1) := by decide +kernel
theorem dX2_addRow_48 : decode cX2_addRow 48 = .ok (.iconst 0, 1) := by decide +kernel
theorem dX2_addRow_49 : decode cX2_addRow 49 = .ok (.invokevirtual 37, 3) := by decide +kernel
theorem dX2_addRow_52 : decode cX2_addRow 52 = .ok (.iinc 3 1, 3) := by decide +kernel
theorem dX2_addRow_55 : decode cX2_addRow 55 = .ok (.goto (-18), 3) := by decide +kernel
theorem dX2_addRow_58 : decode cX2_addRow 58 = .ok (.iload_n 2, 1) := by decide +kernel
theorem dX2_addRow_59 : decode cX2_addRow 59 = .ok (.ireturn, 1) := by decide +kernel
theorem dX2_removeRow_0 : decode cX2_removeRow 0 = .ok (.iload_n 1, 1) := by decide +kernel
theorem dX2_removeRow_1 : decode cX2_removeRow 1 = .ok (.ifCond .lt 11, 3) := by decide +kernel
theorem dX2_removeRow_4 : decode cX2_removeRow 4 = .ok (.iload_n 1, 1) := by decide +kernel
theorem dX2_removeRow_5 : decode cX2_removeRow 5 = .ok (.aload_n 0, 1) := by decide +kernel
theorem dX2_removeRow_6 : decode cX2_removeRow 6 = .ok (.getfield 9, 3) := by decide +kernel
theorem dX2_removeRow_9 : decode cX2_removeRow 9 = .ok (.if_icmp .lt 4, 3) := by decide +kernel
theorem dX2_removeRow_12 : decode cX2_removeRow 12 = .ok (.return_, 1) := by decide +kernel
theorem dX2_removeRow_13 : decode cX2_removeRow 13 = .ok (.aload_n 0, 1) := by decide +kernel
theorem dX2_removeRow_14 : decode cX2_removeRow 14 = .ok (.dup, 1) := by decide +kernel
theorem dX2_removeRow_15 : decode cX2_removeRow 15 = .ok (.getfield 9, 3) := by decide +kernel
theorem dX2_removeRow_18 : decode cX2_removeRow 18 = .ok (.iconst 1, 1) := by decide +kernel
theorem dX2_removeRow_19 : decode cX2_removeRow 19 = .ok (.isub, 1) := by decide +kernel
theorem dX2_removeRow_20 : decode cX2_removeRow 20 = .ok (.putfield 9, 3) := by decide +kernel
theorem dX2_removeRow_23 : decode cX2_removeRow 23 = .ok (.iload_n 1, 1) := by decide +kernel
theorem dX2_removeRow_24 : decode cX2_removeRow 24 = .ok (.aload_n 0, 1) := by decide +kernel
theorem dX2_removeRow_25 : decode cX2_removeRow 25 = .ok (.getfield 21, 3) := by decide +kernel
theorem dX2_removeRow_28 : decode cX2_removeRow 28 = .ok (.imul, 1) := by decide +kernel
theorem dX2_removeRow_29 : decode cX2_removeRow 29 = .ok (.istore_n 2, 1) := by decide +kernel
theorem dX2_removeRow_30 : decode cX2_removeRow 30 = .ok (.iload_n 2, 1) := by decide +kernel
theorem dX2_removeRow_31 : decode cX2_removeRow 31 = .ok (.aload_n 0, 1) := by decide +kernel
theorem dX2_removeRow_32 : decode cX2_removeRow 32 = .ok (.getfield 9, 3) := by decide +kernel
theorem dX2_removeRow_35 : decode cX2_removeRow 35 = .ok (.aload_n 0, 1) := by decide +kernel
theorem dX2_removeRow_36 : decode cX2_removeRow 36 = .ok (.getfield 21, 3) := by decide +kernel
theorem dX2_removeRow_39 : decode cX2_removeRow 39 = .ok (.imul, 1) := by decide +kernel
theorem dX2_removeRow_40 : decode cX2_removeRow 40 = .ok (.if_icmp .ge 40, 3) := by decide +kernel
theorem dX2_removeRow_43 : decode cX2_removeRow 43 = .ok (.iload_n 2, 1) := by decide +kernel
theorem dX2_removeRow_44 : decode cX2_removeRow 44 = .ok (.aload_n 0, 1) := by decide +kernel
theorem dX2_removeRow_45 : decode cX2_removeRow 45 = .ok (.getfield 21, 3) := by decide +kernel
theorem dX2_removeRow_48 : decode cX2_removeRow 48 = .ok (.iadd, 1) := by decide +kernel
theorem dX2_removeRow_49 : decode cX2_removeRow 49 = .ok (.aload_n 0, 1) := by decide +kernel
theorem dX2_removeRow_50 : decode cX2_removeRow 50 = .ok (.getfield 27, 3) := by decide +kernel
theorem dX2_removeRow_53 : decode cX2_removeRow 53 = .ok (.arraylength, 1) := by decide +kernel
theorem dX2_removeRow_54 : decode cX2_removeRow 54 = .ok (.if_icmp .ge 26, 3) := by decide +kernel
theorem dX2_removeRow_57 : decode cX2_removeRow 57 = .ok (.aload_n 0, 1) := by decide +kernel
theorem dX2_removeRow_58 : decode cX2_removeRow 58 = .ok (.getfield 27, 3) := by decide +kernel
theorem dX2_removeRow_61 : decode cX2_removeRow 61 = .ok (.iload_n 2, 1) := by decide +kernel
theorem dX2_removeRow_62 : decode cX2_removeRow 62 = .ok (.aload_n 0, 1) := by decide +kernel
theorem dX2_removeRow_63 : decode cX2_removeRow 63 = .ok (.getfield 27, 3) := by decide +kernel
theorem dX2_removeRow_66 : decode cX2_removeRow 66 = .ok (.iload_n 2, 1) := by decide +kernel
theorem dX2_removeRow_67 : decode cX2_removeRow 67 = .ok (.aload_n 0, 1) := by decide +kernel
theorem dX2_removeRow_68 : decode cX2_removeRow 68 = .ok (.getfield 21, 3) := by decide +kernel
theorem dX2_removeRow_71 : decode cX2_removeRow 71 = .ok (.iadd, 1) := by decide +kernel
theorem dX2_removeRow_72 : decode cX2_removeRow 72 = .ok (.iaload, 1) := by decide +kernel
theorem dX2_removeRow_73 : decode cX2_removeRow 73 = .ok (.iastore, 1) := by decide +kernel
theorem dX2_removeRow_74 : decode cX2_removeRow 74 = .ok (.iinc 2 1, 3) := by decide +kernel
theorem dX2_removeRow_77 : decode cX2_removeRow 77 = .ok (.goto (-47), 3) := by decide +kernel
theorem dX2_removeRow_80 : decode cX2_removeRow 80 = .ok (.return_, 1) := by decide +kernel
set_option maxRecDepth 20000 in
theorem ggX2_removeRowsOf_X2_get : GoodIn wsX2_removeRowsOf wsX2_get := goodIn_r _ [6, 7, 8, 13, 14, 15, 16] (by decide +kernel) (by decide +kernel)
set_option maxRecDepth 20000 in
theorem gX2_removeRowsOf_X2_get : GoodIn wsX2_removeRowsOf (wsV RX2 41 RX2 yX2_get wsX2_get) := goodIn_app (goodIn_of _ (by decide +kernel)) ggX2_removeRowsOf_X2_get
set_option maxRecDepth 20000 in
theorem ggX2_removeRowsOf_X2_removeRow : GoodIn wsX2_removeRowsOf wsX2_removeRow := goodIn_r _ [12, 1, 7, 8, 13, 14, 15, 16] (by decide +kernel) (by decide +kernel)
set_option maxRecDepth 20000 in
theorem gX2_removeRowsOf_X2_removeRow : GoodIn wsX2_removeRowsOf (wsV RX2 44 RX2 yX2_removeRow wsX2_removeRow) := goodIn_app (goodIn_of _ (by decide +kernel)) ggX2_removeRowsOf_X2_removeRow
theorem dX2_removeRowsOf_0 : decode cX2_removeRowsOf 0 = .ok (.aload_n 0, 1) := by decide +kernel
theorem dX2_removeRowsOf_1 : decode cX2_removeRowsOf 1 = .ok (.getfield 9, 3) := by decide +kernel
theorem dX2_removeRowsOf_4 : decode cX2_removeRowsOf 4 = .ok (.iconst 1, 1) := by decide +kernel
theorem dX2_removeRowsOf_5 : decode cX2_removeRowsOf 5 = .ok (.isub, 1) := by decide +kernel
theorem dX2_removeRowsOf_6 : decode cX2_removeRowsOf 6 = .ok (.istore_n 2, 1) := by decide +kernel
theorem dX2_removeRowsOf_7 : decode cX2_removeRowsOf 7 = .ok (.iload_n 2, 1) := by decide +kernel
theorem dX2_removeRowsOf_8 : decode cX2_removeRowsOf 8 = .ok (.ifCond .lt 24, 3) := by decide +kernel
theorem dX2_removeRowsOf_11 : decode cX2_removeRowsOf 11 = .ok (.aload_n 0, 1) := by decide +kernel
theorem dX2_removeRowsOf_12 : decode cX2_removeRowsOf 12 = .ok (.iload_n 2, 1) := by decide +kernel
theorem dX2_removeRowsOf_13 : decode cX2_removeRowsOf 13 = .ok (.iconst 0, 1) := by decide +kernel
theorem dX2_removeRowsOf_14 : decode cX2_removeRowsOf 14 = .ok (.invokevirtual 41, 3) := by decide +kernel
theorem dX2_removeRowsOf_17 : decode cX2_removeRowsOf 17 = .ok (.iload_n 1, 1) := by decide +kernel
theorem dX2_removeRowsOf_18 : decode cX2_removeRowsOf 18 = .ok (.if_icmp .ne 8, 3) := by decide +kernel
theorem dX2_removeRowsOf_21 : decode cX2_removeRowsOf 21 = .ok (.aload_n 0, 1) := by decide +kernel
theorem dX2_removeRowsOf_22 : decode cX2_removeRowsOf 22 = .ok (.iload_n 2, 1) := by decide +kernel
theorem dX2_removeRowsOf_23 : decode cX2_removeRowsOf 23 = .ok (.invokevirtual 44, 3) := by decide +kernel
theorem dX2_removeRowsOf_26 : decode cX2_removeRowsOf 26 = .ok (.iinc 2 (-1), 3) := by decide +kernel
theorem dX2_removeRowsOf_29 : decode cX2_removeRowsOf 29 = .ok (.goto (-22), 3) := by decide +kernel
theorem dX2_removeRowsOf_32 : decode cX2_removeRowsOf 32 = .ok (.return_, 1) := by decide +kernel
set_option maxRecDepth 20000 in
theorem ggX2_find_X2_get : GoodIn wsX2_find wsX2_get := goodIn_r _ [6, 7, 8, 9, 10, 11, 12] (by decide +kernel) (by decide +kernel)
set_option maxRecDepth 20000 in
theorem gX2_find_X2_get : GoodIn wsX2_find (wsV RX2 41 RX2 yX2_get wsX2_get) := goodIn_app (goodIn_of _ (by decide +kernel)) ggX2_find_X2_get
theorem dX2_find_0 : decode cX2_find 0 = .ok (.iconst 0, 1) := by decide +kernel
theorem dX2_find_1 : decode cX2_find 1 = .ok (.istore_n 2, 1) := by decide +kernel
theorem dX2_find_2 : decode cX2_find 2 = .ok (.iload_n 2, 1) := by decide +kernel
theorem dX2_find_3 : decode cX2_find 3 = .ok (.aload_n 0, 1) := by decide +kernel
theorem dX2_find_4 : decode cX2_find 4 = .ok (.getfield 9, 3) := by decide +kernel
theorem dX2_find_7 : decode cX2_find 7 = .ok (.if_icmp .ge 21, 3) := by decide +kernel
theorem dX2_find_10 : decode cX2_find 10 = .ok (.aload_n 0, 1) := by decide +kernel
theorem dX2_find_11 : decode cX2_find 11 = .ok (.iload_n 2, 1) := by decide +kernel
theorem dX2_find_12 : decode cX2_find 12 = .ok (.iconst 0, 1) := by decide +kernel
theorem dX2_find_13 : decode cX2_find 13 = .ok (.invokevirtual 41, 3) := by decide +kernel
theorem dX2_find_16 : decode cX2_find 16 = .ok (.iload_n 1, 1) := by decide +kernel
theorem dX2_find_17 : decode cX2_find 17 = .ok (.if_icmp .ne 5, 3) := by decide +kernel
theorem dX2_find_20 : decode cX2_find 20 = .ok (.iload_n 2, 1) := by decide +kernel
theorem dX2_find_21 : decode cX2_find 21 = .ok (.ireturn, 1) := by decide +kernel
theorem dX2_find_22 : decode cX2_find 22 = .ok (.iinc 2 1, 3) := by decide +kernel
theorem dX2_find_25 : decode cX2_find 25 = .ok (.goto (-23), 3) := by decide +kernel
theorem dX2_find_28 : decode cX2_find 28 = .ok (.iconst (-1), 1) := by decide +kernel
theorem dX2_find_29 : decode cX2_find 29 = .ok (.ireturn, 1) := by decide +kernel
set_option maxRecDepth 20000 in
theorem ggX2_hasBelow_X2_get : GoodIn wsX2_hasBelow wsX2_get := goodIn_r _ [6, 7, 8, 9, 10, 11, 12] (by decide +kernel) (by decide +kernel)
set_option maxRecDepth 20000 in
theorem gX2_hasBelow_X2_get : GoodIn wsX2_hasBelow (wsV RX2 41 RX2 yX2_get wsX2_get) := goodIn_app (goodIn_of _ (by decide +kernel)) ggX2_hasBelow_X2_get
theorem dX2_hasBelow_0 : decode cX2_hasBelow 0 = .ok (.iconst 0, 1) := by decide +kernel
theorem dX2_hasBelow_1 : decode cX2_hasBelow 1 = .ok (.istore_n 3, 1) := by decide +kernel
theorem dX2_hasBelow_2 : decode cX2_hasBelow 2 = .ok (.iload_n 3, 1) := by decide +kernel
theorem dX2_hasBelow_3 : decode cX2_hasBelow 3 = .ok (.aload_n 0, 1) := by decide +kernel
theorem dX2_hasBelow_4 : decode cX2_hasBelow 4 = .ok (.getfield 9, 3) := by decide +kernel
theorem dX2_hasBelow_7 : decode cX2_hasBelow 7 = .ok (.if_icmp .ge 21, 3) := by decide +kernel
theorem dX2_hasBelow_10 : decode cX2_hasBelow 10 = .ok (.aload_n 0, 1) := by decide +kernel
theorem dX2_hasBelow_11 : decode cX2_hasBelow 11 = .ok (.iload_n 3, 1) := by decide +kernel
theorem dX2_hasBelow_12 : decode cX2_hasBelow 12 = .ok (.iload_n 1, 1) := by decide +kernel
theorem dX2_hasBelow_13 : decode cX2_hasBelow 13 = .ok (.invokevirtual 41, 3) := by decide +kernel
theorem dX2_hasBelow_16 : decode cX2_hasBelow 16 = .ok (.iload_n 2, 1) := by decide +kernel
theorem dX2_hasBelow_17 : decode cX2_hasBelow 17 = .ok (.if_icmp .ge 5, 3) := by decide +kernel
theorem dX2_hasBelow_20 : decode cX2_hasBelow 20 = .ok (.iconst 1, 1) := by decide +kernel
theorem dX2_hasBelow_21 : decode cX2_hasBelow 21 = .ok (.ireturn, 1) := by decide +kernel
theorem dX2_hasBelow_22 : decode cX2_hasBelow 22 = .ok (.iinc 3 1, 3) := by decide +kernel
theorem dX2_hasBelow_25 : decode cX2_hasBelow 25 = .ok (.goto (-23), 3) := by decide +kernel
theorem dX2_hasBelow_28 : decode cX2_hasBelow 28 = .ok (.iconst 0, 1) := by decide +kernel
theorem dX2_hasBelow_29 : decode cX2_hasBelow 29 = .ok (.ireturn, 1) := by decide +kernel
set_option maxRecDepth 20000 in
theorem ggX2_increase_X2_get : GoodIn wsX2_increase wsX2_get := goodIn_r _ [6, 7, 8, 13, 14, 15, 16] (by decide +kernel) (by decide +kernel)
set_option maxRecDepth 20000 in
theorem gX2_increase_X2_get : GoodIn wsX2_increase (wsV RX2 41 RX2 yX2_get wsX2_get) := goodIn_app (goodIn_of _ (by decide +kernel)) ggX2_increase_X2_get
set_option maxRecDepth 20000 in
theorem ggX2_increase_X2_put : GoodIn wsX2_increase wsX2_put := goodIn_r _ [12, 7, 8, 13, 14, 15, 16] (by decide +kernel) (by decide +kernel)
set_option maxRecDepth 20000 in
theorem gX2_increase_X2_put : GoodIn wsX2_increase (wsV RX2 37 RX2 yX2_put wsX2_put) := goodIn_app (goodIn_of _ (by decide +kernel)) ggX2_increase_X2_put
theorem dX2_increase_0 : decode cX2_increase 0 = .ok (.iconst 0, 1) := by decide +kernel
theorem dX2_increase_1 : decode cX2_increase 1 = .ok (.istore_n 2, 1) := by decide +kernel
theorem dX2_increase_2 : decode cX2_increase 2 = .ok (.iload_n 2, 1) := by decide +kernel
theorem dX2_increase_3 : decode cX2_increase 3 = .ok (.aload_n 0, 1) := by decide +kernel
theorem dX2_increase_4 : decode cX2_increase 4 = .ok (.getfield 9, 3) := by decide +kernel
theorem dX2_increase_7 : decode cX2_increase 7 = .ok (.if_icmp .ge 23, 3) := by decide +kernel
theorem dX2_increase_10 : decode cX2_increase 10 = .ok (.aload_n 0, 1) := by decide +kernel
theorem dX2_increase_11 : decode cX2_increase 11 = .ok (.iload_n 2, 1) := by decide +kernel
theorem dX2_increase_12 : decode cX2_increase 12 = .ok (.iload_n 1, 1) := by decide +kernel
theorem dX2_increase_13 : decode cX2_increase 13 = .ok (.aload_n 0, 1) := by decide +kernel
theorem dX2_increase_14 : decode cX2_increase 14 = .ok (.iload_n 2, 1) := by decide +kernel
theorem dX2_increase_15 : decode cX2_increase 15 = .ok (.iload_n 1, 1) := by decide +kernel
theorem dX2_increase_16 : decode cX2_increase 16 = .ok (.invokevirtual 41, 3) := by decide +kernel
theorem dX2_increase_19 : decode cX2_increase 19 = .ok (.iconst 1, 1) := by decide +kernel
theorem dX2_increase_20 : decode cX2_increase 20 = .ok (.iadd, 1) := by decide +kernel
theorem dX2_increase_21 : decode cX2_increase 21 = .ok (.invokevirtual 37, 3) := by decide +kernel
theorem dX2_increase_24 : decode cX2_increase 24 = .ok (.iinc 2 1, 3) := by decide +kernel
theorem dX2_increase_27 : decode cX2_increase 27 = .ok (.goto (-25), 3) := by decide +kernel
theorem dX2_increase_30 : decode cX2_increase 30 = .ok (.return_, 1) := by decide +kernel
set_option maxRecDepth 20000 in
theorem ggX2_mixInto_X2_get : GoodIn wsX2_mixInto wsX2_get := goodIn_r _ [8, 2, 9, 10, 11, 12, 13] (by decide +kernel) (by decide +kernel)
set_option maxRecDepth 20000 in
theorem gX2_mixInto_X2_get : GoodIn wsX2_mixInto (wsV RX2 41 RX2 yX2_get wsX2_get) := goodIn_app (goodIn_of _ (by decide +kernel)) ggX2_mixInto_X2_get
theorem dX2_mixInto_0 : decode cX2_mixInto 0 = .ok (.lload_n 1, 1) := by decide +kernel
theorem dX2_mixInto_1 : decode cX2_mixInto 1 = .ok (.lstore_n 3, 1) := by decide +kernel
theorem dX2_mixInto_2 : decode cX2_mixInto 2 = .ok (.iconst 0, 1) := by decide +kernel
theorem dX2_mixInto_3 : decode cX2_mixInto 3 = .ok (.istore 5, 2) := by decide +kernel
theorem dX2_mixInto_5 : decode cX2_mixInto 5 = .ok (.iload 5, 2) := by decide +kernel
theorem dX2_mixInto_7 : decode cX2_mixInto 7 = .ok (.aload_n 0, 1) := by decide +kernel
theorem dX2_mixInto_8 : decode cX2_mixInto 8 = .ok (.getfield 9, 3) := by decide +kernel
theorem dX2_mixInto_11 : decode cX2_mixInto 11 = .ok (.if_icmp .ge 43, 3) := by decide +kernel
theorem dX2_mixInto_14 : decode cX2_mixInto 14 = .ok (.iconst 0, 1) := by decide +kernel
theorem dX2_mixInto_15 : decode cX2_mixInto 15 = .ok (.istore 6, 2) := by decide +kernel
theorem dX2_mixInto_17 : decode cX2_mixInto 17 = .ok (.iload 6, 2) := by decide +kernel
theorem dX2_mixInto_19 : decode cX2_mixInto 19 = .ok (.aload_n 0, 1) := by decide +kernel
theorem dX2_mixInto_20 : decode cX2_mixInto 20 = .ok (.getfield 21, 3) := by decide +kernel
theorem dX2_mixInto_23 : decode cX2_mixInto 23 = .ok (.if_icmp .ge 25, 3) := by decide +kernel
theorem dX2_mixInto_26 : decode cX2_mixInto 26 = .ok (.ldc2_w 48, 3) := by decide +kernel
theorem dX2_mixInto_29 : decode cX2_mixInto 29 = .ok (.lload_n 3, 1) := by decide +kernel
theorem dX2_mixInto_30 : decode cX2_mixInto 30 = .ok (.lmul, 1) := by decide +kernel
theorem dX2_mixInto_31 : decode cX2_mixInto 31 = .ok (.aload_n 0, 1) := by decide +kernel
theorem dX2_mixInto_32 : decode cX2_mixInto 32 = .ok (.iload 5, 2) := by decide +kernel
theorem dX2_mixInto_34 : decode cX2_mixInto 34 = .ok (.iload 6, 2) := by decide +kernel
theorem dX2_mixInto_36 : decode cX2_mixInto 36 = .ok (.invokevirtual 41, 3) := by decide +kernel
theorem dX2_mixInto_39 : decode cX2_mixInto 39 = .ok (.i2l, 1) := by decide +kernel
theorem dX2_mixInto_40 : decode cX2_mixInto 40 = .ok (.ladd, 1) := by decide +kernel
theorem dX2_mixInto_41 : decode cX2_mixInto 41 = .ok (.lstore_n 3, 1) := by decide +kernel
theorem dX2_mixInto_42 : decode cX2_mixInto 42 = .ok (.iinc 6 1, 3) := by decide +kernel
theorem dX2_mixInto_45 : decode cX2_mixInto 45 = .ok (.goto (-28), 3) := by decide +kernel
theorem dX2_mixInto_48 : decode cX2_mixInto 48 = .ok (.iinc 5 1, 3) := by decide +kernel
theorem dX2_mixInto_51 : decode cX2_mixInto 51 = .ok (.goto (-46), 3) := by decide +kernel
theorem dX2_mixInto_54 : decode cX2_mixInto 54 = .ok (.lload_n 3, 1) := by decide +kernel
theorem dX2_mixInto_55 : decode cX2_mixInto 55 = .ok (.lreturn, 1) := by decide +kernel
set_option maxRecDepth 20000 in
theorem ggX3_init_X1_init : GoodIn wsX3_init wsX1_init := goodIn_r _ [18, 19, 2, 3, 20, 21, 22, 23, 24, 25, 26, 27, 28, 29, 30, 31, 32, 33, 34, 35, 36, 37, 38, 39, 40, 41, 42, 43, 44, 45, 46, 47, 48, 49, 50, 51, 61, 62, 63, 64, 65, 66, 67, 68, 69, 70, 71, 72, 73, 74, 75, 76, 85, 86, 87, 88] (by decide +kernel) (by decide +kernel)
set_option maxRecDepth 20000 in
theorem gX3_init_X1_init : GoodIn wsX3_init (wsX1_init) := ggX3_init_X1_init
set_option maxRecDepth 20000 in
theorem ggX3_init_X0_init : GoodIn wsX3_init wsX0_init := goodIn_r _ [54, 55, 2, 3, 56, 57, 58, 59, 5, 6, 60, 17, 18, 19, 20, 21, 22, 23, 24, 25, 26, 27, 28, 29, 30, 31, 32, 33, 34, 35, 36, 37, 38, 39, 40, 41, 42, 43, 44, 45, 46, 47, 48, 49, 50, 51, 82, 83, 84, 61, 62, 63, 64, 65, 66, 67, 68, 69, 70, 71, 72, 73, 74, 75, 76, 85, 86, 87, 88] (by decide +kernel) (by decide +kernel)
set_option maxRecDepth 20000 in
theorem gX3_init_X0_init : GoodIn wsX3_init (wsX0_init) := ggX3_init_X0_init
theorem dX3_init_0 : decode cX3_init 0 = .ok (.aload_n 0, 1) := by decide +kernel
theorem dX3_init_1 : decode cX3_init 1 = .ok (.invokespecial 1, 3) := by decide +kernel
theorem dX3_init_4 : decode cX3_init 4 = .ok (.aload_n 0, 1) := by decide +kernel
theorem dX3_init_5 : decode cX3_init 5 = .ok (.new 7, 3) := by decide +kernel
theorem dX3_init_8 : decode cX3_init 8 = .ok (.dup, 1) := by decide +kernel
theorem dX3_init_9 : decode cX3_init 9 = .ok (.invokespecial 9, 3) := by decide +kernel
theorem dX3_init_12 : decode cX3_init 12 = .ok (.putfield 10, 3) := by decide +kernel
theorem dX3_init_15 : decode cX3_init 15 = .ok (.aload_n 0, 1) := by decide +kernel
theorem dX3_init_16 : decode cX3_init 16 = .ok (.new 7, 3) := by decide +kernel
theorem dX3_init_19 : decode cX3_init 19 = .ok (.dup, 1) := by decide +kernel
theorem dX3_init_20 : decode cX3_init 20 = .ok (.invokespecial 9, 3) := by decide +kernel
theorem dX3_init_23 : decode cX3_init 23 = .ok (.putfield 16, 3) := by decide +kernel
theorem dX3_init_26 : decode cX3_init 26 = .ok (.aload_n 0, 1) := by decide +kernel
theorem dX3_init_27 : decode cX3_init 27 = .ok (.new 19, 3) := by decide +kernel
theorem dX3_init_30 : decode cX3_init 30 = .ok (.dup, 1) := by decide +kernel
theorem dX3_init_31 : decode cX3_init 31 = .ok (.invokespecial 21, 3) := by decide +kernel
theorem dX3_init_34 : decode cX3_init 34 = .ok (.putfield 22, 3) := by decide +kernel
theorem dX3_init_37 : decode cX3_init 37 = .ok (.aload_n 0, 1) := by decide +kernel
theorem dX3_init_38 : decode cX3_init 38 = .ok (.bipush 80, 2) := by decide +kernel
theorem dX3_init_40 : decode cX3_init 40 = .ok (.newarray .byte, 2) := by decide +kernel
theorem dX3_init_42 : decode cX3_init 42 = .ok (.putfield 26, 3) := by decide +kernel
theorem dX3_init_45 : decode cX3_init 45 = .ok (.aload_n 0, 1) := by decide +kernel
theorem dX3_init_46 : decode cX3_init 46 = .ok (.iconst 0, 1) := by decide +kernel
theorem dX3_init_47 : decode cX3_init 47 = .ok (.putfield 30, 3) := by decide +kernel
theorem dX3_init_50 : decode cX3_init 50 = .ok (.return_, 1) := by decide +kernel
set_option maxRecDepth 20000 in
theorem ggX3_setPlaces_X2_count : GoodIn wsX3_setPlaces wsX2_count := goodIn_r _ [11, 12, 95, 96, 97, 98] (by decide +kernel) (by decide +kernel)
set_option maxRecDepth 20000 in
theorem gX3_setPlaces_X2_count : GoodIn wsX3_setPlaces (wsV RX3 45 RX2 yX2_count wsX2_count) := goodIn_app (goodIn_of _ (by decide +kernel)) ggX3_setPlaces_X2_count
set_option maxRecDepth 20000 in
theorem ggX3_setPlaces_X0_save : GoodIn wsX3_setPlaces wsX0_save := goodIn_r _ [17, 18, 19, 20, 16, 21, 22, 23, 24, 25, 26, 27, 28, 29, 30, 31, 32, 33, 34, 35, 36, 37, 38, 39, 40, 41, 42, 43, 44, 45, 46, 47, 48, 49, 50, 51, 52, 53, 54, 55, 56, 57, 58, 10, 59, 60, 61, 12, 62, 63, 64, 65, 99, 100, 101, 79, 80, 81, 82, 83, 84, 85, 86, 87, 88, 89, 90, 91, 92, 93, 94, 95, 96, 97, 98] (by decide +kernel) (by decide +kernel)
set_option maxRecDepth 20000 in
theorem gX3_setPlaces_X0_save : GoodIn wsX3_setPlaces (wsV RX3 59 RX0 yX0_save wsX0_save) := goodIn_app (goodIn_of _ (by decide +kernel)) ggX3_setPlaces_X0_save
set_option maxRecDepth 20000 in
theorem ggX3_setPlaces_X1_place : GoodIn wsX3_setPlaces wsX1_place := goodIn_r _ [69, 43, 79, 80, 81, 82, 83, 84, 85, 86, 87, 88, 89, 90, 91, 92, 93, 94] (by decide +kernel) (by decide +kernel)
set_option maxRecDepth 20000 in
theorem gX3_setPlaces_X1_place : GoodIn wsX3_setPlaces (wsV RX3 63 RX1 yX1_place wsX1_place) := goodIn_app (goodIn_of _ (by decide +kernel)) ggX3_setPlaces_X1_place
set_option maxRecDepth 20000 in
theorem ggX3_setPlaces_X1_putPlace : GoodIn wsX3_setPlaces wsX1_putPlace := goodIn_r _ [73, 43, 79, 80, 81, 82, 83, 84, 85, 86, 87, 88, 89, 90, 91, 92, 93, 94] (by decide +kernel) (by decide +kernel)
set_option maxRecDepth 20000 in
theorem gX3_setPlaces_X1_putPlace : GoodIn wsX3_setPlaces (wsV RX3 67 RX1 yX1_putPlace wsX1_putPlace) := goodIn_app (goodIn_of _ (by decide +kernel)) ggX3_setPlaces_X1_putPlace
theorem dX3_setPlaces_0 : decode cX3_setPlaces 0 = .ok (.iload_n 1, 1) := by decide +kernel
theorem dX3_setPlaces_1 : decode cX3_setPlaces 1 = .ok (.iload_n 2, 1) := by decide +kernel
theorem dX3_setPlaces_2 : decode cX3_setPlaces 2 = .ok (.if_icmp .ge 25, 3) := by decide +kernel
theorem dX3_setPlaces_5 : decode cX3_setPlaces 5 = .ok (.iload_n 2, 1) := by decide +kernel
theorem dX3_setPlaces_6 : decode cX3_setPlaces 6 = .ok (.iload_n 3, 1) := by decide +kernel
theorem dX3_setPlaces_7 : decode cX3_setPlaces 7 = .ok (.if_icmp .ge 20, 3) := by decide +kernel
theorem dX3_setPlaces_10 : decode cX3_setPlaces 10 = .ok (.iload_n 3, 1) := by decide +kernel
theorem dX3_setPlaces_11 : decode cX3_setPlaces 11 = .ok (.iload 4, 2) := by decide +kernel
theorem dX3_setPlaces_13 : decode cX3_setPlaces 13 = .ok (.if_icmp .ge 14, 3) := by decide +kernel
theorem dX3_setPlaces_16 : decode cX3_setPlaces 16 = .ok (.iload 4, 2) := by decide +kernel
theorem dX3_setPlaces_18 : decode cX3_setPlaces 18 = .ok (.iload 5, 2) := by decide +kernel
theorem dX3_setPlaces_20 : decode cX3_setPlaces 20 = .ok (.if_icmp .ge 7, 3) := by decide +kernel
theorem dX3_setPlaces_23 : decode cX3_setPlaces 23 = .ok (.iconst 1, 1) := by decide +kernel
theorem dX3_setPlaces_24 : decode cX3_setPlaces 24 = .ok (.goto 4, 3) := by decide +kernel
theorem dX3_setPlaces_27 : decode cX3_setPlaces 27 = .ok (.iconst 0, 1) := by decide +kernel
theorem dX3_setPlaces_28 : decode cX3_setPlaces 28 = .ok (.istore 6, 2) := by decide +kernel
theorem dX3_setPlaces_30 : decode cX3_setPlaces 30 = .ok (.iload 6, 2) := by decide +kernel
theorem dX3_setPlaces_32 : decode cX3_setPlaces 32 = .ok (.ifCond .eq 16, 3) := by decide +kernel
theorem dX3_setPlaces_35 : decode cX3_setPlaces 35 = .ok (.iload_n 1, 1) := by decide +kernel
theorem dX3_setPlaces_36 : decode cX3_setPlaces 36 = .ok (.iconst 1, 1) := by decide +kernel
theorem dX3_setPlaces_37 : decode cX3_setPlaces 37 = .ok (.if_icmp .lt 11, 3) := by decide +kernel
theorem dX3_setPlaces_40 : decode cX3_setPlaces 40 = .ok (.iload 5, 2) := by decide +kernel
theorem dX3_setPlaces_42 : decode cX3_setPlaces 42 = .ok (.sipush 1000, 3) := by decide +kernel
theorem dX3_setPlaces_45 : decode cX3_setPlaces 45 = .ok (.if_icmp .le 13, 3) := by decide +kernel
theorem dX3_setPlaces_48 : decode cX3_setPlaces 48 = .ok (.new 34, 3) := by decide +kernel
theorem dX3_setPlaces_51 : decode cX3_setPlaces 51 = .ok (.dup, 1) := by decide +kernel
theorem dX3_setPlaces_52 : decode cX3_setPlaces 52 = .ok (.ldc 36, 2) := by decide +kernel
theorem dX3_setPlaces_54 : decode cX3_setPlaces 54 = .ok (.invokespecial 38, 3) := by decide +kernel
theorem dX3_setPlaces_57 : decode cX3_setPlaces 57 = .ok (.athrow, 1) := by decide +kernel
theorem dX3_setPlaces_58 : decode cX3_setPlaces 58 = .ok (.aload_n 0, 1) := by decide +kernel
theorem dX3_setPlaces_59 : decode cX3_setPlaces 59 = .ok (.getfield 10, 3) := by decide +kernel
theorem dX3_setPlaces_62 : decode cX3_setPlaces 62 = .ok (.getfield 41, 3) := by decide +kernel
theorem dX3_setPlaces_65 : decode cX3_setPlaces 65 = .ok (.invokevirtual 45, 3) := by decide +kernel
theorem dX3_setPlaces_68 : decode cX3_setPlaces 68 = .ok (.ifCond .gt 16, 3) := by decide +kernel
theorem dX3_setPlaces_71 : decode cX3_setPlaces 71 = .ok (.aload_n 0, 1) := by decide +kernel
theorem dX3_setPlaces_72 : decode cX3_setPlaces 72 = .ok (.getfield 10, 3) := by decide +kernel
theorem dX3_setPlaces_75 : decode cX3_setPlaces 75 = .ok (.getfield 51, 3) := by decide +kernel
theorem dX3_setPlaces_78 : decode cX3_setPlaces 78 = .ok (.invokevirtual 45, 3) := by decide +kernel
theorem dX3_setPlaces_81 : decode cX3_setPlaces 81 = .ok (.ifCond .le 13, 3) := by decide +kernel
theorem dX3_setPlaces_84 : decode cX3_setPlaces 84 = .ok (.new 54, 3) := by decide +kernel
theorem dX3_setPlaces_87 : decode cX3_setPlaces 87 = .ok (.dup, 1) := by decide +kernel
theorem dX3_setPlaces_88 : decode cX3_setPlaces 88 = .ok (.ldc 56, 2) := by decide +kernel
theorem dX3_setPlaces_90 : decode cX3_setPlaces 90 = .ok (.invokespecial 58, 3) := by decide +kernel
theorem dX3_setPlaces_93 : decode cX3_setPlaces 93 = .ok (.athrow, 1) := by decide +kernel
theorem dX3_setPlaces_94 : decode cX3_setPlaces 94 = .ok (.aload_n 0, 1) := by decide +kernel
theorem dX3_setPlaces_95 : decode cX3_setPlaces 95 = .ok (.getfield 22, 3) := by decide +kernel
theorem dX3_setPlaces_98 : decode cX3_setPlaces 98 = .ok (.aload_n 0, 1) := by decide +kernel
theorem dX3_setPlaces_99 : decode cX3_setPlaces 99 = .ok (.getfield 10, 3) := by decide +kernel
theorem dX3_setPlaces_102 : decode cX3_setPlaces 102 = .ok (.invokevirtual 59, 3) := by decide +kernel
theorem dX3_setPlaces_105 : decode cX3_setPlaces 105 = .ok (.aload_n 0, 1) := by decide +kernel
theorem dX3_setPlaces_106 : decode cX3_setPlaces 106 = .ok (.getfield 10, 3) := by decide +kernel
theorem dX3_setPlaces_109 : decode cX3_setPlaces 109 = .ok (.iconst 4, 1) := by decide +kernel
theorem dX3_setPlaces_110 : decode cX3_setPlaces 110 = .ok (.invokevirtual 63, 3) := by decide +kernel
theorem dX3_setPlaces_113 : decode cX3_setPlaces 113 = .ok (.istore 7, 2) := by decide +kernel
theorem dX3_setPlaces_115 : decode cX3_setPlaces 115 = .ok (.aload_n 0, 1) := by decide +kernel
theorem dX3_setPlaces_116 : decode cX3_setPlaces 116 = .ok (.getfield 10, 3) := by decide +kernel
theorem dX3_setPlaces_119 : decode cX3_setPlaces 119 = .ok (.iconst 0, 1) := by decide +kernel
theorem dX3_setPlaces_120 : decode cX3_setPlaces 120 = .ok (.iload_n 1, 1) := by decide +kernel
theorem dX3_setPlaces_121 : decode cX3_setPlaces 121 = .ok (.invokevirtual 67, 3) := by decide +kernel
theorem dX3_setPlaces_124 : decode cX3_setPlaces 124 = .ok (.aload_n 0, 1) := by decide +kernel
theorem dX3_setPlaces_125 : decode cX3_setPlaces 125 = .ok (.getfield 10, 3) := by decide +kernel
theorem dX3_setPlaces_128 : decode cX3_setPlaces 128 = .ok (.iconst 1, 1) := by decide +kernel
theorem dX3_setPlaces_129 : decode cX3_setPlaces 129 = .ok (.iload_n 2, 1) := by decide +kernel
theorem dX3_setPlaces_130 : decode cX3_setPlaces 130 = .ok (.invokevirtual 67, 3) := by decide +kernel
theorem dX3_setPlaces_133 : decode cX3_setPlaces 133 = .ok (.aload_n 0, 1) := by decide +kernel
theorem dX3_setPlaces_134 : decode cX3_setPlaces 134 = .ok (.getfield 10, 3) := by decide +kernel
theorem dX3_setPlaces_137 : decode cX3_setPlaces 137 = .ok (.iconst 2, 1) := by decide +kernel
theorem dX3_setPlaces_138 : decode cX3_setPlaces 138 = .ok (.iload_n 3, 1) := by decide +kernel
theorem dX3_setPlaces_139 : decode cX3_setPlaces 139 = .ok (.invokevirtual 67, 3) := by decide +kernel
theorem dX3_setPlaces_142 : decode cX3_setPlaces 142 = .ok (.aload_n 0, 1) := by decide +kernel
theorem dX3_setPlaces_143 : decode cX3_setPlaces 143 = .ok (.getfield 10, 3) := by decide +kernel
theorem dX3_setPlaces_146 : decode cX3_setPlaces 146 = .ok (.iconst 3, 1) := by decide +kernel
theorem dX3_setPlaces_147 : decode cX3_setPlaces 147 = .ok (.iload 4, 2) := by decide +kernel
theorem dX3_setPlaces_149 : decode cX3_setPlaces 149 = .ok (.invokevirtual 67, 3) := by decide +kernel
theorem dX3_setPlaces_152 : decode cX3_setPlaces 152 = .ok (.aload_n 0, 1) := by decide +kernel
theorem dX3_setPlaces_153 : decode cX3_setPlaces 153 = .ok (.getfield 10, 3) := by decide +kernel
theorem dX3_setPlaces_156 : decode cX3_setPlaces 156 = .ok (.iconst 4, 1) := by decide +kernel
theorem dX3_setPlaces_157 : decode cX3_setPlaces 157 = .ok (.iload 5, 2) := by decide +kernel
theorem dX3_setPlaces_159 : decode cX3_setPlaces 159 = .ok (.invokevirtual 67, 3) := by decide +kernel
theorem dX3_setPlaces_162 : decode cX3_setPlaces 162 = .ok (.iload 7, 2) := by decide +kernel
theorem dX3_setPlaces_164 : decode cX3_setPlaces 164 = .ok (.ireturn, 1) := by decide +kernel
set_option maxRecDepth 20000 in
theorem ggX3_set_X0_save : GoodIn wsX3_set wsX0_save := goodIn_r _ [11, 12, 13, 14, 10, 15, 16, 17, 18, 19, 20, 21, 22, 23, 24, 25, 26, 27, 28, 29, 30, 31, 32, 33, 34, 35, 36, 37, 38, 39, 40, 41, 42, 43, 44, 45, 46, 47, 48, 49, 50, 51, 52, 53, 54, 55, 56, 57, 58, 59, 60, 61, 75, 76, 77, 78, 79, 80, 81, 82, 83, 84, 85, 86, 87, 88, 89, 90, 91, 92, 93, 94, 95, 96, 97] (by decide +kernel) (by decide +kernel)
set_option maxRecDepth 20000 in
theorem gX3_set_X0_save : GoodIn wsX3_set (wsV RX3 59 RX0 yX0_save wsX0_save) := goodIn_app (goodIn_of _ (by decide +kernel)) ggX3_set_X0_save
set_option maxRecDepth 20000 in
theorem ggX3_set_X1_setting : GoodIn wsX3_set wsX1_setting := goodIn_r _ [65, 28, 78, 79, 80, 81, 82, 83, 84, 85, 86, 87, 88, 89, 90, 91, 92, 93] (by decide +kernel) (by decide +kernel)
set_option maxRecDepth 20000 in
theorem gX3_set_X1_setting : GoodIn wsX3_set (wsV RX3 82 RX1 yX1_setting wsX1_setting) := goodIn_app (goodIn_of _ (by decide +kernel)) ggX3_set_X1_setting
set_option maxRecDepth 20000 in
theorem ggX3_set_X1_putSetting : GoodIn wsX3_set wsX1_putSetting := goodIn_r _ [69, 28, 78, 79, 80, 81, 82, 83, 84, 85, 86, 87, 88, 89, 90, 91, 92, 93] (by decide +kernel) (by decide +kernel)
set_option maxRecDepth 20000 in
theorem gX3_set_X1_putSetting : GoodIn wsX3_set (wsV RX3 85 RX1 yX1_putSetting wsX1_putSetting) := goodIn_app (goodIn_of _ (by decide +kernel)) ggX3_set_X1_putSetting
theorem dX3_set_0 : decode cX3_set 0 = .ok (.iload_n 1, 1) := by decide +kernel
theorem dX3_set_1 : decode cX3_set 1 = .ok (.ifCond .lt 19, 3) := by decide +kernel
theorem dX3_set_4 : decode cX3_set 4 = .ok (.iload_n 1, 1) := by decide +kernel
theorem dX3_set_5 : decode cX3_set 5 = .ok (.getstatic 71, 3) := by decide +kernel
theorem dX3_set_8 : decode cX3_set 8 = .ok (.arraylength, 1) := by decide +kernel
theorem dX3_set_9 : decode cX3_set 9 = .ok (.if_icmp .ge 11, 3) := by decide +kernel
theorem dX3_set_12 : decode cX3_set 12 = .ok (.iload_n 1, 1) := by decide +kernel
theorem dX3_set_13 : decode cX3_set 13 = .ok (.getstatic 75, 3) := by decide +kernel
theorem dX3_set_16 : decode cX3_set 16 = .ok (.arraylength, 1) := by decide +kernel
theorem dX3_set_17 : decode cX3_set 17 = .ok (.if_icmp .lt 13, 3) := by decide +kernel
theorem dX3_set_20 : decode cX3_set 20 = .ok (.new 34, 3) := by decide +kernel
theorem dX3_set_23 : decode cX3_set 23 = .ok (.dup, 1) := by decide +kernel
theorem dX3_set_24 : decode cX3_set 24 = .ok (.ldc 78, 2) := by decide +kernel
theorem dX3_set_26 : decode cX3_set 26 = .ok (.invokespecial 38, 3) := by decide +kernel
theorem dX3_set_29 : decode cX3_set 29 = .ok (.athrow, 1) := by decide +kernel
theorem dX3_set_30 : decode cX3_set 30 = .ok (.iload_n 2, 1) := by decide +kernel
theorem dX3_set_31 : decode cX3_set 31 = .ok (.getstatic 71, 3) := by decide +kernel
theorem dX3_set_34 : decode cX3_set 34 = .ok (.iload_n 1, 1) := by decide +kernel
theorem dX3_set_35 : decode cX3_set 35 = .ok (.iaload, 1) := by decide +kernel
theorem dX3_set_36 : decode cX3_set 36 = .ok (.if_icmp .lt 12, 3) := by decide +kernel
theorem dX3_set_39 : decode cX3_set 39 = .ok (.iload_n 2, 1) := by decide +kernel
theorem dX3_set_40 : decode cX3_set 40 = .ok (.getstatic 75, 3) := by decide +kernel
theorem dX3_set_43 : decode cX3_set 43 = .ok (.iload_n 1, 1) := by decide +kernel
theorem dX3_set_44 : decode cX3_set 44 = .ok (.iaload, 1) := by decide +kernel
theorem dX3_set_45 : decode cX3_set 45 = .ok (.if_icmp .le 13, 3) := by decide +kernel
theorem dX3_set_48 : decode cX3_set 48 = .ok (.new 34, 3) := by decide +kernel
theorem dX3_set_51 : decode cX3_set 51 = .ok (.dup, 1) := by decide +kernel
theorem dX3_set_52 : decode cX3_set 52 = .ok (.ldc 80, 2) := by decide +kernel
theorem dX3_set_54 : decode cX3_set 54 = .ok (.invokespecial 38, 3) := by decide +kernel
theorem dX3_set_57 : decode cX3_set 57 = .ok (.athrow, 1) := by decide +kernel
theorem dX3_set_58 : decode cX3_set 58 = .ok (.aload_n 0, 1) := by decide +kernel
theorem dX3_set_59 : decode cX3_set 59 = .ok (.getfield 22, 3) := by decide +kernel
theorem dX3_set_62 : decode cX3_set 62 = .ok (.aload_n 0, 1) := by decide +kernel
theorem dX3_set_63 : decode cX3_set 63 = .ok (.getfield 10, 3) := by decide +kernel
theorem dX3_set_66 : decode cX3_set 66 = .ok (.invokevirtual 59, 3) := by decide +kernel
theorem dX3_set_69 : decode cX3_set 69 = .ok (.aload_n 0, 1) := by decide +kernel
theorem dX3_set_70 : decode cX3_set 70 = .ok (.getfield 10, 3) := by decide +kernel
theorem dX3_set_73 : decode cX3_set 73 = .ok (.iload_n 1, 1) := by decide +kernel
theorem dX3_set_74 : decode cX3_set 74 = .ok (.invokevirtual 82, 3) := by decide +kernel
theorem dX3_set_77 : decode cX3_set 77 = .ok (.istore_n 3, 1) := by decide +kernel
theorem dX3_set_78 : decode cX3_set 78 = .ok (.aload_n 0, 1) := by decide +kernel
theorem dX3_set_79 : decode cX3_set 79 = .ok (.getfield 10, 3) := by decide +kernel
theorem dX3_set_82 : decode cX3_set 82 = .ok (.iload_n 1, 1) := by decide +kernel
theorem dX3_set_83 : decode cX3_set 83 = .ok (.iload_n 2, 1) := by decide +kernel
theorem dX3_set_84 : decode cX3_set 84 = .ok (.invokevirtual 85, 3) := by decide +kernel
theorem dX3_set_87 : decode cX3_set 87 = .ok (.iload_n 3, 1) := by decide +kernel
theorem dX3_set_88 : decode cX3_set 88 = .ok (.ireturn, 1) := by decide +kernel
set_option maxRecDepth 20000 in
theorem ggX3_value_X1_valueOf : GoodIn wsX3_value wsX1_valueOf := goodIn_r _ [8, 9, 10, 11, 12, 13, 7, 14, 15, 16, 17, 18, 19, 25, 26, 27, 28, 29, 30, 31, 32, 33, 34, 35, 36, 37, 38, 39, 40] (by decide +kernel) (by decide +kernel)
set_option maxRecDepth 20000 in
theorem gX3_value_X1_valueOf : GoodIn wsX3_value (wsV RX3 90 RX1 yX1_valueOf wsX1_valueOf) := goodIn_app (goodIn_of _ (by decide +kernel)) ggX3_value_X1_valueOf
theorem dX3_value_0 : decode cX3_value 0 = .ok (.iload_n 1, 1) := by decide +kernel
theorem dX3_value_1 : decode cX3_value 1 = .ok (.ifCond .lt 9, 3) := by decide +kernel
theorem dX3_value_4 : decode cX3_value 4 = .ok (.iload_n 1, 1) := by decide +kernel
theorem dX3_value_5 : decode cX3_value 5 = .ok (.bipush 12, 2) := by decide +kernel
theorem dX3_value_7 : decode cX3_value 7 = .ok (.if_icmp .le 13, 3) := by decide +kernel
theorem dX3_value_10 : decode cX3_value 10 = .ok (.new 34, 3) := by decide +kernel
theorem dX3_value_13 : decode cX3_value 13 = .ok (.dup, 1) := by decide +kernel
theorem dX3_value_14 : decode cX3_value 14 = .ok (.ldc 88, 2) := by decide +kernel
theorem dX3_value_16 : decode cX3_value 16 = .ok (.invokespecial 38, 3) := by decide +kernel
theorem dX3_value_19 : decode cX3_value 19 = .ok (.athrow, 1) := by decide +kernel
theorem dX3_value_20 : decode cX3_value 20 = .ok (.aload_n 0, 1) := by decide +kernel
theorem dX3_value_21 : decode cX3_value 21 = .ok (.getfield 10, 3) := by decide +kernel
theorem dX3_value_24 : decode cX3_value 24 = .ok (.iload_n 1, 1) := by decide +kernel
theorem dX3_value_25 : decode cX3_value 25 = .ok (.invokevirtual 90, 3) := by decide +kernel
theorem dX3_value_28 : decode cX3_value 28 = .ok (.ireturn, 1) := by decide +kernel
set_option maxRecDepth 20000 in
theorem ggX3_jam_X0_save : GoodIn wsX3_jam wsX0_save := goodIn_r _ [7, 8, 9, 10, 6, 11, 12, 13, 14, 15, 16, 17, 18, 19, 20, 21, 22, 23, 24, 25, 26, 27, 28, 29, 30, 31, 32, 33, 34, 35, 36, 37, 38, 39, 40, 41, 42, 43, 44, 45, 46, 47, 48, 49, 50, 51, 52, 53, 54, 55, 56, 57, 79, 80, 81, 63, 64, 65, 66, 67, 68, 69, 70, 71, 72, 73, 74, 75, 76, 77, 78, 82, 83, 84, 85] (by decide +kernel) (by decide +kernel)
set_option maxRecDepth 20000 in
theorem gX3_jam_X0_save : GoodIn wsX3_jam (wsV RX3 59 RX0 yX0_save wsX0_save) := goodIn_app (goodIn_of _ (by decide +kernel)) ggX3_jam_X0_save
theorem dX3_jam_0 : decode cX3_jam 0 = .ok (.aload_n 0, 1) := by decide +kernel
theorem dX3_jam_1 : decode cX3_jam 1 = .ok (.getfield 22, 3) := by decide +kernel
theorem dX3_jam_4 : decode cX3_jam 4 = .ok (.aload_n 0, 1) := by decide +kernel
theorem dX3_jam_5 : decode cX3_jam 5 = .ok (.getfield 10, 3) := by decide +kernel
theorem dX3_jam_8 : decode cX3_jam 8 = .ok (.invokevirtual 59, 3) := by decide +kernel
theorem dX3_jam_11 : decode cX3_jam 11 = .ok (.aload_n 0, 1) := by decide +kernel
theorem dX3_jam_12 : decode cX3_jam 12 = .ok (.getfield 10, 3) := by decide +kernel
theorem dX3_jam_15 : decode cX3_jam 15 = .ok (.getfield 93, 3) := by decide +kernel
theorem dX3_jam_18 : decode cX3_jam 18 = .ok (.istore_n 2, 1) := by decide +kernel
theorem dX3_jam_19 : decode cX3_jam 19 = .ok (.aload_n 0, 1) := by decide +kernel
theorem dX3_jam_20 : decode cX3_jam 20 = .ok (.getfield 10, 3) := by decide +kernel
theorem dX3_jam_23 : decode cX3_jam 23 = .ok (.iload_n 1, 1) := by decide +kernel
theorem dX3_jam_24 : decode cX3_jam 24 = .ok (.putfield 93, 3) := by decide +kernel
theorem dX3_jam_27 : decode cX3_jam 27 = .ok (.iload_n 2, 1) := by decide +kernel
theorem dX3_jam_28 : decode cX3_jam 28 = .ok (.ireturn, 1) := by decide +kernel
set_option maxRecDepth 20000 in
theorem ggX3_start_X0_save : GoodIn wsX3_start wsX0_save := goodIn_r _ [9, 10, 11, 12, 8, 13, 14, 15, 16, 17, 18, 19, 20, 21, 22, 23, 24, 25, 26, 27, 28, 29, 30, 31, 32, 33, 34, 35, 36, 37, 38, 39, 40, 41, 42, 43, 44, 45, 46, 47, 48, 49, 50, 51, 52, 53, 54, 55, 56, 57, 58, 59, 85, 86, 87, 69, 70, 71, 72, 73, 74, 75, 76, 77, 78, 79, 80, 81, 82, 83, 84, 88, 89, 90, 91] (by decide +kernel) (by decide +kernel)
set_option maxRecDepth 20000 in
theorem gX3_start_X0_save : GoodIn wsX3_start (wsV RX3 59 RX0 yX0_save wsX0_save) := goodIn_app (goodIn_of _ (by decide +kernel)) ggX3_start_X0_save
set_option maxRecDepth 20000 in
theorem ggX3_start_X2_count : GoodIn wsX3_start wsX2_count := goodIn_r _ [63, 55, 88, 89, 90, 91] (by decide +kernel) (by decide +kernel)
set_option maxRecDepth 20000 in
theorem gX3_start_X2_count : GoodIn wsX3_start (wsV RX3 45 RX2 yX2_count wsX2_count) := goodIn_app (goodIn_of _ (by decide +kernel)) ggX3_start_X2_count
theorem dX3_start_0 : decode cX3_start 0 = .ok (.aload_n 0, 1) := by decide +kernel
theorem dX3_start_1 : decode cX3_start 1 = .ok (.getfield 10, 3) := by decide +kernel
theorem dX3_start_4 : decode cX3_start 4 = .ok (.getfield 97, 3) := by decide +kernel
theorem dX3_start_7 : decode cX3_start 7 = .ok (.ifCond .ne 13, 3) := by decide +kernel
theorem dX3_start_10 : decode cX3_start 10 = .ok (.aload_n 0, 1) := by decide +kernel
theorem dX3_start_11 : decode cX3_start 11 = .ok (.getfield 10, 3) := by decide +kernel
theorem dX3_start_14 : decode cX3_start 14 = .ok (.getfield 100, 3) := by decide +kernel
theorem dX3_start_17 : decode cX3_start 17 = .ok (.ifCond .eq 13, 3) := by decide +kernel
theorem dX3_start_20 : decode cX3_start 20 = .ok (.new 54, 3) := by decide +kernel
theorem dX3_start_23 : decode cX3_start 23 = .ok (.dup, 1) := by decide +kernel
theorem dX3_start_24 : decode cX3_start 24 = .ok (.ldc 103, 2) := by decide +kernel
theorem dX3_start_26 : decode cX3_start 26 = .ok (.invokespecial 58, 3) := by decide +kernel
theorem dX3_start_29 : decode cX3_start 29 = .ok (.athrow, 1) := by decide +kernel
theorem dX3_start_30 : decode cX3_start 30 = .ok (.aload_n 0, 1) := by decide +kernel
theorem dX3_start_31 : decode cX3_start 31 = .ok (.getfield 22, 3) := by decide +kernel
theorem dX3_start_34 : decode cX3_start 34 = .ok (.aload_n 0, 1) := by decide +kernel
theorem dX3_start_35 : decode cX3_start 35 = .ok (.getfield 10, 3) := by decide +kernel
theorem dX3_start_38 : decode cX3_start 38 = .ok (.invokevirtual 59, 3) := by decide +kernel
theorem dX3_start_41 : decode cX3_start 41 = .ok (.aload_n 0, 1) := by decide +kernel
theorem dX3_start_42 : decode cX3_start 42 = .ok (.getfield 10, 3) := by decide +kernel
theorem dX3_start_45 : decode cX3_start 45 = .ok (.iconst 1, 1) := by decide +kernel
theorem dX3_start_46 : decode cX3_start 46 = .ok (.putfield 97, 3) := by decide +kernel
theorem dX3_start_49 : decode cX3_start 49 = .ok (.aload_n 0, 1) := by decide +kernel
theorem dX3_start_50 : decode cX3_start 50 = .ok (.getfield 10, 3) := by decide +kernel
theorem dX3_start_53 : decode cX3_start 53 = .ok (.getfield 41, 3) := by decide +kernel
theorem dX3_start_56 : decode cX3_start 56 = .ok (.invokevirtual 45, 3) := by decide +kernel
theorem dX3_start_59 : decode cX3_start 59 = .ok (.ireturn, 1) := by decide +kernel
set_option maxRecDepth 20000 in
theorem ggX3_stop_X0_save : GoodIn wsX3_stop wsX0_save := goodIn_r _ [9, 10, 11, 12, 8, 13, 14, 15, 16, 17, 18, 19, 20, 21, 22, 23, 24, 25, 26, 27, 28, 29, 30, 31, 32, 33, 34, 35, 36, 37, 38, 39, 40, 41, 42, 43, 44, 45, 46, 47, 48, 49, 50, 51, 52, 53, 54, 55, 56, 57, 58, 59, 85, 86, 87, 69, 70, 71, 72, 73, 74, 75, 76, 77, 78, 79, 80, 81, 82, 83, 84, 88, 89, 90, 91] (by decide +kernel) (by decide +kernel)
set_option maxRecDepth 20000 in
theorem gX3_stop_X0_save : GoodIn wsX3_stop (wsV RX3 59 RX0 yX0_save wsX0_save) := goodIn_app (goodIn_of _ (by decide +kernel)) ggX3_stop_X0_save
set_option maxRecDepth 20000 in
theorem ggX3_stop_X2_count : GoodIn wsX3_stop wsX2_count := goodIn_r _ [63, 55, 88, 89, 90, 91] (by decide +kernel) (by decide +kernel)
set_option maxRecDepth 20000 in
theorem gX3_stop_X2_count : GoodIn wsX3_stop (wsV RX3 45 RX2 yX2_count wsX2_count) := goodIn_app (goodIn_of _ (by decide +kernel)) ggX3_stop_X2_count
end
section
/-! my own base: worlds in segments, contracts of methods that make nothing, their calls, their ends -/
theorem kb_at {α : Type} (a b c : List α) {k : Nat} {q : α} (h : b[k]? = some q) : (a ++ (b ++ c))[a.length + k]? = some q := by
  rw [List.getElem?_append_right (Nat.le_add_right _ _), Nat.add_sub_cancel_left, List.getElem?_append_left (List.getElem?_eq_some_iff.mp h).1]
  exact h
theorem kb_l {α : Type} (a b : List α) {k : Nat} {q : α} (h : a[k]? = some q) : (a ++ b)[k]? = some q := by
  rw [List.getElem?_append_left (List.getElem?_eq_some_iff.mp h).1]
  exact h
theorem kb_r {α : Type} (a b c : List α) {k : Nat} {q : α} (h : c[k]? = some q) : (a ++ (b ++ c))[a.length + (b.length + k)]? = some q := by
  rw [List.getElem?_append_right (Nat.le_add_right _ _), Nat.add_sub_cancel_left, List.getElem?_append_right (Nat.le_add_right _ _), Nat.add_sub_cancel_left]
  exact h
theorem kb_P {D : va_G} {cl : List vw_C} {a b c : va_W} {H : Heap} (h : va_P D cl (a ++ (b ++ c)) H) : va_P D cl b H := h.by (fun k => a.length + k) (fun _ _ hk => kb_at a b c hk)
theorem kb_D {A : Nat → Prop} {a b c : va_W} (h : va_D A (a ++ (b ++ c))) : va_D A b := h.by (fun k => a.length + k) (fun _ _ hk => kb_at a b c hk) (fun _ _ _ _ e => Nat.add_left_cancel e)
theorem kb_F {A0 : Nat → Prop} {a b c : va_W} {H0 H : Heap} {locs : List Loc} (hD : va_D A0 (a ++ (b ++ c))) (hS : va_S A0 H0 H locs) (hA : ∀ q, H0.size ≤ q → A0 q) : ∀ q, va_A b H.size q → A0 q := by
  intro q h
  rcases h with ⟨k, e, h⟩ | h
  · exact (kb_D hD).2 k (q, e) h
  · exact hA q (Nat.le_trans hS.1 h)
/-- behind a call on the middle segment -/
theorem kb_join {A0 : Nat → Prop} {D : va_G} {cl : List vw_C} {a b c w1 : va_W} {H H1 : Heap} (hP : va_P D cl (a ++ (b ++ c)) H) (hD : va_D A0 (a ++ (b ++ c))) (hk : ∀ q : Nat, q < H.size → ¬ va_A b H.size q → H1[q]? = H[q]?) (hF : ∀ q, va_A b H.size q → A0 q) (hP1 : va_P D cl w1 H1) (hD1 : va_D (va_A b H.size) w1) : va_P D cl (a ++ (w1 ++ c)) H1 ∧ va_D A0 (a ++ (w1 ++ c)) := by
  have out : ∀ (i : Nat) (q : Nat × va_E), (a ++ (b ++ c))[i]? = some q → (i < a.length ∨ a.length + b.length ≤ i) → q.1 < H.size ∧ ¬ va_A b H.size q.1 := by
    intro i q hq ho
    have hl := (hP i q hq).lt
    refine ⟨hl, fun h => ?_⟩
    rcases h with ⟨k, e, h⟩ | h
    · have h1 := kb_at a b c h
      have h2 := hD.1 i (a.length + k) q (q.1, e) hq h1 rfl
      have h3 := (List.getElem?_eq_some_iff.mp h).1
      omega
    · omega
  have outA : ∀ (i : Nat) (q : Nat × va_E), a[i]? = some q → q.1 < H.size ∧ ¬ va_A b H.size q.1 := fun i q hq => out i q (kb_l a _ hq) (Or.inl (List.getElem?_eq_some_iff.mp hq).1)
  have outC : ∀ (i : Nat) (q : Nat × va_E), c[i]? = some q → q.1 < H.size ∧ ¬ va_A b H.size q.1 := fun i q hq => out _ q (kb_r a b c hq) (Or.inr (by omega))
  have hDa : va_D A0 a := hD.by id (fun k q hk => kb_l a _ hk) (fun _ _ _ _ e => e)
  have hDc : va_D A0 c := hD.by (fun k => a.length + (b.length + k)) (fun k q hk => kb_r a b c hk) (fun _ _ _ _ e => by omega)
  have hD1' : va_D A0 w1 := hD1.weaken (fun k q _ h => hF q.1 h)
  refine ⟨va_P.app (fun k q hq => ?_) (va_P.app hP1 (fun k q hq => ?_)), va_D.app hDa (va_D.app hD1' hDc (fun i j x y hx hy hxy => ?_)) (fun i j x y hx hy hxy => ?_)⟩
  · obtain ⟨g1, g2⟩ := outA k q hq
    exact (hP k q (kb_l a _ hq)).kept (hk q.1 g1 g2)
  · obtain ⟨g1, g2⟩ := outC k q hq
    exact (hP _ q (kb_r a b c hq)).kept (hk q.1 g1 g2)
  · exact (outC j y hy).2 (by rw [← hxy]; exact hD1.2 i x hx)
  · rcases Nat.lt_or_ge j w1.length with hj | hj
    · rw [List.getElem?_append_left hj] at hy
      exact (outA i x hx).2 (by rw [hxy]; exact hD1.2 j y hy)
    · rw [List.getElem?_append_right hj] at hy
      have := hD.1 i _ x y (kb_l a _ hx) (kb_r a b c hy) hxy
      have h3 := (List.getElem?_eq_some_iff.mp hx).1
      omega
/-- what an array's cell shows is its places below its length -/
theorem kb_arr {D : va_G} {cl : List vw_C} {a b : va_W} {H : Heap} {q : Nat} {cA : ClassId} {n : Nat} {f g : Nat → Int32} (hP : va_P D cl (a ++ ((q, .inl (cA, n, .inl f)) :: b)) H) (h : ∀ j, j < n → f j = g j) : va_P D cl (a ++ ((q, .inl (cA, n, .inl g)) :: b)) H := by
  intro k x hk
  rcases Nat.lt_or_ge k a.length with h1 | h1
  · exact hP k x (by rw [List.getElem?_append_left h1] at hk ⊢; exact hk)
  · rw [List.getElem?_append_right h1] at hk
    rcases Nat.eq_zero_or_pos (k - a.length) with h2 | h2
    · rw [h2] at hk
      cases hk
      have h3 := hP k (q, .inl (cA, n, .inl f)) (by rw [List.getElem?_append_right h1, h2]; rfl)
      show H[q]? = some (vp_cell cA (n, .inl g))
      rw [show H[q]? = some (vp_cell cA (n, .inl f)) from h3, vp_cell_i, vp_cell_i]
      congr 1
      simp only [arrV, Cell.mk.injEq, true_and, and_true]
      apply Array.ext (by simp)
      intro i hi _
      simp only [Array.getElem_ofFn]
      rw [h i (by simpa using hi)]
    · refine hP k x ?_
      rw [List.getElem?_append_right h1]
      obtain ⟨j, hj⟩ := Nat.exists_eq_succ_of_ne_zero (Nat.ne_of_gt h2)
      rw [hj] at hk ⊢
      exact hk
abbrev kRm (fr lo : Nat) : Room := { frames := fr, cells := 0, slots := 0, locals := lo }
/-- contracts of methods that make nothing: from the world wi to the world wo; they answer r -/
def kI (l : Launch) (D : va_G) (K : State → Prop) (y : MethodName) (ws : List Cond) (fr lo : Nat) (av : List Value) (wi : va_W) (r : Int32) (wo : va_W) : Prop :=
  ∀ sz : Nat, Met l y ws (kRm fr lo) (va_Pc av (fun U => U.heap.size = sz ∧ va_P D vwCl wi U.heap ∧ K U ∧ va_D (fun _ => True) wi)) (va_Qi (fun (r' : Int32) (_ : Unit) => r' = r) (fun _ t => va_P D vwCl wo t.heap ∧ va_D (va_A wi sz) wo) (va_A wi sz)) 0 0 (va_A wi sz)
def kJ (l : Launch) (D : va_G) (K : State → Prop) (y : MethodName) (ws : List Cond) (fr lo : Nat) (av : List Value) (wi : va_W) (r : Int64) (wo : va_W) : Prop :=
  ∀ sz : Nat, Met l y ws (kRm fr lo) (va_Pc av (fun U => U.heap.size = sz ∧ va_P D vwCl wi U.heap ∧ K U ∧ va_D (fun _ => True) wi)) (va_Ql (fun (r' : Int64) (_ : Unit) => r' = r) (fun _ t => va_P D vwCl wo t.heap ∧ va_D (va_A wi sz) wo) (va_A wi sz)) 0 0 (va_A wi sz)
def kF (l : Launch) (D : va_G) (K : State → Prop) (y : MethodName) (ws : List Cond) (fr lo : Nat) (av : List Value) (wi : va_W) (r : UInt64) (wo : va_W) : Prop :=
  ∀ sz : Nat, Met l y ws (kRm fr lo) (va_Pc av (fun U => U.heap.size = sz ∧ va_P D vwCl wi U.heap ∧ K U ∧ va_D (fun _ => True) wi)) (va_Qd (fun (r' : UInt64) (_ : Unit) => r' = r) (fun _ t => va_P D vwCl wo t.heap ∧ va_D (va_A wi sz) wo) (va_A wi sz)) 0 0 (va_A wi sz)
def kV (l : Launch) (D : va_G) (K : State → Prop) (y : MethodName) (ws : List Cond) (fr lo : Nat) (av : List Value) (wi : va_W) (wo : va_W) : Prop :=
  ∀ sz : Nat, Met l y ws (kRm fr lo) (va_Pc av (fun U => U.heap.size = sz ∧ va_P D vwCl wi U.heap ∧ K U ∧ va_D (fun _ => True) wi)) (va_Qv (fun (_ : Unit) => True) (fun _ t => va_P D vwCl wo t.heap ∧ va_D (va_A wi sz) wo) (va_A wi sz)) 0 0 (va_A wi sz)
def kR (l : Launch) (D : va_G) (K : State → Prop) (y : MethodName) (ws : List Cond) (fr lo : Nat) (av : List Value) (wi : va_W) (r : Option Nat) (wo : va_W) : Prop :=
  ∀ sz : Nat, Met l y ws (kRm fr lo) (va_Pc av (fun U => U.heap.size = sz ∧ va_P D vwCl wi U.heap ∧ K U ∧ va_D (fun _ => True) wi)) (va_Qq (fun (r' : Option Nat) (_ : Unit) => r' = r) (fun _ t => va_P D vwCl wo t.heap ∧ va_D (va_A wi sz) wo) (va_A wi sz)) 0 0 (va_A wi sz)
section KC
variable {p : Program} {l : Launch} {e : Env} {R : Room} {s : State} {m : MethodId} {args : Array Value} {below : List Frame} {meth : Method} {c : Code} {H : Heap} {locs : List Loc} {cells slots : Nat} {Q : State → Prop}
variable {D : va_G} {K : State → Prop} {y : MethodName} {ws ws' : List Cond} {fr lo : Nat} {b : Nat} {As rest st0 : List Value} {wi wo w w' : va_W} {Ts : List Cond} {own C : String} {cc bytes : ByteArray} {maxL nL index n pc : Nat} {ret : Option FieldType} {ls : Array Slot} {A0 : Nat → Prop} {H0 : Heap} {fs : List Value} {ci q0 : Nat} {T : u_T} {N : Nat} {tys : List (ClassId × FieldType)}
/-- what speaks of the tables alone -/
def kK (K : State → Prop) : Prop := ∀ u U : State, u.WarmedH U.vm → K u → K U
theorem kK_mov (hK : kK K) {u U : State} (h : U.vm = u.vm) (hu : K u) : K U := hK u U (by rw [h]; exact State.WarmedH.refl u) hu
theorem kb_pre (hKK : kK K) {av : List Value} {sz : Nat} : FrameBlind (va_Pc av (fun U => U.heap.size = sz ∧ va_P D vwCl wi U.heap ∧ K U ∧ va_D (fun _ => True) wi)) := fun a U g mk q => by
  obtain ⟨q0, q1, qP, qK, qD⟩ := q
  exact ⟨q0, q1, qP, kK_mov hKK (u := U) (U := U.calling g mk a) rfl qK, qD⟩
theorem kb_preV (hKK : kK K) (hKs : K s) (hK : va_K D vwCl tys s) (hP : va_P D vwCl wi H) (hD : va_D A0 wi) (hci : vwCl[ci]? = some (C, T, N)) (he : wi[q0]? = some (b, .inr (ci, fs))) : PreV s H C b (va_Pc (.ref b :: As) (fun U => U.heap.size = H.size ∧ va_P D vwCl wi U.heap ∧ K U ∧ va_D (fun _ => True) wi)) As :=
  ⟨kb_pre hKK, va_recv hK hP hci he, fun U hU hW => ⟨rfl, by rw [hU], by rw [hU]; exact hP, hKK s U hW hKs, hD.weaken (fun _ _ _ _ => trivial)⟩⟩
theorem kcI {r : Int32} (hKK : kK K) (hM : kI l D K y ws fr lo (.ref b :: As) wi r wo) (S : CallFix p m c cc nL s args Ts own) (cw : CallW R s args own C index y bytes maxL ret ws (kRm fr lo) 0 0 n) (hKs : K s) (hK : va_K D vwCl tys s)
    (hP : va_P D vwCl w H) (hD : va_D A0 w) (hS : va_S A0 H0 H locs) (hA : ∀ q, H0.size ≤ q → A0 q) (wl wr : va_W) (hw : w = wl ++ (wi ++ wr)) (hw' : wl ++ (wo ++ wr) = w') (hci : vwCl[ci]? = some (C, T, N)) (he : wi[q0]? = some (b, .inr (ci, fs)))
    (hst : st0 = As.reverse ++ .ref b :: rest) (hn : As.length = n) (hsize : ls.size = nL) (hrm : (rest.map fun v => v.category).sum ≤ 8) (hdg : decode cc pc = .ok (.invokevirtual index, 3)) (hc : cells ≤ R.cells ∧ slots ≤ R.slots)
    (kk : ∀ (H1 : Heap) (locs1 : List Loc), va_P D vwCl w' H1 → va_D A0 w' → va_S A0 H0 H1 locs1 → W p l e R s m args below meth c H1 locs1 cells slots Q (F0 m (pc + 3) ls (.int r :: rest))) : W p l e R s m args below meth c H locs cells slots Q (F0 m pc ls st0) := by
  subst hw; subst hw'; subst hst
  have hF := kb_F hD hS hA
  refine va_calli (va_runV (As := As) (rest := rest) S (hM H.size) cw (kb_preV hKK hKs hK (kb_P hP) (kb_D hD) hci he) rfl hn hsize rfl (lv_room hrm) hdg hc) hS (fun q _ h => hF q h) hF (fun r1 u t H1 locs1 ht hvm hr1 hB hz1 hk1 hS1 => ?_)
  obtain ⟨hP1, hD1⟩ := hB
  rw [ht] at hP1
  obtain ⟨a1, a2⟩ := kb_join hP hD hk1 hF hP1 hD1
  rw [show r1 = r from hr1]
  exact kk H1 locs1 a1 a2 hS1
theorem kcJ {r : Int64} (hKK : kK K) (hM : kJ l D K y ws fr lo (.ref b :: As) wi r wo) (S : CallFix p m c cc nL s args Ts own) (cw : CallW R s args own C index y bytes maxL ret ws (kRm fr lo) 0 0 n) (hKs : K s) (hK : va_K D vwCl tys s)
    (hP : va_P D vwCl w H) (hD : va_D A0 w) (hS : va_S A0 H0 H locs) (hA : ∀ q, H0.size ≤ q → A0 q) (wl wr : va_W) (hw : w = wl ++ (wi ++ wr)) (hw' : wl ++ (wo ++ wr) = w') (hci : vwCl[ci]? = some (C, T, N)) (he : wi[q0]? = some (b, .inr (ci, fs)))
    (hst : st0 = As.reverse ++ .ref b :: rest) (hn : As.length = n) (hsize : ls.size = nL) (hrm : (rest.map fun v => v.category).sum ≤ 8) (hdg : decode cc pc = .ok (.invokevirtual index, 3)) (hc : cells ≤ R.cells ∧ slots ≤ R.slots)
    (kk : ∀ (H1 : Heap) (locs1 : List Loc), va_P D vwCl w' H1 → va_D A0 w' → va_S A0 H0 H1 locs1 → W p l e R s m args below meth c H1 locs1 cells slots Q (F0 m (pc + 3) ls (.long r :: rest))) : W p l e R s m args below meth c H locs cells slots Q (F0 m pc ls st0) := by
  subst hw; subst hw'; subst hst
  have hF := kb_F hD hS hA
  refine va_calll (va_runV (As := As) (rest := rest) S (hM H.size) cw (kb_preV hKK hKs hK (kb_P hP) (kb_D hD) hci he) rfl hn hsize rfl (lv_room hrm) hdg hc) hS (fun q _ h => hF q h) hF (fun r1 u t H1 locs1 ht hvm hr1 hB hz1 hk1 hS1 => ?_)
  obtain ⟨hP1, hD1⟩ := hB
  rw [ht] at hP1
  obtain ⟨a1, a2⟩ := kb_join hP hD hk1 hF hP1 hD1
  rw [show r1 = r from hr1]
  exact kk H1 locs1 a1 a2 hS1
theorem kcF {r : UInt64} (hKK : kK K) (hM : kF l D K y ws fr lo (.ref b :: As) wi r wo) (S : CallFix p m c cc nL s args Ts own) (cw : CallW R s args own C index y bytes maxL ret ws (kRm fr lo) 0 0 n) (hKs : K s) (hK : va_K D vwCl tys s)
    (hP : va_P D vwCl w H) (hD : va_D A0 w) (hS : va_S A0 H0 H locs) (hA : ∀ q, H0.size ≤ q → A0 q) (wl wr : va_W) (hw : w = wl ++ (wi ++ wr)) (hw' : wl ++ (wo ++ wr) = w') (hci : vwCl[ci]? = some (C, T, N)) (he : wi[q0]? = some (b, .inr (ci, fs)))
    (hst : st0 = As.reverse ++ .ref b :: rest) (hn : As.length = n) (hsize : ls.size = nL) (hrm : (rest.map fun v => v.category).sum ≤ 8) (hdg : decode cc pc = .ok (.invokevirtual index, 3)) (hc : cells ≤ R.cells ∧ slots ≤ R.slots)
    (kk : ∀ (H1 : Heap) (locs1 : List Loc), va_P D vwCl w' H1 → va_D A0 w' → va_S A0 H0 H1 locs1 → W p l e R s m args below meth c H1 locs1 cells slots Q (F0 m (pc + 3) ls (.double r :: rest))) : W p l e R s m args below meth c H locs cells slots Q (F0 m pc ls st0) := by
  subst hw; subst hw'; subst hst
  have hF := kb_F hD hS hA
  refine va_calld (va_runV (As := As) (rest := rest) S (hM H.size) cw (kb_preV hKK hKs hK (kb_P hP) (kb_D hD) hci he) rfl hn hsize rfl (lv_room hrm) hdg hc) hS (fun q _ h => hF q h) hF (fun r1 u t H1 locs1 ht hvm hr1 hB hz1 hk1 hS1 => ?_)
  obtain ⟨hP1, hD1⟩ := hB
  rw [ht] at hP1
  obtain ⟨a1, a2⟩ := kb_join hP hD hk1 hF hP1 hD1
  rw [show r1 = r from hr1]
  exact kk H1 locs1 a1 a2 hS1
theorem kcV (hKK : kK K) (hM : kV l D K y ws fr lo (.ref b :: As) wi wo) (S : CallFix p m c cc nL s args Ts own) (cw : CallW R s args own C index y bytes maxL ret ws (kRm fr lo) 0 0 n) (hKs : K s) (hK : va_K D vwCl tys s)
    (hP : va_P D vwCl w H) (hD : va_D A0 w) (hS : va_S A0 H0 H locs) (hA : ∀ q, H0.size ≤ q → A0 q) (wl wr : va_W) (hw : w = wl ++ (wi ++ wr)) (hw' : wl ++ (wo ++ wr) = w') (hci : vwCl[ci]? = some (C, T, N)) (he : wi[q0]? = some (b, .inr (ci, fs)))
    (hst : st0 = As.reverse ++ .ref b :: rest) (hn : As.length = n) (hsize : ls.size = nL) (hrm : (rest.map fun v => v.category).sum ≤ 8) (hdg : decode cc pc = .ok (.invokevirtual index, 3)) (hc : cells ≤ R.cells ∧ slots ≤ R.slots)
    (kk : ∀ (H1 : Heap) (locs1 : List Loc), va_P D vwCl w' H1 → va_D A0 w' → va_S A0 H0 H1 locs1 → W p l e R s m args below meth c H1 locs1 cells slots Q (F0 m (pc + 3) ls rest)) : W p l e R s m args below meth c H locs cells slots Q (F0 m pc ls st0) := by
  subst hw; subst hw'; subst hst
  have hF := kb_F hD hS hA
  refine va_callv (va_runV (As := As) (rest := rest) S (hM H.size) cw (kb_preV hKK hKs hK (kb_P hP) (kb_D hD) hci he) rfl hn hsize rfl (lv_room hrm) hdg hc) hS (fun q _ h => hF q h) hF (fun u t H1 locs1 ht hvm hr1 hB hz1 hk1 hS1 => ?_)
  obtain ⟨hP1, hD1⟩ := hB
  rw [ht] at hP1
  obtain ⟨a1, a2⟩ := kb_join hP hD hk1 hF hP1 hD1
  exact kk H1 locs1 a1 a2 hS1
theorem kcR {r : Option Nat} (hKK : kK K) (hM : kR l D K y ws fr lo (.ref b :: As) wi r wo) (S : CallFix p m c cc nL s args Ts own) (cw : CallW R s args own C index y bytes maxL ret ws (kRm fr lo) 0 0 n) (hKs : K s) (hK : va_K D vwCl tys s)
    (hP : va_P D vwCl w H) (hD : va_D A0 w) (hS : va_S A0 H0 H locs) (hA : ∀ q, H0.size ≤ q → A0 q) (wl wr : va_W) (hw : w = wl ++ (wi ++ wr)) (hw' : wl ++ (wo ++ wr) = w') (hci : vwCl[ci]? = some (C, T, N)) (he : wi[q0]? = some (b, .inr (ci, fs)))
    (hst : st0 = As.reverse ++ .ref b :: rest) (hn : As.length = n) (hsize : ls.size = nL) (hrm : (rest.map fun v => v.category).sum ≤ 8) (hdg : decode cc pc = .ok (.invokevirtual index, 3)) (hc : cells ≤ R.cells ∧ slots ≤ R.slots)
    (kk : ∀ (H1 : Heap) (locs1 : List Loc), va_P D vwCl w' H1 → va_D A0 w' → va_S A0 H0 H1 locs1 → W p l e R s m args below meth c H1 locs1 cells slots Q (F0 m (pc + 3) ls (va_rf r :: rest))) : W p l e R s m args below meth c H locs cells slots Q (F0 m pc ls st0) := by
  subst hw; subst hw'; subst hst
  have hF := kb_F hD hS hA
  refine va_callq (va_runV (As := As) (rest := rest) S (hM H.size) cw (kb_preV hKK hKs hK (kb_P hP) (kb_D hD) hci he) rfl hn hsize rfl (lv_room hrm) hdg hc) hS (fun q _ h => hF q h) hF (fun r1 u t H1 locs1 ht hvm hr1 hB hz1 hk1 hS1 => ?_)
  obtain ⟨hP1, hD1⟩ := hB
  rw [ht] at hP1
  obtain ⟨a1, a2⟩ := kb_join hP hD hk1 hF hP1 hD1
  rw [show r1 = r from hr1]
  exact kk H1 locs1 a1 a2 hS1
/-- what a body owes at its end -/
abbrev kQI (D : va_G) (below : List Frame) (r : Int32) (wo : va_W) (A : Nat → Prop) (a : Array Value) (s : State) : State → Prop := MQ below (va_Qi (fun (r' : Int32) (_ : Unit) => r' = r) (fun _ t => va_P D vwCl wo t.heap ∧ va_D A wo) A) a s 0 0 A
abbrev kQJ (D : va_G) (below : List Frame) (r : Int64) (wo : va_W) (A : Nat → Prop) (a : Array Value) (s : State) : State → Prop := MQ below (va_Ql (fun (r' : Int64) (_ : Unit) => r' = r) (fun _ t => va_P D vwCl wo t.heap ∧ va_D A wo) A) a s 0 0 A
abbrev kQF (D : va_G) (below : List Frame) (r : UInt64) (wo : va_W) (A : Nat → Prop) (a : Array Value) (s : State) : State → Prop := MQ below (va_Qd (fun (r' : UInt64) (_ : Unit) => r' = r) (fun _ t => va_P D vwCl wo t.heap ∧ va_D A wo) A) a s 0 0 A
abbrev kQV (D : va_G) (below : List Frame) (wo : va_W) (A : Nat → Prop) (a : Array Value) (s : State) : State → Prop := MQ below (va_Qv (fun (_ : Unit) => True) (fun _ t => va_P D vwCl wo t.heap ∧ va_D A wo) A) a s 0 0 A
abbrev kQR (D : va_G) (below : List Frame) (r : Option Nat) (wo : va_W) (A : Nat → Prop) (a : Array Value) (s : State) : State → Prop := MQ below (va_Qq (fun (r' : Option Nat) (_ : Unit) => r' = r) (fun _ t => va_P D vwCl wo t.heap ∧ va_D A wo) A) a s 0 0 A
theorem krI {A : Nat → Prop} {r v : Int32} (hx : p.tables.exec = Jvm.exec) (hb : c.code = cc) (hr : meth.sig.returnType = some .int) (hlocks : meth.locks = false) (hP : va_P D vwCl w H) (hD : va_D A w) (hS : va_S A s.heap H locs) (hdg : decode cc pc = .ok (.ireturn, 1)) (hv : v = r) (hw : w = wo) : W p l e R s m args below meth c H locs 0 0 (kQI D below r wo A args s) (F0 m pc ls [.int v]) := by
  subst hv; subst hw
  exact W.iret hx hb hr (fun t ht hW => ⟨⟨v, (), rfl, rfl, by rw [ht]; exact hP, hD⟩, hS.F ht⟩) hS.2.2 hdg
theorem krZ {A : Nat → Prop} {r v : Int32} {ty : FieldType} (hx : p.tables.exec = Jvm.exec) (hb : c.code = cc) (hr : meth.sig.returnType = some ty) (hlocks : meth.locks = false) (hP : va_P D vwCl w H) (hD : va_D A w) (hS : va_S A s.heap H locs) (hdg : decode cc pc = .ok (.ireturn, 1)) (hn : narrow ty (.int v) = .int v) (hv : v = r) (hw : w = wo) : W p l e R s m args below meth c H locs 0 0 (kQI D below r wo A args s) (F0 m pc ls [.int v]) := by
  subst hv; subst hw
  exact W.zret hx hb hr hn (fun t ht hW => ⟨⟨v, (), rfl, rfl, by rw [ht]; exact hP, hD⟩, hS.F ht⟩) hS.2.2 hdg
theorem krJ {A : Nat → Prop} {r v : Int64} (hx : p.tables.exec = Jvm.exec) (hb : c.code = cc) (hr : meth.sig.returnType = some .long) (hlocks : meth.locks = false) (hP : va_P D vwCl w H) (hD : va_D A w) (hS : va_S A s.heap H locs) (hdg : decode cc pc = .ok (.lreturn, 1)) (hv : v = r) (hw : w = wo) : W p l e R s m args below meth c H locs 0 0 (kQJ D below r wo A args s) (F0 m pc ls [.long v]) := by
  subst hv; subst hw
  exact W.lret hx hb hr (fun t ht hW => ⟨⟨v, (), rfl, rfl, by rw [ht]; exact hP, hD⟩, hS.F ht⟩) hS.2.2 hdg
theorem krF {A : Nat → Prop} {r v : UInt64} (hx : p.tables.exec = Jvm.exec) (hb : c.code = cc) (hr : meth.sig.returnType = some .double) (hlocks : meth.locks = false) (hP : va_P D vwCl w H) (hD : va_D A w) (hS : va_S A s.heap H locs) (hdg : decode cc pc = .ok (.dreturn, 1)) (hv : v = r) (hw : w = wo) : W p l e R s m args below meth c H locs 0 0 (kQF D below r wo A args s) (F0 m pc ls [.double v]) := by
  subst hv; subst hw
  exact W.dret hx hb hr (fun t ht hW => ⟨⟨v, (), rfl, rfl, by rw [ht]; exact hP, hD⟩, hS.F ht⟩) hS.2.2 hdg
theorem krV {A : Nat → Prop} (hx : p.tables.exec = Jvm.exec) (hb : c.code = cc) (hr : meth.sig.returnType = none) (hlocks : meth.locks = false) (hP : va_P D vwCl w H) (hD : va_D A w) (hS : va_S A s.heap H locs) (hdg : decode cc pc = .ok (.return_, 1)) (hw : w = wo) : W p l e R s m args below meth c H locs 0 0 (kQV D below wo A args s) (F0 m pc ls []) := by
  subst hw
  exact W.vret hx hb hr (fun t ht hW => ⟨⟨(), rfl, trivial, by rw [ht]; exact hP, hD⟩, hS.F ht⟩) hS.2.2 hdg
theorem krR {A : Nat → Prop} {r v : Option Nat} {rt : FieldType} (hx : p.tables.exec = Jvm.exec) (hb : c.code = cc) (hr : meth.sig.returnType = some rt) (hrt : (∃ n, rt = .object n) ∨ ∃ t, rt = .array t) (hlocks : meth.locks = false) (hP : va_P D vwCl w H) (hD : va_D A w) (hS : va_S A s.heap H locs) (hdg : decode cc pc = .ok (.areturn, 1)) (hv : v = r) (hw : w = wo) : W p l e R s m args below meth c H locs 0 0 (kQR D below r wo A args s) (F0 m pc ls [va_rf v]) := by
  subst hv; subst hw
  exact W.aret hx hb hr hrt (by cases v with | none => exact Or.inl rfl | some a => exact Or.inr ⟨a, rfl⟩) (fun t ht hW => ⟨⟨v, (), rfl, rfl, by rw [ht]; exact hP, hD⟩, hS.F ht⟩) hS.2.2 hdg
/-- a contract by its body -/
theorem kI_of {r : Int32} {av : List Value} (hKt : ∀ U, K U → va_K D vwCl tys U) (hy : plainName y.cls = true) (hyc : y.cls = own) (hw : ws = Cond.code y cc maxL ret :: ws') (hav : (lg_sl av).length ≤ maxL)
    (body : ∀ (p : Program) (e : Env) (s : State) (m : MethodId) (below : List Frame) (meth : Method) (c : Code) (A : Nat → Prop) (ls : Array Slot), p.tables.exec = Jvm.exec → c.code = cc → meth.sig.returnType = ret → c.maxLocals = maxL → (∀ w ∈ ws, w.before av.toArray s = true) → s.vm.findClass own = some m.cls → meth.locks = false → K s → va_K D vwCl tys s → va_P D vwCl wi s.heap → va_D A wi → (∀ q, s.heap.size ≤ q → A q) → va_S A s.heap s.heap [] → lv_has ls maxL (lv_args 0 av) →
      W p l e (kRm fr lo) s m av.toArray below meth c s.heap [] 0 0 (kQI D below r wo A av.toArray s) (F0 m 0 ls [])) : kI l D K y ws fr lo av wi r wo := by
  intro sz
  refine Met.ofW (cc := cc) (maxL := maxL) (ret := ret) hy hw ?_
  intro p e s m args below meth c s₁ B hml hv
  obtain ⟨rfl, hsz, hP, hK, hD0⟩ := hv
  subst hsz
  have h1 : s.vm.findClass y.cls = some m.cls := findClass_of_methodNamed B.named
  rw [hyc] at h1
  rw [lg_entry_eq]
  exact body p e s m below meth c _ _ B.exec B.bytes B.returns hml (atoms_spec (ws := ws) B.pre) h1 B.notSynchronized hK (hKt s hK) hP hD0.self (fun q h => Or.inr h) va_S.rf (lv_entry av hav)
theorem kJ_of {r : Int64} {av : List Value} (hKt : ∀ U, K U → va_K D vwCl tys U) (hy : plainName y.cls = true) (hyc : y.cls = own) (hw : ws = Cond.code y cc maxL ret :: ws') (hav : (lg_sl av).length ≤ maxL)
    (body : ∀ (p : Program) (e : Env) (s : State) (m : MethodId) (below : List Frame) (meth : Method) (c : Code) (A : Nat → Prop) (ls : Array Slot), p.tables.exec = Jvm.exec → c.code = cc → meth.sig.returnType = ret → c.maxLocals = maxL → (∀ w ∈ ws, w.before av.toArray s = true) → s.vm.findClass own = some m.cls → meth.locks = false → K s → va_K D vwCl tys s → va_P D vwCl wi s.heap → va_D A wi → (∀ q, s.heap.size ≤ q → A q) → va_S A s.heap s.heap [] → lv_has ls maxL (lv_args 0 av) →
      W p l e (kRm fr lo) s m av.toArray below meth c s.heap [] 0 0 (kQJ D below r wo A av.toArray s) (F0 m 0 ls [])) : kJ l D K y ws fr lo av wi r wo := by
  intro sz
  refine Met.ofW (cc := cc) (maxL := maxL) (ret := ret) hy hw ?_
  intro p e s m args below meth c s₁ B hml hv
  obtain ⟨rfl, hsz, hP, hK, hD0⟩ := hv
  subst hsz
  have h1 : s.vm.findClass y.cls = some m.cls := findClass_of_methodNamed B.named
  rw [hyc] at h1
  rw [lg_entry_eq]
  exact body p e s m below meth c _ _ B.exec B.bytes B.returns hml (atoms_spec (ws := ws) B.pre) h1 B.notSynchronized hK (hKt s hK) hP hD0.self (fun q h => Or.inr h) va_S.rf (lv_entry av hav)
theorem kF_of {r : UInt64} {av : List Value} (hKt : ∀ U, K U → va_K D vwCl tys U) (hy : plainName y.cls = true) (hyc : y.cls = own) (hw : ws = Cond.code y cc maxL ret :: ws') (hav : (lg_sl av).length ≤ maxL)
    (body : ∀ (p : Program) (e : Env) (s : State) (m : MethodId) (below : List Frame) (meth : Method) (c : Code) (A : Nat → Prop) (ls : Array Slot), p.tables.exec = Jvm.exec → c.code = cc → meth.sig.returnType = ret → c.maxLocals = maxL → (∀ w ∈ ws, w.before av.toArray s = true) → s.vm.findClass own = some m.cls → meth.locks = false → K s → va_K D vwCl tys s → va_P D vwCl wi s.heap → va_D A wi → (∀ q, s.heap.size ≤ q → A q) → va_S A s.heap s.heap [] → lv_has ls maxL (lv_args 0 av) →
      W p l e (kRm fr lo) s m av.toArray below meth c s.heap [] 0 0 (kQF D below r wo A av.toArray s) (F0 m 0 ls [])) : kF l D K y ws fr lo av wi r wo := by
  intro sz
  refine Met.ofW (cc := cc) (maxL := maxL) (ret := ret) hy hw ?_
  intro p e s m args below meth c s₁ B hml hv
  obtain ⟨rfl, hsz, hP, hK, hD0⟩ := hv
  subst hsz
  have h1 : s.vm.findClass y.cls = some m.cls := findClass_of_methodNamed B.named
  rw [hyc] at h1
  rw [lg_entry_eq]
  exact body p e s m below meth c _ _ B.exec B.bytes B.returns hml (atoms_spec (ws := ws) B.pre) h1 B.notSynchronized hK (hKt s hK) hP hD0.self (fun q h => Or.inr h) va_S.rf (lv_entry av hav)
theorem kV_of {av : List Value} (hKt : ∀ U, K U → va_K D vwCl tys U) (hy : plainName y.cls = true) (hyc : y.cls = own) (hw : ws = Cond.code y cc maxL ret :: ws') (hav : (lg_sl av).length ≤ maxL)
    (body : ∀ (p : Program) (e : Env) (s : State) (m : MethodId) (below : List Frame) (meth : Method) (c : Code) (A : Nat → Prop) (ls : Array Slot), p.tables.exec = Jvm.exec → c.code = cc → meth.sig.returnType = ret → c.maxLocals = maxL → (∀ w ∈ ws, w.before av.toArray s = true) → s.vm.findClass own = some m.cls → meth.locks = false → K s → va_K D vwCl tys s → va_P D vwCl wi s.heap → va_D A wi → (∀ q, s.heap.size ≤ q → A q) → va_S A s.heap s.heap [] → lv_has ls maxL (lv_args 0 av) →
      W p l e (kRm fr lo) s m av.toArray below meth c s.heap [] 0 0 (kQV D below wo A av.toArray s) (F0 m 0 ls [])) : kV l D K y ws fr lo av wi wo := by
  intro sz
  refine Met.ofW (cc := cc) (maxL := maxL) (ret := ret) hy hw ?_
  intro p e s m args below meth c s₁ B hml hv
  obtain ⟨rfl, hsz, hP, hK, hD0⟩ := hv
  subst hsz
  have h1 : s.vm.findClass y.cls = some m.cls := findClass_of_methodNamed B.named
  rw [hyc] at h1
  rw [lg_entry_eq]
  exact body p e s m below meth c _ _ B.exec B.bytes B.returns hml (atoms_spec (ws := ws) B.pre) h1 B.notSynchronized hK (hKt s hK) hP hD0.self (fun q h => Or.inr h) va_S.rf (lv_entry av hav)
theorem kR_of {r : Option Nat} {av : List Value} (hKt : ∀ U, K U → va_K D vwCl tys U) (hy : plainName y.cls = true) (hyc : y.cls = own) (hw : ws = Cond.code y cc maxL ret :: ws') (hav : (lg_sl av).length ≤ maxL)
    (body : ∀ (p : Program) (e : Env) (s : State) (m : MethodId) (below : List Frame) (meth : Method) (c : Code) (A : Nat → Prop) (ls : Array Slot), p.tables.exec = Jvm.exec → c.code = cc → meth.sig.returnType = ret → c.maxLocals = maxL → (∀ w ∈ ws, w.before av.toArray s = true) → s.vm.findClass own = some m.cls → meth.locks = false → K s → va_K D vwCl tys s → va_P D vwCl wi s.heap → va_D A wi → (∀ q, s.heap.size ≤ q → A q) → va_S A s.heap s.heap [] → lv_has ls maxL (lv_args 0 av) →
      W p l e (kRm fr lo) s m av.toArray below meth c s.heap [] 0 0 (kQR D below r wo A av.toArray s) (F0 m 0 ls [])) : kR l D K y ws fr lo av wi r wo := by
  intro sz
  refine Met.ofW (cc := cc) (maxL := maxL) (ret := ret) hy hw ?_
  intro p e s m args below meth c s₁ B hml hv
  obtain ⟨rfl, hsz, hP, hK, hD0⟩ := hv
  subst hsz
  have h1 : s.vm.findClass y.cls = some m.cls := findClass_of_methodNamed B.named
  rw [hyc] at h1
  rw [lg_entry_eq]
  exact body p e s m below meth c _ _ B.exec B.bytes B.returns hml (atoms_spec (ws := ws) B.pre) h1 B.notSynchronized hK (hKt s hK) hP hD0.self (fun q h => Or.inr h) va_S.rf (lv_entry av hav)
end KC
end
section
/-! worlds of the station and of the model, small words of the walks -/
def bnd {α β : Type} (a : α) (f : α → β) : β := f a
def kfu : Nat := 5000
/-- an int that is a boolean -/
def kbo (x : Int32) : Prop := x = 0 ∨ x = 1
theorem kbo_n {x : Int32} (h : kbo x) : narrow .boolean (.int x) = .int x := by rcases h with rfl | rfl <;> decide
theorem kbo_f {x : Int32} (h : kbo x) : fits .boolean (.int x) = true := by rcases h with rfl | rfl <;> decide
theorem kin_of {x : Int32} {n : Nat} (h1 : ¬ x < 0) (h2 : ¬ nI n ≤ x) (hn : n < 2147483648) : vp_in x n := by
  rcases pk_ix x hn with h | h | ⟨j, hj, rfl⟩
  · exact absurd h h1
  · exact absurd h h2
  · exact vp_in_nI hj hn
theorem kin_lit {j n : Nat} (h : j < n) (hn : n < 2147483648) : vp_in (nI j) n := vp_in_nI h hn
theorem ksw_out4 {x : Int32} (h0 : ¬ x = 0) (h1 : ¬ x = 1) (h2 : ¬ x = 2) (h3 : ¬ x = 3) : x.toInt < 0 ∨ 3 < x.toInt := by
  have a0 := lv_neT (a := 0) h0 rfl
  have a1 := lv_neT (a := 1) h1 rfl
  have a2 := lv_neT (a := 2) h2 rfl
  have a3 := lv_neT (a := 3) h3 rfl
  omega
theorem ksw_out6 {x : Int32} (h0 : ¬ x = 0) (h1 : ¬ x = 1) (h2 : ¬ x = 2) (h3 : ¬ x = 3) (h4 : ¬ x = 4) (h5 : ¬ x = 5) : x.toInt < 0 ∨ 5 < x.toInt := by
  have a0 := lv_neT (a := 0) h0 rfl
  have a1 := lv_neT (a := 1) h1 rfl
  have a2 := lv_neT (a := 2) h2 rfl
  have a3 := lv_neT (a := 3) h3 rfl
  have a4 := lv_neT (a := 4) h4 rfl
  have a5 := lv_neT (a := 5) h5 rfl
  omega
theorem ksw_out7 {x : Int32} (h0 : ¬ x = 0) (h1 : ¬ x = 1) (h2 : ¬ x = 2) (h3 : ¬ x = 3) (h4 : ¬ x = 4) (h5 : ¬ x = 5) (h6 : ¬ x = 6) : x.toInt < 0 ∨ 6 < x.toInt := by
  have a0 := lv_neT (a := 0) h0 rfl
  have a1 := lv_neT (a := 1) h1 rfl
  have a2 := lv_neT (a := 2) h2 rfl
  have a3 := lv_neT (a := 3) h3 rfl
  have a4 := lv_neT (a := 4) h4 rfl
  have a5 := lv_neT (a := 5) h5 rfl
  have a6 := lv_neT (a := 6) h6 rfl
  omega
theorem kw_self (w : va_W) : w = [] ++ (w ++ []) := by simp
theorem kw_nil (w : va_W) : w = [] ++ ([] ++ w) := rfl
/-- a state of the belt: S 0 settings, 1 places, 2 counters, 3: tick, running, alarm, jammed, rejects, diverted, watched, outcome, then the rows of the five tables; 4 to 8 their cells -/
abbrev St : Type := Nat → Nat → Int32
abbrev Tb : Type := Int32 × (Nat → Int32)
def sset (S : St) (k i : Nat) (v : Int32) : St := va_up S k (upd (S k) i v)
def stT (S : St) (j : Nat) : Tb := (S 3 (8 + j), S (4 + j))
def stP (S : St) (j : Nat) (T : Tb) : St := va_up (sset S 3 (8 + j) T.1) (4 + j) T.2
abbrev kty (cI cB cS cJ : ClassId) : List (ClassId × FieldType) := [(cI, .int), (cB, .byte), (cS, .object RX1), (cJ, .long)]
def tbW (cI : ClassId) (q c : Nat) (w rm : Int32) (n : Nat) (T : Tb) : va_W := [(q, .inr (2, [.int w, .int rm, .ref c, .int T.1])), (c, .inl (cI, n, .inl T.2))]
def stW (cI : ClassId) (ad : Nat → Nat) (S : St) : va_W :=
  [(ad 0, .inr (1, [.ref (ad 1), .ref (ad 2), .ref (ad 3), .ref (ad 4), .ref (ad 6), .ref (ad 8), .ref (ad 10), .ref (ad 12), .int (S 3 0), .int (S 3 1), .int (S 3 2), .int (S 3 3), .int (S 3 4), .int (S 3 5), .int (S 3 6), .int (S 3 7)])),
   (ad 1, .inl (cI, 7, .inl (S 0))), (ad 2, .inl (cI, 5, .inl (S 1))), (ad 3, .inl (cI, 18, .inl (S 2))),
   (ad 4, .inr (2, [.int 4, .int 20, .ref (ad 5), .int (S 3 8)])), (ad 5, .inl (cI, 80, .inl (S 4))),
   (ad 6, .inr (2, [.int 6, .int 35, .ref (ad 7), .int (S 3 9)])), (ad 7, .inl (cI, 210, .inl (S 5))),
   (ad 8, .inr (2, [.int 4, .int 200, .ref (ad 9), .int (S 3 10)])), (ad 9, .inl (cI, 800, .inl (S 6))),
   (ad 10, .inr (2, [.int 1, .int 50, .ref (ad 11), .int (S 3 11)])), (ad 11, .inl (cI, 50, .inl (S 7))),
   (ad 12, .inr (2, [.int 1, .int 101, .ref (ad 13), .int (S 3 12)])), (ad 13, .inl (cI, 101, .inl (S 8)))]
theorem st_tb0 (cI : ClassId) (ad : Nat → Nat) (S : St) : stW cI ad S = (stW cI ad S).take 4 ++ (tbW cI (ad 4) (ad 5) 4 20 80 (stT S 0) ++ (stW cI ad S).drop 6) := rfl
theorem st_tb0' (cI : ClassId) (ad : Nat → Nat) (S : St) (T : Tb) : (stW cI ad S).take 4 ++ (tbW cI (ad 4) (ad 5) 4 20 80 T ++ (stW cI ad S).drop 6) = stW cI ad (stP S 0 T) := rfl
theorem st_tb1 (cI : ClassId) (ad : Nat → Nat) (S : St) : stW cI ad S = (stW cI ad S).take 6 ++ (tbW cI (ad 6) (ad 7) 6 35 210 (stT S 1) ++ (stW cI ad S).drop 8) := rfl
theorem st_tb1' (cI : ClassId) (ad : Nat → Nat) (S : St) (T : Tb) : (stW cI ad S).take 6 ++ (tbW cI (ad 6) (ad 7) 6 35 210 T ++ (stW cI ad S).drop 8) = stW cI ad (stP S 1 T) := rfl
theorem st_tb2 (cI : ClassId) (ad : Nat → Nat) (S : St) : stW cI ad S = (stW cI ad S).take 8 ++ (tbW cI (ad 8) (ad 9) 4 200 800 (stT S 2) ++ (stW cI ad S).drop 10) := rfl
theorem st_tb2' (cI : ClassId) (ad : Nat → Nat) (S : St) (T : Tb) : (stW cI ad S).take 8 ++ (tbW cI (ad 8) (ad 9) 4 200 800 T ++ (stW cI ad S).drop 10) = stW cI ad (stP S 2 T) := rfl
theorem st_tb3 (cI : ClassId) (ad : Nat → Nat) (S : St) : stW cI ad S = (stW cI ad S).take 10 ++ (tbW cI (ad 10) (ad 11) 1 50 50 (stT S 3) ++ (stW cI ad S).drop 12) := rfl
theorem st_tb3' (cI : ClassId) (ad : Nat → Nat) (S : St) (T : Tb) : (stW cI ad S).take 10 ++ (tbW cI (ad 10) (ad 11) 1 50 50 T ++ (stW cI ad S).drop 12) = stW cI ad (stP S 3 T) := rfl
theorem st_tb4 (cI : ClassId) (ad : Nat → Nat) (S : St) : stW cI ad S = (stW cI ad S).take 12 ++ (tbW cI (ad 12) (ad 13) 1 101 101 (stT S 4) ++ (stW cI ad S).drop 14) := rfl
theorem st_tb4' (cI : ClassId) (ad : Nat → Nat) (S : St) (T : Tb) : (stW cI ad S).take 12 ++ (tbW cI (ad 12) (ad 13) 1 101 101 T ++ (stW cI ad S).drop 14) = stW cI ad (stP S 4 T) := rfl
/-- the model: its object and the row now -/
def mnW (cI : ClassId) (am : Nat → Nat) (sv rf ln : Int32) (hs : Int64) (g : Nat → Int32) : va_W := [(am 0, .inr (4, [.ref (am 1), .ref (am 2), .ref (am 3), .int sv, .int rf, .ref (am 4), .int ln, .long hs])), (am 1, .inl (cI, 1203, .inl g))]
/-- the whole model: M.1 0 now, 1 past, 2 aside, 3 text, 4: saved, refusal, length; M.2 the hash -/
abbrev Md : Type := (Nat → Nat → Int32) × Int64
def mdW (cI : ClassId) (am : Nat → Nat) (M : Md) : va_W := [(am 0, .inr (4, [.ref (am 1), .ref (am 2), .ref (am 3), .int (M.1 4 0), .int (M.1 4 1), .ref (am 4), .int (M.1 4 2), .long M.2])), (am 1, .inl (cI, 1203, .inl (M.1 0))), (am 2, .inl (cI, 4812, .inl (M.1 1))), (am 3, .inl (cI, 1203, .inl (M.1 2))), (am 4, .inl (cI, 80, .inl (M.1 3)))]
theorem md_mn (cI : ClassId) (am : Nat → Nat) (M : Md) : mdW cI am M = [] ++ (mnW cI am (M.1 4 0) (M.1 4 1) (M.1 4 2) M.2 (M.1 0) ++ (mdW cI am M).drop 2) := rfl
theorem md_mn' (cI : ClassId) (am : Nat → Nat) (M : Md) (g : Nat → Int32) : [] ++ (mnW cI am (M.1 4 0) (M.1 4 1) (M.1 4 2) M.2 g ++ (mdW cI am M).drop 2) = mdW cI am (va_up M.1 0 g, M.2) := rfl
/-- the nest mates' fields that LabelStation's own code reads and writes -/
def kN (U : State) : Prop := va_Nw (.fieldLinkNest RX3 41 RX1 "items" "LLabelStation$Table;" RX3) U ∧ va_Nw (.fieldLinkNest RX3 51 RX1 "records" "LLabelStation$Table;" RX3) U ∧ va_Nw (.fieldLinkNest RX3 93 RX1 "jammed" "Z" RX3) U ∧ va_Nw (.fieldLinkNest RX3 97 RX1 "running" "Z" RX3) U ∧ va_Nw (.fieldLinkNest RX3 100 RX1 "alarm" "I" RX3) U ∧ va_Nw (.fieldLinkNest RX3 151 RX1 "tick" "I" RX3) U ∧ va_Nw (.fieldLinkNest RX3 173 RX1 "diverted" "I" RX3) U ∧ va_Nw (.fieldLinkNest RX3 190 RX1 "outcome" "I" RX3) U
/-- what a walk knows of the tables, whatever it is -/
def kE (D : va_G) (cI cB cS cJ : ClassId) (K : State → Prop) : Prop := kK K ∧ ∀ U, K U → va_K D vwCl (kty cI cB cS cJ) U ∧ kN U
section KD
variable {p : Program} {l : Launch} {e : Env} {R : Room} {s : State} {m : MethodId} {args : Array Value} {below : List Frame} {meth : Method} {c : Code} {H : Heap} {locs : List Loc} {cells slots : Nat} {Q : State → Prop}
variable {D : va_G} {K : State → Prop} {y : MethodName} {ws ws' : List Cond} {fr lo : Nat} {As rest st0 : List Value} {wi wo w w' : va_W} {Ts : List Cond} {own : String} {cc bytes : ByteArray} {maxL nL index n pc : Nat} {ret : Option FieldType} {ls : Array Slot} {A0 A : Nat → Prop} {H0 : Heap} {cl : List vw_C} {tys : List (ClassId × FieldType)} {a : Nat}
/-- the top of the stack, said otherwise -/
theorem kw_top {v v' : Value} (h : v' = v) (k : W p l e R s m args below meth c H locs cells slots Q (F0 m pc ls (v :: rest))) : W p l e R s m args below meth c H locs cells slots Q (F0 m pc ls (v' :: rest)) := h ▸ k
theorem kcsI {r : Int32} (hKK : kK K) (hM : kI l D K y ws fr lo As wi r wo) (S : CallFix p m c cc nL s args Ts own) (cw : CallB R s args own index y bytes maxL ret ws (kRm fr lo) 0 0 n ∧ (Cond.static y).before args s = true) (hKs : K s)
    (hP : va_P D vwCl w H) (hD : va_D A0 w) (hS : va_S A0 H0 H locs) (hA : ∀ q, H0.size ≤ q → A0 q) (wl wr : va_W) (hw : w = wl ++ (wi ++ wr)) (hw' : wl ++ (wo ++ wr) = w')
    (hst : st0 = As.reverse ++ rest) (hn : As.length = n) (hsize : ls.size = nL) (hrm : (rest.map fun v => v.category).sum ≤ 8) (hdg : decode cc pc = .ok (.invokestatic index, 3)) (hc : cells ≤ R.cells ∧ slots ≤ R.slots)
    (kk : ∀ (H1 : Heap) (locs1 : List Loc), va_P D vwCl w' H1 → va_D A0 w' → va_S A0 H0 H1 locs1 → W p l e R s m args below meth c H1 locs1 cells slots Q (F0 m (pc + 3) ls (.int r :: rest))) : W p l e R s m args below meth c H locs cells slots Q (F0 m pc ls st0) := by
  subst hw; subst hw'; subst hst
  have hF := kb_F hD hS hA
  refine va_calli (va_runS (As := As) (rest := rest) S (hM H.size) cw ⟨kb_pre hKK, fun U hU hW => ⟨rfl, by rw [hU], by rw [hU]; exact kb_P hP, hKK s U hW hKs, (kb_D hD).weaken (fun _ _ _ _ => trivial)⟩⟩ rfl hn hsize rfl (lv_room hrm) hdg hc) hS (fun q _ h => hF q h) hF (fun r1 u t H1 locs1 ht hvm hr1 hB hz1 hk1 hS1 => ?_)
  obtain ⟨hP1, hD1⟩ := hB
  rw [ht] at hP1
  obtain ⟨a1, a2⟩ := kb_join hP hD hk1 hF hP1 hD1
  rw [show r1 = r from hr1]
  exact kk H1 locs1 a1 a2 hS1
/-- System.arraycopy of a whole row of ints -/
theorem kcopy (hexec : p.tables.exec = Jvm.exec) (hb : c.code = cc) (hml : c.maxLocals = ls.size) (hown : s.vm.findClass own = some m.cls) (hlink : (Cond.methodLink own index arraycopyName).before args s = true) (hnat : (Cond.native arraycopyName).before args s = true) (hstat : (Cond.static arraycopyName).before args s = true) (hini : (Cond.initialized "java/lang/System").before args s = true)
    (hK : va_K D cl tys s) (hP : va_P D cl w H) (hD : va_D A w) (hS : va_S A H0 H locs) (q0 q1 : Nat) {a0 : Nat} {cI : ClassId} {N : Nat} {f g : Nat → Int32} (ha0 : w[q0]? = some (a0, .inl (cI, N, .inl f))) (ha1 : w[q1]? = some (a, .inl (cI, N, .inl g))) (ht0 : tys[0]? = some (cI, .int)) (hN : N < 2147483648)
    (hframes : 1 ≤ R.frames) (hlocals : (rest.map fun v => v.category).sum + (nativeFrameWords "java/lang/System" "arraycopy" 5 + 11) ≤ R.locals) (hdg : decode cc pc = .ok (.invokestatic index, 3))
    (kk : ∀ (H1 : Heap) (locs1 : List Loc), va_P D cl (w.set q1 (a, .inl (cI, N, .inl (va_cpy f g 0 0 N)))) H1 → va_D A (w.set q1 (a, .inl (cI, N, .inl (va_cpy f g 0 0 N)))) → va_S A H0 H1 locs1 → W p l e R s m args below meth c H1 locs1 cells slots Q (F0 m (pc + 3) ls rest)) : W p l e R s m args below meth c H locs cells slots Q (F0 m pc ls (.int (nI N) :: .int 0 :: .ref a :: .int 0 :: .ref a0 :: rest)) := by
  have h0 : (0 : Int32).toNatClampNeg = 0 := rfl
  have h1 : (nI N).toNatClampNeg = N := nI_clamp hN
  refine va_copyi hexec hb hml hown hlink hnat hstat hini hK hP hD hS q0 q1 0 0 ha0 ha1 ht0 ht0 rfl (by decide) (by decide) (nI_pos hN) (by rw [h0, h1]; omega) (by rw [h0, h1]; omega) (fun i _ => rfl) hframes hlocals hdg (fun H1 locs1 a1 a2 a3 => ?_)
  rw [h0, h1] at a1 a2
  exact kk H1 locs1 a1 a2 a3
end KD
end
section
/-! the tables: printed by my own program (gen.py) out of the listing -/
theorem hdX2_count : yX2_count.cls = RX2 ∧ yX2_count.cls ≠ "java/lang/invoke/MethodHandle" ∧ yX2_count.cls ≠ "java/lang/invoke/VarHandle" ∧ (parseMethodDescriptor yX2_count.desc).map (fun d => d.parameters.length) = some 0 := by decide +kernel
def fx2_count (w rm : Int32) (n : Nat) (T : Tb) : Int32 := T.1
set_option maxHeartbeats 4000000 in
set_option maxRecDepth 100000 in
theorem cx2_count {l : Launch} {D : va_G} {cI cB cS cJ : ClassId} {K : State → Prop} (E : kE D cI cB cS cJ K) (q c : Nat) (w rm : Int32) (n : Nat) (hn : n < 2147483648) (T : Tb) : kI l D K yX2_count wsX2_count 0 0 [.ref q] (tbW cI q c w rm n T) (fx2_count w rm n T) (tbW cI q c w rm n T) := by
  refine kI_of (own := RX2) (cc := cX2_count) (maxL := 1) (tys := kty cI cB cS cJ) (fun U h => (E.2 U h).1) (by decide) rfl rfl (by decide) ?_
  intro p e s m below meth c A ls hx hb hr hml hts hown hlk hKs hK hP hD hA hS hl
  have hl : lv_has ls 1 [(0, .ref q)] := hl
  have hX : CallFix p m c cX2_count 1 s _ wsX2_count RX2 := ⟨hx, hb, hml, hown, hts⟩
  have hinX2 : ∀ w ∈ wsX20, w ∈ wsX2_count := fun w h => List.mem_cons_of_mem _ (List.mem_append_right _ h)
  have q1 := hts (.fieldLink RX2 9 "LabelStation$Table" "rows" "I") (List.mem_of_getElem? (i := 1) rfl)
  generalize hR : fx2_count w rm n T = R
  rw [fx2_count] at hR
  refine lv_aload_n hx hb dX2_count_0 rfl (lv_at hl 0 rfl) ?_
  refine va_get (D := D) (ci := 2) (v := .int T.1) (C := RX2) (T := TX2) (N := 4) hx hb hts hinX2 hown hK hP 0 rfl rfl 3 (by decide) q1 (fun _ h9 => h9) rfl dX2_count_1 ?_
  subst hR
  exact krI hx hb hr hlk hP hD hS dX2_count_4 rfl rfl

theorem hdX2_get : yX2_get.cls = RX2 ∧ yX2_get.cls ≠ "java/lang/invoke/MethodHandle" ∧ yX2_get.cls ≠ "java/lang/invoke/VarHandle" ∧ (parseMethodDescriptor yX2_get.desc).map (fun d => d.parameters.length) = some 2 := by decide +kernel
def fx2_get (w rm : Int32) (n : Nat) (T : Tb) (x1 : Int32) (x2 : Int32) : Int32 := (if ((x1 * w) + x2) < 0 then 0 else (if (nI n) ≤ ((x1 * w) + x2) then 0 else T.2 ((x1 * w) + x2).toNatClampNeg))
set_option maxHeartbeats 4000000 in
set_option maxRecDepth 100000 in
theorem cx2_get {l : Launch} {D : va_G} {cI cB cS cJ : ClassId} {K : State → Prop} (E : kE D cI cB cS cJ K) (q c : Nat) (w rm : Int32) (n : Nat) (hn : n < 2147483648) (T : Tb) (x1 : Int32) (x2 : Int32) : kI l D K yX2_get wsX2_get 0 0 [.ref q, .int x1, .int x2] (tbW cI q c w rm n T) (fx2_get w rm n T x1 x2) (tbW cI q c w rm n T) := by
  refine kI_of (own := RX2) (cc := cX2_get) (maxL := 4) (tys := kty cI cB cS cJ) (fun U h => (E.2 U h).1) (by decide) rfl rfl (by decide) ?_
  intro p e s m below meth c A ls hx hb hr hml hts hown hlk hKs hK hP hD hA hS hl
  have hl : lv_has ls 4 [(0, .ref q), (1, .int x1), (2, .int x2)] := hl
  have hX : CallFix p m c cX2_get 4 s _ wsX2_get RX2 := ⟨hx, hb, hml, hown, hts⟩
  have hinX2 : ∀ w ∈ wsX20, w ∈ wsX2_get := fun w h => List.mem_cons_of_mem _ (List.mem_append_right _ h)
  have q1 := hts (.fieldLink RX2 21 "LabelStation$Table" "width" "I") (List.mem_of_getElem? (i := 1) rfl)
  have q2 := hts (.fieldLink RX2 27 "LabelStation$Table" "cells" "[I") (List.mem_of_getElem? (i := 2) rfl)
  generalize hR : fx2_get w rm n T x1 x2 = R
  rw [fx2_get] at hR
  refine lv_iload_n hx hb dX2_get_0 rfl (lv_at hl 1 rfl) ?_
  refine lv_aload_n hx hb dX2_get_1 rfl (lv_at hl 0 rfl) ?_
  refine va_get (D := D) (ci := 2) (v := .int w) (C := RX2) (T := TX2) (N := 4) hx hb hts hinX2 hown hK hP 0 rfl rfl 0 (by decide) q1 (fun _ h9 => h9) rfl dX2_get_2 ?_
  refine lv_imul hx hb dX2_get_5 ?_
  refine lv_iload_n hx hb dX2_get_6 rfl (lv_at hl 2 rfl) ?_
  refine lv_iadd hx hb dX2_get_7 ?_
  refine lv_istore_n (lv' := [(3, .int ((x1 * w) + x2)), (0, .ref q), (1, .int x1), (2, .int x2)]) hx hb dX2_get_8 rfl hl (by decide) rfl (fun ls hl => ?_)
  refine lv_iload_n hx hb dX2_get_9 rfl (lv_at hl 0 rfl) ?_
  refine lv_if_lt (tgt := 31) hx hb dX2_get_10 (by decide) (fun c1 => ?_) (fun c1 => ?_)
  · rw [if_pos c1] at hR
    refine lv_iconst (v := 0) hx hb dX2_get_31 (by decide) ?_
    subst hR
    exact krI hx hb hr hlk hP hD hS dX2_get_32 rfl rfl
  · rw [if_neg c1] at hR
    refine lv_iload_n hx hb dX2_get_13 rfl (lv_at hl 0 rfl) ?_
    refine lv_aload_n hx hb dX2_get_14 rfl (lv_at hl 1 rfl) ?_
    refine va_get (D := D) (ci := 2) (v := .ref c) (C := RX2) (T := TX2) (N := 4) hx hb hts hinX2 hown hK hP 0 rfl rfl 2 (by decide) q2 (fun _ h9 => h9) rfl dX2_get_15 ?_
    refine va_alen (v := nI n) hx hb hK hP 1 0 rfl rfl rfl dX2_get_18 ?_
    refine lv_icmp_ge (tgt := 31) hx hb dX2_get_19 (by decide) (fun c2 => ?_) (fun c2 => ?_)
    · rw [if_pos c2] at hR
      refine lv_iconst (v := 0) hx hb dX2_get_31 (by decide) ?_
      subst hR
      exact krI hx hb hr hlk hP hD hS dX2_get_32 rfl rfl
    · rw [if_neg c2] at hR
      refine lv_aload_n hx hb dX2_get_22 rfl (lv_at hl 1 rfl) ?_
      refine va_get (D := D) (ci := 2) (v := .ref c) (C := RX2) (T := TX2) (N := 4) hx hb hts hinX2 hown hK hP 0 rfl rfl 2 (by decide) q2 (fun _ h9 => h9) rfl dX2_get_23 ?_
      refine lv_iload_n hx hb dX2_get_26 rfl (lv_at hl 0 rfl) ?_
      refine va_iald hx hb hK hP 1 0 rfl rfl (kin_of c1 c2 hn) dX2_get_27 ?_
      refine lv_goto (tgt := 32) hx hb dX2_get_28 (by decide) ?_
      subst hR
      exact krI hx hb hr hlk hP hD hS dX2_get_32 rfl rfl

theorem hdX2_put : yX2_put.cls = RX2 ∧ yX2_put.cls ≠ "java/lang/invoke/MethodHandle" ∧ yX2_put.cls ≠ "java/lang/invoke/VarHandle" ∧ (parseMethodDescriptor yX2_put.desc).map (fun d => d.parameters.length) = some 3 := by decide +kernel
def fx2_put (w rm : Int32) (n : Nat) (T : Tb) (x1 : Int32) (x2 : Int32) (x3 : Int32) : Tb := (if ((x1 * w) + x2) < 0 then T else (if (nI n) ≤ ((x1 * w) + x2) then T else (T.1, upd T.2 ((x1 * w) + x2).toNatClampNeg x3)))
set_option maxHeartbeats 4000000 in
set_option maxRecDepth 100000 in
theorem cx2_put {l : Launch} {D : va_G} {cI cB cS cJ : ClassId} {K : State → Prop} (E : kE D cI cB cS cJ K) (q c : Nat) (w rm : Int32) (n : Nat) (hn : n < 2147483648) (T : Tb) (x1 : Int32) (x2 : Int32) (x3 : Int32) : kV l D K yX2_put wsX2_put 0 0 [.ref q, .int x1, .int x2, .int x3] (tbW cI q c w rm n T)  (tbW cI q c w rm n (fx2_put w rm n T x1 x2 x3)) := by
  refine kV_of (own := RX2) (cc := cX2_put) (maxL := 5) (tys := kty cI cB cS cJ) (fun U h => (E.2 U h).1) (by decide) rfl rfl (by decide) ?_
  intro p e s m below meth c A ls hx hb hr hml hts hown hlk hKs hK hP hD hA hS hl
  have hl : lv_has ls 5 [(0, .ref q), (1, .int x1), (2, .int x2), (3, .int x3)] := hl
  have hX : CallFix p m c cX2_put 5 s _ wsX2_put RX2 := ⟨hx, hb, hml, hown, hts⟩
  have hinX2 : ∀ w ∈ wsX20, w ∈ wsX2_put := fun w h => List.mem_cons_of_mem _ (List.mem_append_right _ h)
  have q1 := hts (.fieldLink RX2 21 "LabelStation$Table" "width" "I") (List.mem_of_getElem? (i := 1) rfl)
  have q2 := hts (.fieldLink RX2 27 "LabelStation$Table" "cells" "[I") (List.mem_of_getElem? (i := 2) rfl)
  generalize hR : fx2_put w rm n T x1 x2 x3 = R
  rw [fx2_put] at hR
  refine lv_iload_n hx hb dX2_put_0 rfl (lv_at hl 1 rfl) ?_
  refine lv_aload_n hx hb dX2_put_1 rfl (lv_at hl 0 rfl) ?_
  refine va_get (D := D) (ci := 2) (v := .int w) (C := RX2) (T := TX2) (N := 4) hx hb hts hinX2 hown hK hP 0 rfl rfl 0 (by decide) q1 (fun _ h9 => h9) rfl dX2_put_2 ?_
  refine lv_imul hx hb dX2_put_5 ?_
  refine lv_iload_n hx hb dX2_put_6 rfl (lv_at hl 2 rfl) ?_
  refine lv_iadd hx hb dX2_put_7 ?_
  refine lv_istore (lv' := [(4, .int ((x1 * w) + x2)), (0, .ref q), (1, .int x1), (2, .int x2), (3, .int x3)]) hx hb dX2_put_8 hl (by decide) rfl (fun ls hl => ?_)
  refine lv_iload hx hb dX2_put_10 (lv_at hl 0 rfl) ?_
  refine lv_if_lt (tgt := 33) hx hb dX2_put_12 (by decide) (fun c1 => ?_) (fun c1 => ?_)
  · rw [if_pos c1] at hR
    subst hR
    exact krV hx hb hr hlk hP hD hS dX2_put_33 rfl
  · rw [if_neg c1] at hR
    refine lv_iload hx hb dX2_put_15 (lv_at hl 0 rfl) ?_
    refine lv_aload_n hx hb dX2_put_17 rfl (lv_at hl 1 rfl) ?_
    refine va_get (D := D) (ci := 2) (v := .ref c) (C := RX2) (T := TX2) (N := 4) hx hb hts hinX2 hown hK hP 0 rfl rfl 2 (by decide) q2 (fun _ h9 => h9) rfl dX2_put_18 ?_
    refine va_alen (v := nI n) hx hb hK hP 1 0 rfl rfl rfl dX2_put_21 ?_
    refine lv_icmp_ge (tgt := 33) hx hb dX2_put_22 (by decide) (fun c2 => ?_) (fun c2 => ?_)
    · rw [if_pos c2] at hR
      subst hR
      exact krV hx hb hr hlk hP hD hS dX2_put_33 rfl
    · rw [if_neg c2] at hR
      refine lv_aload_n hx hb dX2_put_25 rfl (lv_at hl 1 rfl) ?_
      refine va_get (D := D) (ci := 2) (v := .ref c) (C := RX2) (T := TX2) (N := 4) hx hb hts hinX2 hown hK hP 0 rfl rfl 2 (by decide) q2 (fun _ h9 => h9) rfl dX2_put_26 ?_
      refine lv_iload hx hb dX2_put_29 (lv_at hl 0 rfl) ?_
      refine lv_iload_n hx hb dX2_put_31 rfl (lv_at hl 4 rfl) ?_
      refine va_iast hx hb hK hP hD hS 1 0 rfl rfl (kin_of c1 c2 hn) dX2_put_32 (fun H locs hP hD hS => ?_)
      have hP : va_P D vwCl (tbW cI q c w rm n (T.1, upd T.2 ((x1 * w) + x2).toNatClampNeg x3)) H := hP
      have hD : va_D A (tbW cI q c w rm n (T.1, upd T.2 ((x1 * w) + x2).toNatClampNeg x3)) := hD
      subst hR
      exact krV hx hb hr hlk hP hD hS dX2_put_33 rfl

theorem hdX2_find : yX2_find.cls = RX2 ∧ yX2_find.cls ≠ "java/lang/invoke/MethodHandle" ∧ yX2_find.cls ≠ "java/lang/invoke/VarHandle" ∧ (parseMethodDescriptor yX2_find.desc).map (fun d => d.parameters.length) = some 1 := by decide +kernel
def fx2_find_L2 (w rm : Int32) (n : Nat) : Nat → Int32 → Int32 → Int32
  | 0, _, _ => 0
  | n2 + 1, y1, y2 => (if T.1 ≤ y2 then (-1) else (if (fx2_get w rm n T y2 0) = y1 then y2 else fx2_find_L2 w rm n n2 y1 (y2 + 1)))
def sx2_find_L2 (w rm : Int32) (n : Nat) : Nat → Int32 → Int32 → Prop
  | 0, _, _ => False
  | n2 + 1, y1, y2 => (if T.1 ≤ y2 then True else (if (fx2_get w rm n T y2 0) = y1 then True else sx2_find_L2 w rm n n2 y1 (y2 + 1)))
def fx2_find (w rm : Int32) (n : Nat) (T : Tb) (x1 : Int32) : Int32 := fx2_find_L2 w rm n kfu x1 0
def sx2_find (w rm : Int32) (n : Nat) (T : Tb) (x1 : Int32) : Prop := sx2_find_L2 w rm n kfu x1 0
set_option maxHeartbeats 4000000 in
set_option maxRecDepth 100000 in
theorem cx2_find {l : Launch} {D : va_G} {cI cB cS cJ : ClassId} {K : State → Prop} (E : kE D cI cB cS cJ K) (q c : Nat) (w rm : Int32) (n : Nat) (hn : n < 2147483648) (T : Tb) (x1 : Int32) (hF : sx2_find w rm n T x1) : kI l D K yX2_find wsX2_find 1 23 [.ref q, .int x1] (tbW cI q c w rm n T) (fx2_find w rm n T x1) (tbW cI q c w rm n T) := by
  refine kI_of (own := RX2) (cc := cX2_find) (maxL := 3) (tys := kty cI cB cS cJ) (fun U h => (E.2 U h).1) (by decide) rfl rfl (by decide) ?_
  intro p e s m below meth c A ls hx hb hr hml hts hown hlk hKs hK hP hD hA hS hl
  have hl : lv_has ls 3 [(0, .ref q), (1, .int x1)] := hl
  have hX : CallFix p m c cX2_find 3 s _ wsX2_find RX2 := ⟨hx, hb, hml, hown, hts⟩
  have hinX2 : ∀ w ∈ wsX20, w ∈ wsX2_find := fun w h => List.mem_cons_of_mem _ (List.mem_append_right _ h)
  have q1 := hts (.fieldLink RX2 9 "LabelStation$Table" "rows" "I") (List.mem_of_getElem? (i := 1) rfl)
  generalize hR : fx2_find w rm n T x1 = R
  rw [fx2_find] at hR
  rw [sx2_find] at hF
  refine lv_iconst (v := 0) hx hb dX2_find_0 (by decide) ?_
  refine lv_istore_n (lv' := [(2, .int 0), (0, .ref q), (1, .int x1)]) hx hb dX2_find_1 rfl hl (by decide) rfl (fun ls hl => ?_)
  have loop2 : ∀ (n2 : Nat) (y1 : Int32) (y2 : Int32) (H : Heap) (locs : List Loc) (ls : Array Slot), fx2_find_L2 w rm n n2 y1 y2 = R → sx2_find_L2 w rm n n2 y1 y2 → va_P D vwCl (tbW cI q c w rm n T) H → va_D A (tbW cI q c w rm n T) → va_S A s.heap H locs → lv_has ls 3 [(1, .int y1), (2, .int y2), (0, .ref q)] → W p l e (kRm 1 23) s m ([.ref q, .int x1] : List Value).toArray below meth c H locs 0 0 (kQI D below R (tbW cI q c w rm n T) A ([.ref q, .int x1] : List Value).toArray s) (F0 m 2 ls []) := by
    intro n2
    induction n2 with
    | zero => intro y1 y2 H locs ls hR hF; exact hF.elim
    | succ n2 ih2 =>
      intro y1 y2 H locs ls hR hF hP hD hS hl
      rw [fx2_find_L2] at hR
      rw [sx2_find_L2] at hF
      refine lv_iload_n hx hb dX2_find_2 rfl (lv_at hl 1 rfl) ?_
      refine lv_aload_n hx hb dX2_find_3 rfl (lv_at hl 2 rfl) ?_
      refine va_get (D := D) (ci := 2) (v := .int T.1) (C := RX2) (T := TX2) (N := 4) hx hb hts hinX2 hown hK hP 0 rfl rfl 3 (by decide) q1 (fun _ h9 => h9) rfl dX2_find_4 ?_
      refine lv_icmp_ge (tgt := 28) hx hb dX2_find_7 (by decide) (fun c1 => ?_) (fun c1 => ?_)
      · rw [if_pos c1] at hR hF
        refine lv_iconst (v := (-1)) hx hb dX2_find_28 (by decide) ?_
        subst hR
        exact krI hx hb hr hlk hP hD hS dX2_find_29 rfl rfl
      · rw [if_neg c1] at hR hF
        refine lv_aload_n hx hb dX2_find_10 rfl (lv_at hl 2 rfl) ?_
        refine lv_iload_n hx hb dX2_find_11 rfl (lv_at hl 1 rfl) ?_
        refine lv_iconst (v := 0) hx hb dX2_find_12 (by decide) ?_
        refine kcI (ci := 2) (q0 := 0) (As := [.int y2, .int 0]) (rest := []) E.1 (cx2_get E q c w rm n hn T y2 0) hX (cwV 2 hts gX2_find_X2_get rfl rfl rfl hdX2_get ⟨Nat.le_of_ble_eq_true rfl, Nat.le_of_ble_eq_true rfl⟩) hKs hK hP hD hS hA _ _ (kw_self _) (kw_self _).symm rfl rfl rfl rfl hl.1 (Nat.le_of_ble_eq_true rfl) dX2_find_13 ⟨Nat.zero_le _, Nat.zero_le _⟩ (fun H locs hP hD hS => ?_)
        refine lv_iload_n hx hb dX2_find_16 rfl (lv_at hl 0 rfl) ?_
        refine lv_icmp_ne (tgt := 22) hx hb dX2_find_17 (by decide) (fun c2 => ?_) (fun c2 => ?_)
        · rw [if_neg c2] at hR hF
          refine lv_iinc (v := y2 + 1) (lv' := [(2, .int (y2 + 1)), (1, .int y1), (0, .ref q)]) hx hb dX2_find_22 hl (k := 1) rfl rfl (by decide) rfl (fun ls hl => ?_)
          refine lv_goto (tgt := 2) hx hb dX2_find_25 (by decide) ?_
          exact ih2 y1 (y2 + 1) H locs ls hR hF hP hD hS (lv_sub hl [1, 0, 2] rfl)
        · rw [if_pos c2] at hR hF
          refine lv_iload_n hx hb dX2_find_20 rfl (lv_at hl 1 rfl) ?_
          subst hR
          exact krI hx hb hr hlk hP hD hS dX2_find_21 rfl rfl
  exact loop2 kfu x1 0 H locs ls hR hF hP hD hS (lv_sub hl [2, 0, 1] rfl)

theorem hdX2_hasBelow : yX2_hasBelow.cls = RX2 ∧ yX2_hasBelow.cls ≠ "java/lang/invoke/MethodHandle" ∧ yX2_hasBelow.cls ≠ "java/lang/invoke/VarHandle" ∧ (parseMethodDescriptor yX2_hasBelow.desc).map (fun d => d.parameters.length) = some 2 := by decide +kernel
def fx2_hasBelow_L2 (w rm : Int32) (n : Nat) : Nat → Int32 → Int32 → Int32 → Int32
  | 0, _, _, _ => 0
  | n2 + 1, y1, y2, y3 => (if T.1 ≤ y3 then 0 else (if y2 ≤ (fx2_get w rm n T y3 y1) then fx2_hasBelow_L2 w rm n n2 y1 y2 (y3 + 1) else 1))
def sx2_hasBelow_L2 (w rm : Int32) (n : Nat) : Nat → Int32 → Int32 → Int32 → Prop
  | 0, _, _, _ => False
  | n2 + 1, y1, y2, y3 => (if T.1 ≤ y3 then True else (if y2 ≤ (fx2_get w rm n T y3 y1) then sx2_hasBelow_L2 w rm n n2 y1 y2 (y3 + 1) else True))
def fx2_hasBelow (w rm : Int32) (n : Nat) (T : Tb) (x1 : Int32) (x2 : Int32) : Int32 := fx2_hasBelow_L2 w rm n kfu x1 x2 0
def sx2_hasBelow (w rm : Int32) (n : Nat) (T : Tb) (x1 : Int32) (x2 : Int32) : Prop := sx2_hasBelow_L2 w rm n kfu x1 x2 0
set_option maxHeartbeats 4000000 in
set_option maxRecDepth 100000 in
theorem cx2_hasBelow {l : Launch} {D : va_G} {cI cB cS cJ : ClassId} {K : State → Prop} (E : kE D cI cB cS cJ K) (q c : Nat) (w rm : Int32) (n : Nat) (hn : n < 2147483648) (T : Tb) (x1 : Int32) (x2 : Int32) (hF : sx2_hasBelow w rm n T x1 x2) : kI l D K yX2_hasBelow wsX2_hasBelow 1 23 [.ref q, .int x1, .int x2] (tbW cI q c w rm n T) (fx2_hasBelow w rm n T x1 x2) (tbW cI q c w rm n T) := by
  refine kI_of (own := RX2) (cc := cX2_hasBelow) (maxL := 4) (tys := kty cI cB cS cJ) (fun U h => (E.2 U h).1) (by decide) rfl rfl (by decide) ?_
  intro p e s m below meth c A ls hx hb hr hml hts hown hlk hKs hK hP hD hA hS hl
  have hl : lv_has ls 4 [(0, .ref q), (1, .int x1), (2, .int x2)] := hl
  have hX : CallFix p m c cX2_hasBelow 4 s _ wsX2_hasBelow RX2 := ⟨hx, hb, hml, hown, hts⟩
  have hinX2 : ∀ w ∈ wsX20, w ∈ wsX2_hasBelow := fun w h => List.mem_cons_of_mem _ (List.mem_append_right _ h)
  have q1 := hts (.fieldLink RX2 9 "LabelStation$Table" "rows" "I") (List.mem_of_getElem? (i := 1) rfl)
  generalize hR : fx2_hasBelow w rm n T x1 x2 = R
  rw [fx2_hasBelow] at hR
  rw [sx2_hasBelow] at hF
  refine lv_iconst (v := 0) hx hb dX2_hasBelow_0 (by decide) ?_
  refine lv_istore_n (lv' := [(3, .int 0), (0, .ref q), (1, .int x1), (2, .int x2)]) hx hb dX2_hasBelow_1 rfl hl (by decide) rfl (fun ls hl => ?_)
  have loop2 : ∀ (n2 : Nat) (y1 : Int32) (y2 : Int32) (y3 : Int32) (H : Heap) (locs : List Loc) (ls : Array Slot), fx2_hasBelow_L2 w rm n n2 y1 y2 y3 = R → sx2_hasBelow_L2 w rm n n2 y1 y2 y3 → va_P D vwCl (tbW cI q c w rm n T) H → va_D A (tbW cI q c w rm n T) → va_S A s.heap H locs → lv_has ls 4 [(1, .int y1), (2, .int y2), (3, .int y3), (0, .ref q)] → W p l e (kRm 1 23) s m ([.ref q, .int x1, .int x2] : List Value).toArray below meth c H locs 0 0 (kQI D below R (tbW cI q c w rm n T) A ([.ref q, .int x1, .int x2] : List Value).toArray s) (F0 m 2 ls []) := by
    intro n2
    induction n2 with
    | zero => intro y1 y2 y3 H locs ls hR hF; exact hF.elim
    | succ n2 ih2 =>
      intro y1 y2 y3 H locs ls hR hF hP hD hS hl
      rw [fx2_hasBelow_L2] at hR
      rw [sx2_hasBelow_L2] at hF
      refine lv_iload_n hx hb dX2_hasBelow_2 rfl (lv_at hl 2 rfl) ?_
      refine lv_aload_n hx hb dX2_hasBelow_3 rfl (lv_at hl 3 rfl) ?_
      refine va_get (D := D) (ci := 2) (v := .int T.1) (C := RX2) (T := TX2) (N := 4) hx hb hts hinX2 hown hK hP 0 rfl rfl 3 (by decide) q1 (fun _ h9 => h9) rfl dX2_hasBelow_4 ?_
      refine lv_icmp_ge (tgt := 28) hx hb dX2_hasBelow_7 (by decide) (fun c1 => ?_) (fun c1 => ?_)
      · rw [if_pos c1] at hR hF
        refine lv_iconst (v := 0) hx hb dX2_hasBelow_28 (by decide) ?_
        subst hR
        exact krZ hx hb hr hlk hP hD hS dX2_hasBelow_29 (by decide) rfl rfl
      · rw [if_neg c1] at hR hF
        refine lv_aload_n hx hb dX2_hasBelow_10 rfl (lv_at hl 3 rfl) ?_
        refine lv_iload_n hx hb dX2_hasBelow_11 rfl (lv_at hl 2 rfl) ?_
        refine lv_iload_n hx hb dX2_hasBelow_12 rfl (lv_at hl 0 rfl) ?_
        refine kcI (ci := 2) (q0 := 0) (As := [.int y3, .int y1]) (rest := []) E.1 (cx2_get E q c w rm n hn T y3 y1) hX (cwV 2 hts gX2_hasBelow_X2_get rfl rfl rfl hdX2_get ⟨Nat.le_of_ble_eq_true rfl, Nat.le_of_ble_eq_true rfl⟩) hKs hK hP hD hS hA _ _ (kw_self _) (kw_self _).symm rfl rfl rfl rfl hl.1 (Nat.le_of_ble_eq_true rfl) dX2_hasBelow_13 ⟨Nat.zero_le _, Nat.zero_le _⟩ (fun H locs hP hD hS => ?_)
        refine lv_iload_n hx hb dX2_hasBelow_16 rfl (lv_at hl 1 rfl) ?_
        refine lv_icmp_ge (tgt := 22) hx hb dX2_hasBelow_17 (by decide) (fun c2 => ?_) (fun c2 => ?_)
        · rw [if_pos c2] at hR hF
          refine lv_iinc (v := y3 + 1) (lv' := [(3, .int (y3 + 1)), (1, .int y1), (2, .int y2), (0, .ref q)]) hx hb dX2_hasBelow_22 hl (k := 2) rfl rfl (by decide) rfl (fun ls hl => ?_)
          refine lv_goto (tgt := 2) hx hb dX2_hasBelow_25 (by decide) ?_
          exact ih2 y1 y2 (y3 + 1) H locs ls hR hF hP hD hS (lv_sub hl [1, 2, 0, 3] rfl)
        · rw [if_neg c2] at hR hF
          refine lv_iconst (v := 1) hx hb dX2_hasBelow_20 (by decide) ?_
          subst hR
          exact krZ hx hb hr hlk hP hD hS dX2_hasBelow_21 (by decide) rfl rfl
  exact loop2 kfu x1 x2 0 H locs ls hR hF hP hD hS (lv_sub hl [2, 3, 0, 1] rfl)

theorem hdX2_increase : yX2_increase.cls = RX2 ∧ yX2_increase.cls ≠ "java/lang/invoke/MethodHandle" ∧ yX2_increase.cls ≠ "java/lang/invoke/VarHandle" ∧ (parseMethodDescriptor yX2_increase.desc).map (fun d => d.parameters.length) = some 1 := by decide +kernel
def fx2_increase_L2 (w rm : Int32) (n : Nat) : Nat → Int32 → Int32 → Tb → Tb
  | 0, _, _, T => T
  | n2 + 1, y1, y2, T => (if T.1 ≤ y2 then T else (bnd (fx2_put w rm n T y2 y1 ((fx2_get w rm n T y2 y1) + 1)) (fun T2 => fx2_increase_L2 w rm n n2 y1 (y2 + 1) T2)))
def sx2_increase_L2 (w rm : Int32) (n : Nat) : Nat → Int32 → Int32 → Tb → Prop
  | 0, _, _, _ => False
  | n2 + 1, y1, y2, T => (if T.1 ≤ y2 then True else (bnd (fx2_put w rm n T y2 y1 ((fx2_get w rm n T y2 y1) + 1)) (fun T2 => sx2_increase_L2 w rm n n2 y1 (y2 + 1) T2)))
def fx2_increase (w rm : Int32) (n : Nat) (T : Tb) (x1 : Int32) : Tb := fx2_increase_L2 w rm n kfu x1 0 T
def sx2_increase (w rm : Int32) (n : Nat) (T : Tb) (x1 : Int32) : Prop := sx2_increase_L2 w rm n kfu x1 0 T
set_option maxHeartbeats 4000000 in
set_option maxRecDepth 100000 in
theorem cx2_increase {l : Launch} {D : va_G} {cI cB cS cJ : ClassId} {K : State → Prop} (E : kE D cI cB cS cJ K) (q c : Nat) (w rm : Int32) (n : Nat) (hn : n < 2147483648) (T : Tb) (x1 : Int32) (hF : sx2_increase w rm n T x1) : kV l D K yX2_increase wsX2_increase 1 24 [.ref q, .int x1] (tbW cI q c w rm n T)  (tbW cI q c w rm n (fx2_increase w rm n T x1)) := by
  refine kV_of (own := RX2) (cc := cX2_increase) (maxL := 3) (tys := kty cI cB cS cJ) (fun U h => (E.2 U h).1) (by decide) rfl rfl (by decide) ?_
  intro p e s m below meth c A ls hx hb hr hml hts hown hlk hKs hK hP hD hA hS hl
  have hl : lv_has ls 3 [(0, .ref q), (1, .int x1)] := hl
  have hX : CallFix p m c cX2_increase 3 s _ wsX2_increase RX2 := ⟨hx, hb, hml, hown, hts⟩
  have hinX2 : ∀ w ∈ wsX20, w ∈ wsX2_increase := fun w h => List.mem_cons_of_mem _ (List.mem_append_right _ h)
  have q1 := hts (.fieldLink RX2 9 "LabelStation$Table" "rows" "I") (List.mem_of_getElem? (i := 1) rfl)
  generalize hR : fx2_increase w rm n T x1 = R
  rw [fx2_increase] at hR
  rw [sx2_increase] at hF
  refine lv_iconst (v := 0) hx hb dX2_increase_0 (by decide) ?_
  refine lv_istore_n (lv' := [(2, .int 0), (0, .ref q), (1, .int x1)]) hx hb dX2_increase_1 rfl hl (by decide) rfl (fun ls hl => ?_)
  have loop2 : ∀ (n2 : Nat) (y1 : Int32) (y2 : Int32) (T : Tb) (H : Heap) (locs : List Loc) (ls : Array Slot), fx2_increase_L2 w rm n n2 y1 y2 T = R → sx2_increase_L2 w rm n n2 y1 y2 T → va_P D vwCl (tbW cI q c w rm n T) H → va_D A (tbW cI q c w rm n T) → va_S A s.heap H locs → lv_has ls 3 [(1, .int y1), (2, .int y2), (0, .ref q)] → W p l e (kRm 1 24) s m ([.ref q, .int x1] : List Value).toArray below meth c H locs 0 0 (kQV D below (tbW cI q c w rm n R) A ([.ref q, .int x1] : List Value).toArray s) (F0 m 2 ls []) := by
    intro n2
    induction n2 with
    | zero => intro y1 y2 T H locs ls hR hF; exact hF.elim
    | succ n2 ih2 =>
      intro y1 y2 T H locs ls hR hF hP hD hS hl
      rw [fx2_increase_L2] at hR
      rw [sx2_increase_L2] at hF
      refine lv_iload_n hx hb dX2_increase_2 rfl (lv_at hl 1 rfl) ?_
      refine lv_aload_n hx hb dX2_increase_3 rfl (lv_at hl 2 rfl) ?_
      refine va_get (D := D) (ci := 2) (v := .int T.1) (C := RX2) (T := TX2) (N := 4) hx hb hts hinX2 hown hK hP 0 rfl rfl 3 (by decide) q1 (fun _ h9 => h9) rfl dX2_increase_4 ?_
      refine lv_icmp_ge (tgt := 30) hx hb dX2_increase_7 (by decide) (fun c1 => ?_) (fun c1 => ?_)
      · rw [if_pos c1] at hR hF
        subst hR
        exact krV hx hb hr hlk hP hD hS dX2_increase_30 rfl
      · rw [if_neg c1] at hR hF
        refine lv_aload_n hx hb dX2_increase_10 rfl (lv_at hl 2 rfl) ?_
        refine lv_iload_n hx hb dX2_increase_11 rfl (lv_at hl 1 rfl) ?_
        refine lv_iload_n hx hb dX2_increase_12 rfl (lv_at hl 0 rfl) ?_
        refine lv_aload_n hx hb dX2_increase_13 rfl (lv_at hl 2 rfl) ?_
        refine lv_iload_n hx hb dX2_increase_14 rfl (lv_at hl 1 rfl) ?_
        refine lv_iload_n hx hb dX2_increase_15 rfl (lv_at hl 0 rfl) ?_
        refine kcI (ci := 2) (q0 := 0) (As := [.int y2, .int y1]) (rest := [.int y1, .int y2, .ref q]) E.1 (cx2_get E q c w rm n hn T y2 y1) hX (cwV 2 hts gX2_increase_X2_get rfl rfl rfl hdX2_get ⟨Nat.le_of_ble_eq_true rfl, Nat.le_of_ble_eq_true rfl⟩) hKs hK hP hD hS hA _ _ (kw_self _) (kw_self _).symm rfl rfl rfl rfl hl.1 (Nat.le_of_ble_eq_true rfl) dX2_increase_16 ⟨Nat.zero_le _, Nat.zero_le _⟩ (fun H locs hP hD hS => ?_)
        refine lv_iconst (v := 1) hx hb dX2_increase_19 (by decide) ?_
        refine lv_iadd hx hb dX2_increase_20 ?_
        refine kcV (ci := 2) (q0 := 0) (As := [.int y2, .int y1, .int ((fx2_get w rm n T y2 y1) + 1)]) (rest := []) E.1 (cx2_put E q c w rm n hn T y2 y1 ((fx2_get w rm n T y2 y1) + 1)) hX (cwV 3 hts gX2_increase_X2_put rfl rfl rfl hdX2_put ⟨Nat.le_of_ble_eq_true rfl, Nat.le_of_ble_eq_true rfl⟩) hKs hK hP hD hS hA _ _ (kw_self _) (kw_self _).symm rfl rfl rfl rfl hl.1 (Nat.le_of_ble_eq_true rfl) dX2_increase_21 ⟨Nat.zero_le _, Nat.zero_le _⟩ (fun H locs hP hD hS => ?_)
        have hP : va_P D vwCl (tbW cI q c w rm n (fx2_put w rm n T y2 y1 ((fx2_get w rm n T y2 y1) + 1))) H := hP
        have hD : va_D A (tbW cI q c w rm n (fx2_put w rm n T y2 y1 ((fx2_get w rm n T y2 y1) + 1))) := hD
        generalize eT2 : fx2_put w rm n T y2 y1 ((fx2_get w rm n T y2 y1) + 1) = T2 at hR hF hP hD
        dsimp only [bnd] at hR hF
        refine lv_iinc (v := y2 + 1) (lv' := [(2, .int (y2 + 1)), (1, .int y1), (0, .ref q)]) hx hb dX2_increase_24 hl (k := 1) rfl rfl (by decide) rfl (fun ls hl => ?_)
        refine lv_goto (tgt := 2) hx hb dX2_increase_27 (by decide) ?_
        exact ih2 y1 (y2 + 1) T2 H locs ls hR hF hP hD hS (lv_sub hl [1, 0, 2] rfl)
  exact loop2 kfu x1 0 T H locs ls hR hF hP hD hS (lv_sub hl [2, 0, 1] rfl)

theorem hdX2_addRow : yX2_addRow.cls = RX2 ∧ yX2_addRow.cls ≠ "java/lang/invoke/MethodHandle" ∧ yX2_addRow.cls ≠ "java/lang/invoke/VarHandle" ∧ (parseMethodDescriptor yX2_addRow.desc).map (fun d => d.parameters.length) = some 1 := by decide +kernel
def fx2_addRow_L37 (w rm : Int32) (n : Nat) : Nat → Int32 → Int32 → Int32 → Tb → Int32 × (Tb)
  | 0, _, _, _, T => (0, T)
  | n37 + 1, y1, y2, y3, T => (if w ≤ y3 then (y2, T) else (bnd (fx2_put w rm n T y2 y3 0) (fun T4 => fx2_addRow_L37 w rm n n37 y1 y2 (y3 + 1) T4)))
def sx2_addRow_L37 (w rm : Int32) (n : Nat) : Nat → Int32 → Int32 → Int32 → Tb → Prop
  | 0, _, _, _, _ => False
  | n37 + 1, y1, y2, y3, T => (if w ≤ y3 then True else (bnd (fx2_put w rm n T y2 y3 0) (fun T4 => sx2_addRow_L37 w rm n n37 y1 y2 (y3 + 1) T4)))
def fx2_addRow (w rm : Int32) (n : Nat) (T : Tb) (x1 : Int32) : Int32 × (Tb) := (if T.1 < rm then (bnd (fx2_put w rm n (T.1 + 1, T.2) T.1 0 x1) (fun T2 => fx2_addRow_L37 w rm n kfu x1 T.1 1 T2)) else ((-1), T))
def sx2_addRow (w rm : Int32) (n : Nat) (T : Tb) (x1 : Int32) : Prop := (if T.1 < rm then (bnd (fx2_put w rm n (T.1 + 1, T.2) T.1 0 x1) (fun T2 => sx2_addRow_L37 w rm n kfu x1 T.1 1 T2)) else True)
set_option maxHeartbeats 4000000 in
set_option maxRecDepth 100000 in
theorem cx2_addRow {l : Launch} {D : va_G} {cI cB cS cJ : ClassId} {K : State → Prop} (E : kE D cI cB cS cJ K) (q c : Nat) (w rm : Int32) (n : Nat) (hn : n < 2147483648) (T : Tb) (x1 : Int32) (hF : sx2_addRow w rm n T x1) : kI l D K yX2_addRow wsX2_addRow 1 24 [.ref q, .int x1] (tbW cI q c w rm n T) (fx2_addRow w rm n T x1).1 (tbW cI q c w rm n ((fx2_addRow w rm n T x1).2)) := by
  refine kI_of (own := RX2) (cc := cX2_addRow) (maxL := 4) (tys := kty cI cB cS cJ) (fun U h => (E.2 U h).1) (by decide) rfl rfl (by decide) ?_
  intro p e s m below meth c A ls hx hb hr hml hts hown hlk hKs hK hP hD hA hS hl
  have hl : lv_has ls 4 [(0, .ref q), (1, .int x1)] := hl
  have hX : CallFix p m c cX2_addRow 4 s _ wsX2_addRow RX2 := ⟨hx, hb, hml, hown, hts⟩
  have hinX2 : ∀ w ∈ wsX20, w ∈ wsX2_addRow := fun w h => List.mem_cons_of_mem _ (List.mem_append_right _ h)
  have q1 := hts (.fieldLink RX2 9 "LabelStation$Table" "rows" "I") (List.mem_of_getElem? (i := 1) rfl)
  have q2 := hts (.fieldLink RX2 24 "LabelStation$Table" "room" "I") (List.mem_of_getElem? (i := 2) rfl)
  have q3 := hts (.fieldLink RX2 21 "LabelStation$Table" "width" "I") (List.mem_of_getElem? (i := 3) rfl)
  generalize hR : fx2_addRow w rm n T x1 = R
  rw [fx2_addRow] at hR
  rw [sx2_addRow] at hF
  refine lv_aload_n hx hb dX2_addRow_0 rfl (lv_at hl 0 rfl) ?_
  refine va_get (D := D) (ci := 2) (v := .int T.1) (C := RX2) (T := TX2) (N := 4) hx hb hts hinX2 hown hK hP 0 rfl rfl 3 (by decide) q1 (fun _ h9 => h9) rfl dX2_addRow_1 ?_
  refine lv_aload_n hx hb dX2_addRow_4 rfl (lv_at hl 0 rfl) ?_
  refine va_get (D := D) (ci := 2) (v := .int rm) (C := RX2) (T := TX2) (N := 4) hx hb hts hinX2 hown hK hP 0 rfl rfl 1 (by decide) q2 (fun _ h9 => h9) rfl dX2_addRow_5 ?_
  refine lv_icmp_lt (tgt := 13) hx hb dX2_addRow_8 (by decide) (fun c1 => ?_) (fun c1 => ?_)
  · rw [if_pos c1] at hR hF
    refine lv_aload_n hx hb dX2_addRow_13 rfl (lv_at hl 0 rfl) ?_
    refine va_get (D := D) (ci := 2) (v := .int T.1) (C := RX2) (T := TX2) (N := 4) hx hb hts hinX2 hown hK hP 0 rfl rfl 3 (by decide) q1 (fun _ h9 => h9) rfl dX2_addRow_14 ?_
    refine lv_istore_n (lv' := [(2, .int T.1), (0, .ref q), (1, .int x1)]) hx hb dX2_addRow_17 rfl hl (by decide) rfl (fun ls hl => ?_)
    refine lv_aload_n hx hb dX2_addRow_18 rfl (lv_at hl 1 rfl) ?_
    refine lv_dup hx hb dX2_addRow_19 rfl ?_
    refine va_get (D := D) (ci := 2) (v := .int T.1) (C := RX2) (T := TX2) (N := 4) hx hb hts hinX2 hown hK hP 0 rfl rfl 3 (by decide) q1 (fun _ h9 => h9) rfl dX2_addRow_20 ?_
    refine lv_iconst (v := 1) hx hb dX2_addRow_23 (by decide) ?_
    refine lv_iadd hx hb dX2_addRow_24 ?_
    refine va_put (D := D) (ci := 2) (v := .int (T.1 + 1)) (ty := .int) (C := RX2) (T := TX2) (N := 4) hx hb hts hinX2 tyX2 tyX2_ok nmX2 hown hK hP hD hS 0 rfl rfl 3 (by decide) q1 (fun _ h9 => h9) rfl (by decide +kernel) rfl rfl (Nat.le_of_ble_eq_true rfl) dX2_addRow_25 (fun H locs hP hD hS => ?_)
    have hP : va_P D vwCl (tbW cI q c w rm n (T.1 + 1, T.2)) H := hP
    have hD : va_D A (tbW cI q c w rm n (T.1 + 1, T.2)) := hD
    refine lv_aload_n hx hb dX2_addRow_28 rfl (lv_at hl 1 rfl) ?_
    refine lv_iload_n hx hb dX2_addRow_29 rfl (lv_at hl 0 rfl) ?_
    refine lv_iconst (v := 0) hx hb dX2_addRow_30 (by decide) ?_
    refine lv_iload_n hx hb dX2_addRow_31 rfl (lv_at hl 2 rfl) ?_
    refine kcV (ci := 2) (q0 := 0) (As := [.int T.1, .int 0, .int x1]) (rest := []) E.1 (cx2_put E q c w rm n hn (T.1 + 1, T.2) T.1 0 x1) hX (cwV 3 hts gX2_addRow_X2_put rfl rfl rfl hdX2_put ⟨Nat.le_of_ble_eq_true rfl, Nat.le_of_ble_eq_true rfl⟩) hKs hK hP hD hS hA _ _ (kw_self _) (kw_self _).symm rfl rfl rfl rfl hl.1 (Nat.le_of_ble_eq_true rfl) dX2_addRow_32 ⟨Nat.zero_le _, Nat.zero_le _⟩ (fun H locs hP hD hS => ?_)
    have hP : va_P D vwCl (tbW cI q c w rm n (fx2_put w rm n (T.1 + 1, T.2) T.1 0 x1)) H := hP
    have hD : va_D A (tbW cI q c w rm n (fx2_put w rm n (T.1 + 1, T.2) T.1 0 x1)) := hD
    generalize eT2 : fx2_put w rm n (T.1 + 1, T.2) T.1 0 x1 = T2 at hR hF hP hD
    dsimp only [bnd] at hR hF
    refine lv_iconst (v := 1) hx hb dX2_addRow_35 (by decide) ?_
    refine lv_istore_n (lv' := [(3, .int 1), (2, .int T.1), (0, .ref q), (1, .int x1)]) hx hb dX2_addRow_36 rfl hl (by decide) rfl (fun ls hl => ?_)
    have loop37 : ∀ (n37 : Nat) (y1 : Int32) (y2 : Int32) (y3 : Int32) (T : Tb) (H : Heap) (locs : List Loc) (ls : Array Slot), fx2_addRow_L37 w rm n n37 y1 y2 y3 T = R → sx2_addRow_L37 w rm n n37 y1 y2 y3 T → va_P D vwCl (tbW cI q c w rm n T) H → va_D A (tbW cI q c w rm n T) → va_S A s.heap H locs → lv_has ls 4 [(1, .int y1), (2, .int y2), (3, .int y3), (0, .ref q)] → W p l e (kRm 1 24) s m ([.ref q, .int x1] : List Value).toArray below meth c H locs 0 0 (kQI D below R.1 (tbW cI q c w rm n R.2) A ([.ref q, .int x1] : List Value).toArray s) (F0 m 37 ls []) := by
      intro n37
      induction n37 with
      | zero => intro y1 y2 y3 T H locs ls hR hF; exact hF.elim
      | succ n37 ih37 =>
        intro y1 y2 y3 T H locs ls hR hF hP hD hS hl
        rw [fx2_addRow_L37] at hR
        rw [sx2_addRow_L37] at hF
        refine lv_iload_n hx hb dX2_addRow_37 rfl (lv_at hl 2 rfl) ?_
        refine lv_aload_n hx hb dX2_addRow_38 rfl (lv_at hl 3 rfl) ?_
        refine va_get (D := D) (ci := 2) (v := .int w) (C := RX2) (T := TX2) (N := 4) hx hb hts hinX2 hown hK hP 0 rfl rfl 0 (by decide) q3 (fun _ h9 => h9) rfl dX2_addRow_39 ?_
        refine lv_icmp_ge (tgt := 58) hx hb dX2_addRow_42 (by decide) (fun c3 => ?_) (fun c3 => ?_)
        · rw [if_pos c3] at hR hF
          refine lv_iload_n hx hb dX2_addRow_58 rfl (lv_at hl 1 rfl) ?_
          subst hR
          exact krI hx hb hr hlk hP hD hS dX2_addRow_59 rfl rfl
        · rw [if_neg c3] at hR hF
          refine lv_aload_n hx hb dX2_addRow_45 rfl (lv_at hl 3 rfl) ?_
          refine lv_iload_n hx hb dX2_addRow_46 rfl (lv_at hl 1 rfl) ?_
          refine lv_iload_n hx hb dX2_addRow_47 rfl (lv_at hl 2 rfl) ?_
          refine lv_iconst (v := 0) hx hb dX2_addRow_48 (by decide) ?_
          refine kcV (ci := 2) (q0 := 0) (As := [.int y2, .int y3, .int 0]) (rest := []) E.1 (cx2_put E q c w rm n hn T y2 y3 0) hX (cwV 3 hts gX2_addRow_X2_put rfl rfl rfl hdX2_put ⟨Nat.le_of_ble_eq_true rfl, Nat.le_of_ble_eq_true rfl⟩) hKs hK hP hD hS hA _ _ (kw_self _) (kw_self _).symm rfl rfl rfl rfl hl.1 (Nat.le_of_ble_eq_true rfl) dX2_addRow_49 ⟨Nat.zero_le _, Nat.zero_le _⟩ (fun H locs hP hD hS => ?_)
          have hP : va_P D vwCl (tbW cI q c w rm n (fx2_put w rm n T y2 y3 0)) H := hP
          have hD : va_D A (tbW cI q c w rm n (fx2_put w rm n T y2 y3 0)) := hD
          generalize eT4 : fx2_put w rm n T y2 y3 0 = T4 at hR hF hP hD
          dsimp only [bnd] at hR hF
          refine lv_iinc (v := y3 + 1) (lv' := [(3, .int (y3 + 1)), (1, .int y1), (2, .int y2), (0, .ref q)]) hx hb dX2_addRow_52 hl (k := 2) rfl rfl (by decide) rfl (fun ls hl => ?_)
          refine lv_goto (tgt := 37) hx hb dX2_addRow_55 (by decide) ?_
          exact ih37 y1 y2 (y3 + 1) T4 H locs ls hR hF hP hD hS (lv_sub hl [1, 2, 0, 3] rfl)
    exact loop37 kfu x1 T.1 1 T2 H locs ls hR hF hP hD hS (lv_sub hl [3, 1, 0, 2] rfl)
  · rw [if_neg c1] at hR hF
    refine lv_iconst (v := (-1)) hx hb dX2_addRow_11 (by decide) ?_
    subst hR
    exact krI hx hb hr hlk hP hD hS dX2_addRow_12 rfl rfl

theorem hdX2_removeRow : yX2_removeRow.cls = RX2 ∧ yX2_removeRow.cls ≠ "java/lang/invoke/MethodHandle" ∧ yX2_removeRow.cls ≠ "java/lang/invoke/VarHandle" ∧ (parseMethodDescriptor yX2_removeRow.desc).map (fun d => d.parameters.length) = some 1 := by decide +kernel
def fx2_removeRow_L30 (w rm : Int32) (n : Nat) : Nat → Int32 → Int32 → Tb → Tb
  | 0, _, _, T => T
  | n30 + 1, y1, y2, T => (if (T.1 * w) ≤ y2 then T else (if (nI n) ≤ (y2 + w) then T else fx2_removeRow_L30 w rm n n30 y1 (y2 + 1) (T.1, upd T.2 (y2).toNatClampNeg (T.2 (y2 + w).toNatClampNeg))))
def sx2_removeRow_L30 (w rm : Int32) (n : Nat) : Nat → Int32 → Int32 → Tb → Prop
  | 0, _, _, _ => False
  | n30 + 1, y1, y2, T => (if (T.1 * w) ≤ y2 then True else (if (nI n) ≤ (y2 + w) then True else (vp_in (y2 + w) n ∧ (vp_in (y2) n ∧ sx2_removeRow_L30 w rm n n30 y1 (y2 + 1) (T.1, upd T.2 (y2).toNatClampNeg (T.2 (y2 + w).toNatClampNeg))))))
def fx2_removeRow (w rm : Int32) (n : Nat) (T : Tb) (x1 : Int32) : Tb := (if x1 < 0 then T else (if x1 < T.1 then fx2_removeRow_L30 w rm n kfu x1 (x1 * w) (T.1 - 1, T.2) else T))
def sx2_removeRow (w rm : Int32) (n : Nat) (T : Tb) (x1 : Int32) : Prop := (if x1 < 0 then True else (if x1 < T.1 then sx2_removeRow_L30 w rm n kfu x1 (x1 * w) (T.1 - 1, T.2) else True))
set_option maxHeartbeats 4000000 in
set_option maxRecDepth 100000 in
theorem cx2_removeRow {l : Launch} {D : va_G} {cI cB cS cJ : ClassId} {K : State → Prop} (E : kE D cI cB cS cJ K) (q c : Nat) (w rm : Int32) (n : Nat) (hn : n < 2147483648) (T : Tb) (x1 : Int32) (hF : sx2_removeRow w rm n T x1) : kV l D K yX2_removeRow wsX2_removeRow 0 0 [.ref q, .int x1] (tbW cI q c w rm n T)  (tbW cI q c w rm n (fx2_removeRow w rm n T x1)) := by
  refine kV_of (own := RX2) (cc := cX2_removeRow) (maxL := 3) (tys := kty cI cB cS cJ) (fun U h => (E.2 U h).1) (by decide) rfl rfl (by decide) ?_
  intro p e s m below meth c A ls hx hb hr hml hts hown hlk hKs hK hP hD hA hS hl
  have hl : lv_has ls 3 [(0, .ref q), (1, .int x1)] := hl
  have hX : CallFix p m c cX2_removeRow 3 s _ wsX2_removeRow RX2 := ⟨hx, hb, hml, hown, hts⟩
  have hinX2 : ∀ w ∈ wsX20, w ∈ wsX2_removeRow := fun w h => List.mem_cons_of_mem _ (List.mem_append_right _ h)
  have q1 := hts (.fieldLink RX2 9 "LabelStation$Table" "rows" "I") (List.mem_of_getElem? (i := 1) rfl)
  have q2 := hts (.fieldLink RX2 21 "LabelStation$Table" "width" "I") (List.mem_of_getElem? (i := 2) rfl)
  have q3 := hts (.fieldLink RX2 27 "LabelStation$Table" "cells" "[I") (List.mem_of_getElem? (i := 3) rfl)
  generalize hR : fx2_removeRow w rm n T x1 = R
  rw [fx2_removeRow] at hR
  rw [sx2_removeRow] at hF
  refine lv_iload_n hx hb dX2_removeRow_0 rfl (lv_at hl 1 rfl) ?_
  refine lv_if_lt (tgt := 12) hx hb dX2_removeRow_1 (by decide) (fun c1 => ?_) (fun c1 => ?_)
  · rw [if_pos c1] at hR hF
    subst hR
    exact krV hx hb hr hlk hP hD hS dX2_removeRow_12 rfl
  · rw [if_neg c1] at hR hF
    refine lv_iload_n hx hb dX2_removeRow_4 rfl (lv_at hl 1 rfl) ?_
    refine lv_aload_n hx hb dX2_removeRow_5 rfl (lv_at hl 0 rfl) ?_
    refine va_get (D := D) (ci := 2) (v := .int T.1) (C := RX2) (T := TX2) (N := 4) hx hb hts hinX2 hown hK hP 0 rfl rfl 3 (by decide) q1 (fun _ h9 => h9) rfl dX2_removeRow_6 ?_
    refine lv_icmp_lt (tgt := 13) hx hb dX2_removeRow_9 (by decide) (fun c2 => ?_) (fun c2 => ?_)
    · rw [if_pos c2] at hR hF
      refine lv_aload_n hx hb dX2_removeRow_13 rfl (lv_at hl 0 rfl) ?_
      refine lv_dup hx hb dX2_removeRow_14 rfl ?_
      refine va_get (D := D) (ci := 2) (v := .int T.1) (C := RX2) (T := TX2) (N := 4) hx hb hts hinX2 hown hK hP 0 rfl rfl 3 (by decide) q1 (fun _ h9 => h9) rfl dX2_removeRow_15 ?_
      refine lv_iconst (v := 1) hx hb dX2_removeRow_18 (by decide) ?_
      refine lv_isub hx hb dX2_removeRow_19 ?_
      refine va_put (D := D) (ci := 2) (v := .int (T.1 - 1)) (ty := .int) (C := RX2) (T := TX2) (N := 4) hx hb hts hinX2 tyX2 tyX2_ok nmX2 hown hK hP hD hS 0 rfl rfl 3 (by decide) q1 (fun _ h9 => h9) rfl (by decide +kernel) rfl rfl (Nat.le_of_ble_eq_true rfl) dX2_removeRow_20 (fun H locs hP hD hS => ?_)
      have hP : va_P D vwCl (tbW cI q c w rm n (T.1 - 1, T.2)) H := hP
      have hD : va_D A (tbW cI q c w rm n (T.1 - 1, T.2)) := hD
      refine lv_iload_n hx hb dX2_removeRow_23 rfl (lv_at hl 1 rfl) ?_
      refine lv_aload_n hx hb dX2_removeRow_24 rfl (lv_at hl 0 rfl) ?_
      refine va_get (D := D) (ci := 2) (v := .int w) (C := RX2) (T := TX2) (N := 4) hx hb hts hinX2 hown hK hP 0 rfl rfl 0 (by decide) q2 (fun _ h9 => h9) rfl dX2_removeRow_25 ?_
      refine lv_imul hx hb dX2_removeRow_28 ?_
      refine lv_istore_n (lv' := [(2, .int (x1 * w)), (0, .ref q), (1, .int x1)]) hx hb dX2_removeRow_29 rfl hl (by decide) rfl (fun ls hl => ?_)
      have loop30 : ∀ (n30 : Nat) (y1 : Int32) (y2 : Int32) (T : Tb) (H : Heap) (locs : List Loc) (ls : Array Slot), fx2_removeRow_L30 w rm n n30 y1 y2 T = R → sx2_removeRow_L30 w rm n n30 y1 y2 T → va_P D vwCl (tbW cI q c w rm n T) H → va_D A (tbW cI q c w rm n T) → va_S A s.heap H locs → lv_has ls 3 [(1, .int y1), (2, .int y2), (0, .ref q)] → W p l e (kRm 0 0) s m ([.ref q, .int x1] : List Value).toArray below meth c H locs 0 0 (kQV D below (tbW cI q c w rm n R) A ([.ref q, .int x1] : List Value).toArray s) (F0 m 30 ls []) := by
        intro n30
        induction n30 with
        | zero => intro y1 y2 T H locs ls hR hF; exact hF.elim
        | succ n30 ih30 =>
          intro y1 y2 T H locs ls hR hF hP hD hS hl
          rw [fx2_removeRow_L30] at hR
          rw [sx2_removeRow_L30] at hF
          refine lv_iload_n hx hb dX2_removeRow_30 rfl (lv_at hl 1 rfl) ?_
          refine lv_aload_n hx hb dX2_removeRow_31 rfl (lv_at hl 2 rfl) ?_
          refine va_get (D := D) (ci := 2) (v := .int T.1) (C := RX2) (T := TX2) (N := 4) hx hb hts hinX2 hown hK hP 0 rfl rfl 3 (by decide) q1 (fun _ h9 => h9) rfl dX2_removeRow_32 ?_
          refine lv_aload_n hx hb dX2_removeRow_35 rfl (lv_at hl 2 rfl) ?_
          refine va_get (D := D) (ci := 2) (v := .int w) (C := RX2) (T := TX2) (N := 4) hx hb hts hinX2 hown hK hP 0 rfl rfl 0 (by decide) q2 (fun _ h9 => h9) rfl dX2_removeRow_36 ?_
          refine lv_imul hx hb dX2_removeRow_39 ?_
          refine lv_icmp_ge (tgt := 80) hx hb dX2_removeRow_40 (by decide) (fun c3 => ?_) (fun c3 => ?_)
          · rw [if_pos c3] at hR hF
            subst hR
            exact krV hx hb hr hlk hP hD hS dX2_removeRow_80 rfl
          · rw [if_neg c3] at hR hF
            refine lv_iload_n hx hb dX2_removeRow_43 rfl (lv_at hl 1 rfl) ?_
            refine lv_aload_n hx hb dX2_removeRow_44 rfl (lv_at hl 2 rfl) ?_
            refine va_get (D := D) (ci := 2) (v := .int w) (C := RX2) (T := TX2) (N := 4) hx hb hts hinX2 hown hK hP 0 rfl rfl 0 (by decide) q2 (fun _ h9 => h9) rfl dX2_removeRow_45 ?_
            refine lv_iadd hx hb dX2_removeRow_48 ?_
            refine lv_aload_n hx hb dX2_removeRow_49 rfl (lv_at hl 2 rfl) ?_
            refine va_get (D := D) (ci := 2) (v := .ref c) (C := RX2) (T := TX2) (N := 4) hx hb hts hinX2 hown hK hP 0 rfl rfl 2 (by decide) q3 (fun _ h9 => h9) rfl dX2_removeRow_50 ?_
            refine va_alen (v := nI n) hx hb hK hP 1 0 rfl rfl rfl dX2_removeRow_53 ?_
            refine lv_icmp_ge (tgt := 80) hx hb dX2_removeRow_54 (by decide) (fun c4 => ?_) (fun c4 => ?_)
            · rw [if_pos c4] at hR hF
              subst hR
              exact krV hx hb hr hlk hP hD hS dX2_removeRow_80 rfl
            · rw [if_neg c4] at hR hF
              refine lv_aload_n hx hb dX2_removeRow_57 rfl (lv_at hl 2 rfl) ?_
              refine va_get (D := D) (ci := 2) (v := .ref c) (C := RX2) (T := TX2) (N := 4) hx hb hts hinX2 hown hK hP 0 rfl rfl 2 (by decide) q3 (fun _ h9 => h9) rfl dX2_removeRow_58 ?_
              refine lv_iload_n hx hb dX2_removeRow_61 rfl (lv_at hl 1 rfl) ?_
              refine lv_aload_n hx hb dX2_removeRow_62 rfl (lv_at hl 2 rfl) ?_
              refine va_get (D := D) (ci := 2) (v := .ref c) (C := RX2) (T := TX2) (N := 4) hx hb hts hinX2 hown hK hP 0 rfl rfl 2 (by decide) q3 (fun _ h9 => h9) rfl dX2_removeRow_63 ?_
              refine lv_iload_n hx hb dX2_removeRow_66 rfl (lv_at hl 1 rfl) ?_
              refine lv_aload_n hx hb dX2_removeRow_67 rfl (lv_at hl 2 rfl) ?_
              refine va_get (D := D) (ci := 2) (v := .int w) (C := RX2) (T := TX2) (N := 4) hx hb hts hinX2 hown hK hP 0 rfl rfl 0 (by decide) q2 (fun _ h9 => h9) rfl dX2_removeRow_68 ?_
              refine lv_iadd hx hb dX2_removeRow_71 ?_
              obtain ⟨hi5, hF⟩ := hF
              refine va_iald hx hb hK hP 1 0 rfl rfl hi5 dX2_removeRow_72 ?_
              obtain ⟨hi6, hF⟩ := hF
              refine va_iast hx hb hK hP hD hS 1 0 rfl rfl hi6 dX2_removeRow_73 (fun H locs hP hD hS => ?_)
              have hP : va_P D vwCl (tbW cI q c w rm n (T.1, upd T.2 (y2).toNatClampNeg (T.2 (y2 + w).toNatClampNeg))) H := hP
              have hD : va_D A (tbW cI q c w rm n (T.1, upd T.2 (y2).toNatClampNeg (T.2 (y2 + w).toNatClampNeg))) := hD
              refine lv_iinc (v := y2 + 1) (lv' := [(2, .int (y2 + 1)), (1, .int y1), (0, .ref q)]) hx hb dX2_removeRow_74 hl (k := 1) rfl rfl (by decide) rfl (fun ls hl => ?_)
              refine lv_goto (tgt := 30) hx hb dX2_removeRow_77 (by decide) ?_
              exact ih30 y1 (y2 + 1) (T.1, upd T.2 (y2).toNatClampNeg (T.2 (y2 + w).toNatClampNeg)) H locs ls hR hF hP hD hS (lv_sub hl [1, 0, 2] rfl)
      exact loop30 kfu x1 (x1 * w) (T.1 - 1, T.2) H locs ls hR hF hP hD hS (lv_sub hl [2, 0, 1] rfl)
    · rw [if_neg c2] at hR hF
      subst hR
      exact krV hx hb hr hlk hP hD hS dX2_removeRow_12 rfl

theorem hdX2_removeRowsOf : yX2_removeRowsOf.cls = RX2 ∧ yX2_removeRowsOf.cls ≠ "java/lang/invoke/MethodHandle" ∧ yX2_removeRowsOf.cls ≠ "java/lang/invoke/VarHandle" ∧ (parseMethodDescriptor yX2_removeRowsOf.desc).map (fun d => d.parameters.length) = some 1 := by decide +kernel
def fx2_removeRowsOf_L7 (w rm : Int32) (n : Nat) : Nat → Int32 → Int32 → Tb → Tb
  | 0, _, _, T => T
  | n7 + 1, y1, y2, T => (if y2 < 0 then T else (if (fx2_get w rm n T y2 0) = y1 then (bnd (fx2_removeRow w rm n T y2) (fun T3 => fx2_removeRowsOf_L7 w rm n n7 y1 (y2 + (-1)) T3)) else fx2_removeRowsOf_L7 w rm n n7 y1 (y2 + (-1)) T))
def sx2_removeRowsOf_L7 (w rm : Int32) (n : Nat) : Nat → Int32 → Int32 → Tb → Prop
  | 0, _, _, _ => False
  | n7 + 1, y1, y2, T => (if y2 < 0 then True else (if (fx2_get w rm n T y2 0) = y1 then (sx2_removeRow w rm n T y2 ∧ (bnd (fx2_removeRow w rm n T y2) (fun T3 => sx2_removeRowsOf_L7 w rm n n7 y1 (y2 + (-1)) T3))) else sx2_removeRowsOf_L7 w rm n n7 y1 (y2 + (-1)) T))
def fx2_removeRowsOf (w rm : Int32) (n : Nat) (T : Tb) (x1 : Int32) : Tb := fx2_removeRowsOf_L7 w rm n kfu x1 (T.1 - 1) T
def sx2_removeRowsOf (w rm : Int32) (n : Nat) (T : Tb) (x1 : Int32) : Prop := sx2_removeRowsOf_L7 w rm n kfu x1 (T.1 - 1) T
set_option maxHeartbeats 4000000 in
set_option maxRecDepth 100000 in
theorem cx2_removeRowsOf {l : Launch} {D : va_G} {cI cB cS cJ : ClassId} {K : State → Prop} (E : kE D cI cB cS cJ K) (q c : Nat) (w rm : Int32) (n : Nat) (hn : n < 2147483648) (T : Tb) (x1 : Int32) (hF : sx2_removeRowsOf w rm n T x1) : kV l D K yX2_removeRowsOf wsX2_removeRowsOf 1 23 [.ref q, .int x1] (tbW cI q c w rm n T)  (tbW cI q c w rm n (fx2_removeRowsOf w rm n T x1)) := by
  refine kV_of (own := RX2) (cc := cX2_removeRowsOf) (maxL := 3) (tys := kty cI cB cS cJ) (fun U h => (E.2 U h).1) (by decide) rfl rfl (by decide) ?_
  intro p e s m below meth c A ls hx hb hr hml hts hown hlk hKs hK hP hD hA hS hl
  have hl : lv_has ls 3 [(0, .ref q), (1, .int x1)] := hl
  have hX : CallFix p m c cX2_removeRowsOf 3 s _ wsX2_removeRowsOf RX2 := ⟨hx, hb, hml, hown, hts⟩
  have hinX2 : ∀ w ∈ wsX20, w ∈ wsX2_removeRowsOf := fun w h => List.mem_cons_of_mem _ (List.mem_append_right _ h)
  have q1 := hts (.fieldLink RX2 9 "LabelStation$Table" "rows" "I") (List.mem_of_getElem? (i := 1) rfl)
  generalize hR : fx2_removeRowsOf w rm n T x1 = R
  rw [fx2_removeRowsOf] at hR
  rw [sx2_removeRowsOf] at hF
  refine lv_aload_n hx hb dX2_removeRowsOf_0 rfl (lv_at hl 0 rfl) ?_
  refine va_get (D := D) (ci := 2) (v := .int T.1) (C := RX2) (T := TX2) (N := 4) hx hb hts hinX2 hown hK hP 0 rfl rfl 3 (by decide) q1 (fun _ h9 => h9) rfl dX2_removeRowsOf_1 ?_
  refine lv_iconst (v := 1) hx hb dX2_removeRowsOf_4 (by decide) ?_
  refine lv_isub hx hb dX2_removeRowsOf_5 ?_
  refine lv_istore_n (lv' := [(2, .int (T.1 - 1)), (0, .ref q), (1, .int x1)]) hx hb dX2_removeRowsOf_6 rfl hl (by decide) rfl (fun ls hl => ?_)
  have loop7 : ∀ (n7 : Nat) (y1 : Int32) (y2 : Int32) (T : Tb) (H : Heap) (locs : List Loc) (ls : Array Slot), fx2_removeRowsOf_L7 w rm n n7 y1 y2 T = R → sx2_removeRowsOf_L7 w rm n n7 y1 y2 T → va_P D vwCl (tbW cI q c w rm n T) H → va_D A (tbW cI q c w rm n T) → va_S A s.heap H locs → lv_has ls 3 [(1, .int y1), (2, .int y2), (0, .ref q)] → W p l e (kRm 1 23) s m ([.ref q, .int x1] : List Value).toArray below meth c H locs 0 0 (kQV D below (tbW cI q c w rm n R) A ([.ref q, .int x1] : List Value).toArray s) (F0 m 7 ls []) := by
    intro n7
    induction n7 with
    | zero => intro y1 y2 T H locs ls hR hF; exact hF.elim
    | succ n7 ih7 =>
      intro y1 y2 T H locs ls hR hF hP hD hS hl
      rw [fx2_removeRowsOf_L7] at hR
      rw [sx2_removeRowsOf_L7] at hF
      refine lv_iload_n hx hb dX2_removeRowsOf_7 rfl (lv_at hl 1 rfl) ?_
      refine lv_if_lt (tgt := 32) hx hb dX2_removeRowsOf_8 (by decide) (fun c1 => ?_) (fun c1 => ?_)
      · rw [if_pos c1] at hR hF
        subst hR
        exact krV hx hb hr hlk hP hD hS dX2_removeRowsOf_32 rfl
      · rw [if_neg c1] at hR hF
        refine lv_aload_n hx hb dX2_removeRowsOf_11 rfl (lv_at hl 2 rfl) ?_
        refine lv_iload_n hx hb dX2_removeRowsOf_12 rfl (lv_at hl 1 rfl) ?_
        refine lv_iconst (v := 0) hx hb dX2_removeRowsOf_13 (by decide) ?_
        refine kcI (ci := 2) (q0 := 0) (As := [.int y2, .int 0]) (rest := []) E.1 (cx2_get E q c w rm n hn T y2 0) hX (cwV 2 hts gX2_removeRowsOf_X2_get rfl rfl rfl hdX2_get ⟨Nat.le_of_ble_eq_true rfl, Nat.le_of_ble_eq_true rfl⟩) hKs hK hP hD hS hA _ _ (kw_self _) (kw_self _).symm rfl rfl rfl rfl hl.1 (Nat.le_of_ble_eq_true rfl) dX2_removeRowsOf_14 ⟨Nat.zero_le _, Nat.zero_le _⟩ (fun H locs hP hD hS => ?_)
        refine lv_iload_n hx hb dX2_removeRowsOf_17 rfl (lv_at hl 0 rfl) ?_
        refine lv_icmp_ne (tgt := 26) hx hb dX2_removeRowsOf_18 (by decide) (fun c2 => ?_) (fun c2 => ?_)
        · rw [if_neg c2] at hR hF
          refine lv_iinc (v := y2 + (-1)) (lv' := [(2, .int (y2 + (-1))), (1, .int y1), (0, .ref q)]) hx hb dX2_removeRowsOf_26 hl (k := 1) rfl rfl (by decide) rfl (fun ls hl => ?_)
          refine lv_goto (tgt := 7) hx hb dX2_removeRowsOf_29 (by decide) ?_
          exact ih7 y1 (y2 + (-1)) T H locs ls hR hF hP hD hS (lv_sub hl [1, 0, 2] rfl)
        · rw [if_pos c2] at hR hF
          refine lv_aload_n hx hb dX2_removeRowsOf_21 rfl (lv_at hl 2 rfl) ?_
          refine lv_iload_n hx hb dX2_removeRowsOf_22 rfl (lv_at hl 1 rfl) ?_
          obtain ⟨hs4, hF⟩ := hF
          refine kcV (ci := 2) (q0 := 0) (As := [.int y2]) (rest := []) E.1 (cx2_removeRow E q c w rm n hn T y2 hs4) hX (cwV 1 hts gX2_removeRowsOf_X2_removeRow rfl rfl rfl hdX2_removeRow ⟨Nat.le_of_ble_eq_true rfl, Nat.le_of_ble_eq_true rfl⟩) hKs hK hP hD hS hA _ _ (kw_self _) (kw_self _).symm rfl rfl rfl rfl hl.1 (Nat.le_of_ble_eq_true rfl) dX2_removeRowsOf_23 ⟨Nat.zero_le _, Nat.zero_le _⟩ (fun H locs hP hD hS => ?_)
          have hP : va_P D vwCl (tbW cI q c w rm n (fx2_removeRow w rm n T y2)) H := hP
          have hD : va_D A (tbW cI q c w rm n (fx2_removeRow w rm n T y2)) := hD
          generalize eT3 : fx2_removeRow w rm n T y2 = T3 at hR hF hP hD
          dsimp only [bnd] at hR hF
          refine lv_iinc (v := y2 + (-1)) (lv' := [(2, .int (y2 + (-1))), (1, .int y1), (0, .ref q)]) hx hb dX2_removeRowsOf_26 hl (k := 1) rfl rfl (by decide) rfl (fun ls hl => ?_)
          refine lv_goto (tgt := 7) hx hb dX2_removeRowsOf_29 (by decide) ?_
          exact ih7 y1 (y2 + (-1)) T3 H locs ls hR hF hP hD hS (lv_sub hl [1, 0, 2] rfl)
  exact loop7 kfu x1 (T.1 - 1) T H locs ls hR hF hP hD hS (lv_sub hl [2, 0, 1] rfl)
end
