-- ===== PART A: goes FIRST, ahead of the names: the tables' words, and 'selects' of the private methods out of them =====
/-- a private method of a class that the tables say can be made, by its rows of tables_1 -/
def lw_okq (q : MethodName × Nat) : Prop := (q.1.cls ≠ "java/lang/invoke/MethodHandle" ∧ q.1.cls ≠ "java/lang/invoke/VarHandle") ∧ Cond.instantiable q.1.cls q.2 ∈ tables_1 ∧ Cond.privateMethod q.1 ∈ tables_1 ∧ Cond.instanceMethod q.1 ∈ tables_1
theorem lw_p0 : lw_okq (⟨"TuneWard$Tape", "advance", "()V"⟩, 7) := ⟨⟨by decide +kernel, by decide +kernel⟩, List.mem_of_getElem? (i := 108) (by decide +kernel), List.mem_of_getElem? (i := 271) (by decide +kernel), List.mem_of_getElem? (i := 272) (by decide +kernel)⟩
theorem lw_p1 : lw_okq (⟨"TuneWard$Tape", "pass", "(II)V"⟩, 7) := ⟨⟨by decide +kernel, by decide +kernel⟩, List.mem_of_getElem? (i := 108) (by decide +kernel), List.mem_of_getElem? (i := 276) (by decide +kernel), List.mem_of_getElem? (i := 277) (by decide +kernel)⟩
theorem lw_p2 : lw_okq (⟨"TuneWard$Tape", "tellLine", "(LTuneWard$House;)V"⟩, 7) := ⟨⟨by decide +kernel, by decide +kernel⟩, List.mem_of_getElem? (i := 108) (by decide +kernel), List.mem_of_getElem? (i := 280) (by decide +kernel), List.mem_of_getElem? (i := 281) (by decide +kernel)⟩
theorem lw_p3 : lw_okq (⟨"TuneWard$Tape", "fail", "(II)V"⟩, 7) := ⟨⟨by decide +kernel, by decide +kernel⟩, List.mem_of_getElem? (i := 108) (by decide +kernel), List.mem_of_getElem? (i := 284) (by decide +kernel), List.mem_of_getElem? (i := 285) (by decide +kernel)⟩
theorem lw_p4 : lw_okq (⟨"TuneWard$Tape", "isName", "(Ljava/lang/String;)Z"⟩, 7) := ⟨⟨by decide +kernel, by decide +kernel⟩, List.mem_of_getElem? (i := 108) (by decide +kernel), List.mem_of_getElem? (i := 289) (by decide +kernel), List.mem_of_getElem? (i := 290) (by decide +kernel)⟩
theorem lw_p5 : lw_okq (⟨"TuneWard$Tape", "tellTune", "(LTuneWard$House;I)V"⟩, 7) := ⟨⟨by decide +kernel, by decide +kernel⟩, List.mem_of_getElem? (i := 108) (by decide +kernel), List.mem_of_getElem? (i := 341) (by decide +kernel), List.mem_of_getElem? (i := 342) (by decide +kernel)⟩
theorem lw_p6 : lw_okq (⟨"TuneWard$Tape", "nextNumber", "(II)I"⟩, 7) := ⟨⟨by decide +kernel, by decide +kernel⟩, List.mem_of_getElem? (i := 108) (by decide +kernel), List.mem_of_getElem? (i := 345) (by decide +kernel), List.mem_of_getElem? (i := 346) (by decide +kernel)⟩
theorem lw_p7 : lw_okq (⟨"TuneWard$Tape", "number", "(II)I"⟩, 7) := ⟨⟨by decide +kernel, by decide +kernel⟩, List.mem_of_getElem? (i := 108) (by decide +kernel), List.mem_of_getElem? (i := 349) (by decide +kernel), List.mem_of_getElem? (i := 350) (by decide +kernel)⟩
theorem lw_p8 : lw_okq (⟨"TuneWard$Tape", "sign", "()V"⟩, 7) := ⟨⟨by decide +kernel, by decide +kernel⟩, List.mem_of_getElem? (i := 108) (by decide +kernel), List.mem_of_getElem? (i := 353) (by decide +kernel), List.mem_of_getElem? (i := 354) (by decide +kernel)⟩
theorem lw_p9 : lw_okq (⟨"TuneWard$Tape", "tellPlayer", "(LTuneWard$House;)V"⟩, 7) := ⟨⟨by decide +kernel, by decide +kernel⟩, List.mem_of_getElem? (i := 108) (by decide +kernel), List.mem_of_getElem? (i := 361) (by decide +kernel), List.mem_of_getElem? (i := 362) (by decide +kernel)⟩
theorem lw_p10 : lw_okq (⟨"TuneWard$Tape", "tellBound", "(LTuneWard$House;)V"⟩, 7) := ⟨⟨by decide +kernel, by decide +kernel⟩, List.mem_of_getElem? (i := 108) (by decide +kernel), List.mem_of_getElem? (i := 366) (by decide +kernel), List.mem_of_getElem? (i := 367) (by decide +kernel)⟩
theorem lw_p11 : lw_okq (⟨"TuneWard$Playing", "prepareTune", "(LTuneWard$House;I)V"⟩, 10) := ⟨⟨by decide +kernel, by decide +kernel⟩, List.mem_of_getElem? (i := 139) (by decide +kernel), List.mem_of_getElem? (i := 491) (by decide +kernel), List.mem_of_getElem? (i := 492) (by decide +kernel)⟩
theorem lw_p12 : lw_okq (⟨"TuneWard$Playing", "noteHeard", "(LTuneWard$House;II)I"⟩, 10) := ⟨⟨by decide +kernel, by decide +kernel⟩, List.mem_of_getElem? (i := 139) (by decide +kernel), List.mem_of_getElem? (i := 498) (by decide +kernel), List.mem_of_getElem? (i := 499) (by decide +kernel)⟩
theorem lw_p13 : lw_okq (⟨"TuneWard$Playing", "finish", "(III)V"⟩, 10) := ⟨⟨by decide +kernel, by decide +kernel⟩, List.mem_of_getElem? (i := 139) (by decide +kernel), List.mem_of_getElem? (i := 502) (by decide +kernel), List.mem_of_getElem? (i := 503) (by decide +kernel)⟩
theorem lw_p14 : lw_okq (⟨"TuneWard$Playing", "playerOf", "(LTuneWard$House;I)I"⟩, 10) := ⟨⟨by decide +kernel, by decide +kernel⟩, List.mem_of_getElem? (i := 139) (by decide +kernel), List.mem_of_getElem? (i := 506) (by decide +kernel), List.mem_of_getElem? (i := 507) (by decide +kernel)⟩
theorem lw_p15 : lw_okq (⟨"TuneWard$Playing", "crossAll", "(LTuneWard$House;I)V"⟩, 10) := ⟨⟨by decide +kernel, by decide +kernel⟩, List.mem_of_getElem? (i := 139) (by decide +kernel), List.mem_of_getElem? (i := 510) (by decide +kernel), List.mem_of_getElem? (i := 511) (by decide +kernel)⟩
def lw_privs_1 : List (MethodName × Nat) := [(⟨"TuneWard$Tape", "advance", "()V"⟩, 7), (⟨"TuneWard$Tape", "pass", "(II)V"⟩, 7), (⟨"TuneWard$Tape", "tellLine", "(LTuneWard$House;)V"⟩, 7), (⟨"TuneWard$Tape", "fail", "(II)V"⟩, 7), (⟨"TuneWard$Tape", "isName", "(Ljava/lang/String;)Z"⟩, 7), (⟨"TuneWard$Tape", "tellTune", "(LTuneWard$House;I)V"⟩, 7), (⟨"TuneWard$Tape", "nextNumber", "(II)I"⟩, 7), (⟨"TuneWard$Tape", "number", "(II)I"⟩, 7), (⟨"TuneWard$Tape", "sign", "()V"⟩, 7), (⟨"TuneWard$Tape", "tellPlayer", "(LTuneWard$House;)V"⟩, 7), (⟨"TuneWard$Tape", "tellBound", "(LTuneWard$House;)V"⟩, 7), (⟨"TuneWard$Playing", "prepareTune", "(LTuneWard$House;I)V"⟩, 10), (⟨"TuneWard$Playing", "noteHeard", "(LTuneWard$House;II)I"⟩, 10), (⟨"TuneWard$Playing", "finish", "(III)V"⟩, 10), (⟨"TuneWard$Playing", "playerOf", "(LTuneWard$House;I)I"⟩, 10), (⟨"TuneWard$Playing", "crossAll", "(LTuneWard$House;I)V"⟩, 10)]
theorem lw_r1 : ∀ q ∈ lw_privs_1, lw_okq q := List.forall_mem_cons.mpr ⟨lw_p0, List.forall_mem_cons.mpr ⟨lw_p1, List.forall_mem_cons.mpr ⟨lw_p2, List.forall_mem_cons.mpr ⟨lw_p3, List.forall_mem_cons.mpr ⟨lw_p4, List.forall_mem_cons.mpr ⟨lw_p5, List.forall_mem_cons.mpr ⟨lw_p6, List.forall_mem_cons.mpr ⟨lw_p7, List.forall_mem_cons.mpr ⟨lw_p8, List.forall_mem_cons.mpr ⟨lw_p9, List.forall_mem_cons.mpr ⟨lw_p10, List.forall_mem_cons.mpr ⟨lw_p11, List.forall_mem_cons.mpr ⟨lw_p12, List.forall_mem_cons.mpr ⟨lw_p13, List.forall_mem_cons.mpr ⟨lw_p14, List.forall_mem_cons.mpr ⟨lw_p15, fun _ h => absurd h List.not_mem_nil⟩⟩⟩⟩⟩⟩⟩⟩⟩⟩⟩⟩⟩⟩⟩⟩
theorem lw_p16 : lw_okq (⟨"TuneWard$Playing", "crossThird", "(LTuneWard$House;III)V"⟩, 10) := ⟨⟨by decide +kernel, by decide +kernel⟩, List.mem_of_getElem? (i := 139) (by decide +kernel), List.mem_of_getElem? (i := 514) (by decide +kernel), List.mem_of_getElem? (i := 515) (by decide +kernel)⟩
theorem lw_p17 : lw_okq (⟨"TuneWard", "weight", "(II)J"⟩, 13) := ⟨⟨by decide +kernel, by decide +kernel⟩, List.mem_of_getElem? (i := 15) (by decide +kernel), List.mem_of_getElem? (i := 605) (by decide +kernel), List.mem_of_getElem? (i := 606) (by decide +kernel)⟩
theorem lw_p18 : lw_okq (⟨"TuneWard", "fittingKinds", "(I)I"⟩, 13) := ⟨⟨by decide +kernel, by decide +kernel⟩, List.mem_of_getElem? (i := 15) (by decide +kernel), List.mem_of_getElem? (i := 628) (by decide +kernel), List.mem_of_getElem? (i := 629) (by decide +kernel)⟩
theorem lw_p19 : lw_okq (⟨"TuneWard", "leftAtWorst", "(III)I"⟩, 13) := ⟨⟨by decide +kernel, by decide +kernel⟩, List.mem_of_getElem? (i := 15) (by decide +kernel), List.mem_of_getElem? (i := 636) (by decide +kernel), List.mem_of_getElem? (i := 637) (by decide +kernel)⟩
theorem lw_p20 : lw_okq (⟨"TuneWardModel", "step", "()V"⟩, 35) := ⟨⟨by decide +kernel, by decide +kernel⟩, List.mem_of_getElem? (i := 708) (by decide +kernel), List.mem_of_getElem? (i := 836) (by decide +kernel), List.mem_of_getElem? (i := 837) (by decide +kernel)⟩
theorem lw_p21 : lw_okq (⟨"TuneWardModel", "byteAt", "(I)I"⟩, 35) := ⟨⟨by decide +kernel, by decide +kernel⟩, List.mem_of_getElem? (i := 708) (by decide +kernel), List.mem_of_getElem? (i := 840) (by decide +kernel), List.mem_of_getElem? (i := 841) (by decide +kernel)⟩
theorem lw_p22 : lw_okq (⟨"TuneWardModel", "fails", "(I)V"⟩, 35) := ⟨⟨by decide +kernel, by decide +kernel⟩, List.mem_of_getElem? (i := 708) (by decide +kernel), List.mem_of_getElem? (i := 848) (by decide +kernel), List.mem_of_getElem? (i := 849) (by decide +kernel)⟩
theorem lw_p23 : lw_okq (⟨"TuneWardModel", "readLine", "()V"⟩, 35) := ⟨⟨by decide +kernel, by decide +kernel⟩, List.mem_of_getElem? (i := 708) (by decide +kernel), List.mem_of_getElem? (i := 852) (by decide +kernel), List.mem_of_getElem? (i := 853) (by decide +kernel)⟩
theorem lw_p24 : lw_okq (⟨"TuneWardModel", "nameHere", "()I"⟩, 35) := ⟨⟨by decide +kernel, by decide +kernel⟩, List.mem_of_getElem? (i := 708) (by decide +kernel), List.mem_of_getElem? (i := 856) (by decide +kernel), List.mem_of_getElem? (i := 857) (by decide +kernel)⟩
theorem lw_p25 : lw_okq (⟨"TuneWardModel", "readMore", "(I)V"⟩, 35) := ⟨⟨by decide +kernel, by decide +kernel⟩, List.mem_of_getElem? (i := 708) (by decide +kernel), List.mem_of_getElem? (i := 861) (by decide +kernel), List.mem_of_getElem? (i := 862) (by decide +kernel)⟩
theorem lw_p26 : lw_okq (⟨"TuneWardModel", "readTune", "(I)V"⟩, 35) := ⟨⟨by decide +kernel, by decide +kernel⟩, List.mem_of_getElem? (i := 708) (by decide +kernel), List.mem_of_getElem? (i := 865) (by decide +kernel), List.mem_of_getElem? (i := 866) (by decide +kernel)⟩
theorem lw_p27 : lw_okq (⟨"TuneWardModel", "number", "(II)I"⟩, 35) := ⟨⟨by decide +kernel, by decide +kernel⟩, List.mem_of_getElem? (i := 708) (by decide +kernel), List.mem_of_getElem? (i := 869) (by decide +kernel), List.mem_of_getElem? (i := 870) (by decide +kernel)⟩
theorem lw_p28 : lw_okq (⟨"TuneWardModel", "tuneHere", "()I"⟩, 35) := ⟨⟨by decide +kernel, by decide +kernel⟩, List.mem_of_getElem? (i := 708) (by decide +kernel), List.mem_of_getElem? (i := 873) (by decide +kernel), List.mem_of_getElem? (i := 874) (by decide +kernel)⟩
theorem lw_p29 : lw_okq (⟨"TuneWardModel", "isTune", "(I)Z"⟩, 35) := ⟨⟨by decide +kernel, by decide +kernel⟩, List.mem_of_getElem? (i := 708) (by decide +kernel), List.mem_of_getElem? (i := 889) (by decide +kernel), List.mem_of_getElem? (i := 890) (by decide +kernel)⟩
theorem lw_p30 : lw_okq (⟨"TuneWardModel", "lengthOf", "(I)I"⟩, 35) := ⟨⟨by decide +kernel, by decide +kernel⟩, List.mem_of_getElem? (i := 708) (by decide +kernel), List.mem_of_getElem? (i := 893) (by decide +kernel), List.mem_of_getElem? (i := 894) (by decide +kernel)⟩
theorem lw_p31 : lw_okq (⟨"TuneWardModel", "lengthBy", "(II)I"⟩, 35) := ⟨⟨by decide +kernel, by decide +kernel⟩, List.mem_of_getElem? (i := 708) (by decide +kernel), List.mem_of_getElem? (i := 897) (by decide +kernel), List.mem_of_getElem? (i := 898) (by decide +kernel)⟩
def lw_privs_2 : List (MethodName × Nat) := [(⟨"TuneWard$Playing", "crossThird", "(LTuneWard$House;III)V"⟩, 10), (⟨"TuneWard", "weight", "(II)J"⟩, 13), (⟨"TuneWard", "fittingKinds", "(I)I"⟩, 13), (⟨"TuneWard", "leftAtWorst", "(III)I"⟩, 13), (⟨"TuneWardModel", "step", "()V"⟩, 35), (⟨"TuneWardModel", "byteAt", "(I)I"⟩, 35), (⟨"TuneWardModel", "fails", "(I)V"⟩, 35), (⟨"TuneWardModel", "readLine", "()V"⟩, 35), (⟨"TuneWardModel", "nameHere", "()I"⟩, 35), (⟨"TuneWardModel", "readMore", "(I)V"⟩, 35), (⟨"TuneWardModel", "readTune", "(I)V"⟩, 35), (⟨"TuneWardModel", "number", "(II)I"⟩, 35), (⟨"TuneWardModel", "tuneHere", "()I"⟩, 35), (⟨"TuneWardModel", "isTune", "(I)Z"⟩, 35), (⟨"TuneWardModel", "lengthOf", "(I)I"⟩, 35), (⟨"TuneWardModel", "lengthBy", "(II)I"⟩, 35)]
theorem lw_r2 : ∀ q ∈ lw_privs_2, lw_okq q := List.forall_mem_cons.mpr ⟨lw_p16, List.forall_mem_cons.mpr ⟨lw_p17, List.forall_mem_cons.mpr ⟨lw_p18, List.forall_mem_cons.mpr ⟨lw_p19, List.forall_mem_cons.mpr ⟨lw_p20, List.forall_mem_cons.mpr ⟨lw_p21, List.forall_mem_cons.mpr ⟨lw_p22, List.forall_mem_cons.mpr ⟨lw_p23, List.forall_mem_cons.mpr ⟨lw_p24, List.forall_mem_cons.mpr ⟨lw_p25, List.forall_mem_cons.mpr ⟨lw_p26, List.forall_mem_cons.mpr ⟨lw_p27, List.forall_mem_cons.mpr ⟨lw_p28, List.forall_mem_cons.mpr ⟨lw_p29, List.forall_mem_cons.mpr ⟨lw_p30, List.forall_mem_cons.mpr ⟨lw_p31, fun _ h => absurd h List.not_mem_nil⟩⟩⟩⟩⟩⟩⟩⟩⟩⟩⟩⟩⟩⟩⟩⟩
theorem lw_p32 : lw_okq (⟨"TuneWardModel", "boundTo", "(I)I"⟩, 35) := ⟨⟨by decide +kernel, by decide +kernel⟩, List.mem_of_getElem? (i := 708) (by decide +kernel), List.mem_of_getElem? (i := 904) (by decide +kernel), List.mem_of_getElem? (i := 905) (by decide +kernel)⟩
theorem lw_p33 : lw_okq (⟨"TuneWardModel", "isNote", "(II)Z"⟩, 35) := ⟨⟨by decide +kernel, by decide +kernel⟩, List.mem_of_getElem? (i := 708) (by decide +kernel), List.mem_of_getElem? (i := 912) (by decide +kernel), List.mem_of_getElem? (i := 913) (by decide +kernel)⟩
theorem lw_p34 : lw_okq (⟨"TuneWardModel", "noteBy", "(III)I"⟩, 35) := ⟨⟨by decide +kernel, by decide +kernel⟩, List.mem_of_getElem? (i := 708) (by decide +kernel), List.mem_of_getElem? (i := 924) (by decide +kernel), List.mem_of_getElem? (i := 925) (by decide +kernel)⟩
theorem lw_p35 : lw_okq (⟨"TuneWardModel", "isPlayer", "(I)Z"⟩, 35) := ⟨⟨by decide +kernel, by decide +kernel⟩, List.mem_of_getElem? (i := 708) (by decide +kernel), List.mem_of_getElem? (i := 932) (by decide +kernel), List.mem_of_getElem? (i := 933) (by decide +kernel)⟩
theorem lw_p36 : lw_okq (⟨"TuneWardModel", "isBound", "(I)Z"⟩, 35) := ⟨⟨by decide +kernel, by decide +kernel⟩, List.mem_of_getElem? (i := 708) (by decide +kernel), List.mem_of_getElem? (i := 941) (by decide +kernel), List.mem_of_getElem? (i := 942) (by decide +kernel)⟩
theorem lw_p37 : lw_okq (⟨"TuneWardModel", "puts", "(ZII)I"⟩, 35) := ⟨⟨by decide +kernel, by decide +kernel⟩, List.mem_of_getElem? (i := 708) (by decide +kernel), List.mem_of_getElem? (i := 950) (by decide +kernel), List.mem_of_getElem? (i := 951) (by decide +kernel)⟩
theorem lw_p38 : lw_okq (⟨"TuneWardModel", "binds", "(II)I"⟩, 35) := ⟨⟨by decide +kernel, by decide +kernel⟩, List.mem_of_getElem? (i := 708) (by decide +kernel), List.mem_of_getElem? (i := 971) (by decide +kernel), List.mem_of_getElem? (i := 972) (by decide +kernel)⟩
theorem lw_p39 : lw_okq (⟨"TuneWardModel", "playing", "()V"⟩, 35) := ⟨⟨by decide +kernel, by decide +kernel⟩, List.mem_of_getElem? (i := 708) (by decide +kernel), List.mem_of_getElem? (i := 979) (by decide +kernel), List.mem_of_getElem? (i := 980) (by decide +kernel)⟩
theorem lw_p40 : lw_okq (⟨"TuneWardModel", "doesSound", "(II)Z"⟩, 35) := ⟨⟨by decide +kernel, by decide +kernel⟩, List.mem_of_getElem? (i := 708) (by decide +kernel), List.mem_of_getElem? (i := 983) (by decide +kernel), List.mem_of_getElem? (i := 984) (by decide +kernel)⟩
theorem lw_p41 : lw_okq (⟨"TuneWardModel", "ends", "(III)V"⟩, 35) := ⟨⟨by decide +kernel, by decide +kernel⟩, List.mem_of_getElem? (i := 708) (by decide +kernel), List.mem_of_getElem? (i := 987) (by decide +kernel), List.mem_of_getElem? (i := 988) (by decide +kernel)⟩
theorem lw_p42 : lw_okq (⟨"TuneWardModel", "playerAt", "(I)I"⟩, 35) := ⟨⟨by decide +kernel, by decide +kernel⟩, List.mem_of_getElem? (i := 708) (by decide +kernel), List.mem_of_getElem? (i := 991) (by decide +kernel), List.mem_of_getElem? (i := 992) (by decide +kernel)⟩
theorem lw_p43 : lw_okq (⟨"TuneWardModel", "crosses", "(I)V"⟩, 35) := ⟨⟨by decide +kernel, by decide +kernel⟩, List.mem_of_getElem? (i := 708) (by decide +kernel), List.mem_of_getElem? (i := 995) (by decide +kernel), List.mem_of_getElem? (i := 996) (by decide +kernel)⟩
theorem lw_p44 : lw_okq (⟨"TuneWardModel", "away", "()I"⟩, 35) := ⟨⟨by decide +kernel, by decide +kernel⟩, List.mem_of_getElem? (i := 708) (by decide +kernel), List.mem_of_getElem? (i := 1016) (by decide +kernel), List.mem_of_getElem? (i := 1017) (by decide +kernel)⟩
theorem lw_p45 : lw_okq (⟨"TuneWardModel", "cost", "()I"⟩, 35) := ⟨⟨by decide +kernel, by decide +kernel⟩, List.mem_of_getElem? (i := 708) (by decide +kernel), List.mem_of_getElem? (i := 1023) (by decide +kernel), List.mem_of_getElem? (i := 1024) (by decide +kernel)⟩
theorem lw_p46 : lw_okq (⟨"TuneWardModel", "copies", "(II)V"⟩, 35) := ⟨⟨by decide +kernel, by decide +kernel⟩, List.mem_of_getElem? (i := 708) (by decide +kernel), List.mem_of_getElem? (i := 1037) (by decide +kernel), List.mem_of_getElem? (i := 1038) (by decide +kernel)⟩
theorem lw_p47 : lw_okq (⟨"TuneWardModel", "laysFigures", "(IIII)V"⟩, 35) := ⟨⟨by decide +kernel, by decide +kernel⟩, List.mem_of_getElem? (i := 708) (by decide +kernel), List.mem_of_getElem? (i := 1044) (by decide +kernel), List.mem_of_getElem? (i := 1045) (by decide +kernel)⟩
def lw_privs_3 : List (MethodName × Nat) := [(⟨"TuneWardModel", "boundTo", "(I)I"⟩, 35), (⟨"TuneWardModel", "isNote", "(II)Z"⟩, 35), (⟨"TuneWardModel", "noteBy", "(III)I"⟩, 35), (⟨"TuneWardModel", "isPlayer", "(I)Z"⟩, 35), (⟨"TuneWardModel", "isBound", "(I)Z"⟩, 35), (⟨"TuneWardModel", "puts", "(ZII)I"⟩, 35), (⟨"TuneWardModel", "binds", "(II)I"⟩, 35), (⟨"TuneWardModel", "playing", "()V"⟩, 35), (⟨"TuneWardModel", "doesSound", "(II)Z"⟩, 35), (⟨"TuneWardModel", "ends", "(III)V"⟩, 35), (⟨"TuneWardModel", "playerAt", "(I)I"⟩, 35), (⟨"TuneWardModel", "crosses", "(I)V"⟩, 35), (⟨"TuneWardModel", "away", "()I"⟩, 35), (⟨"TuneWardModel", "cost", "()I"⟩, 35), (⟨"TuneWardModel", "copies", "(II)V"⟩, 35), (⟨"TuneWardModel", "laysFigures", "(IIII)V"⟩, 35)]
theorem lw_r3 : ∀ q ∈ lw_privs_3, lw_okq q := List.forall_mem_cons.mpr ⟨lw_p32, List.forall_mem_cons.mpr ⟨lw_p33, List.forall_mem_cons.mpr ⟨lw_p34, List.forall_mem_cons.mpr ⟨lw_p35, List.forall_mem_cons.mpr ⟨lw_p36, List.forall_mem_cons.mpr ⟨lw_p37, List.forall_mem_cons.mpr ⟨lw_p38, List.forall_mem_cons.mpr ⟨lw_p39, List.forall_mem_cons.mpr ⟨lw_p40, List.forall_mem_cons.mpr ⟨lw_p41, List.forall_mem_cons.mpr ⟨lw_p42, List.forall_mem_cons.mpr ⟨lw_p43, List.forall_mem_cons.mpr ⟨lw_p44, List.forall_mem_cons.mpr ⟨lw_p45, List.forall_mem_cons.mpr ⟨lw_p46, List.forall_mem_cons.mpr ⟨lw_p47, fun _ h => absurd h List.not_mem_nil⟩⟩⟩⟩⟩⟩⟩⟩⟩⟩⟩⟩⟩⟩⟩⟩
theorem lw_p48 : lw_okq (⟨"TuneWardModel", "awayMany", "()I"⟩, 35) := ⟨⟨by decide +kernel, by decide +kernel⟩, List.mem_of_getElem? (i := 708) (by decide +kernel), List.mem_of_getElem? (i := 1048) (by decide +kernel), List.mem_of_getElem? (i := 1049) (by decide +kernel)⟩
theorem lw_p49 : lw_okq (⟨"TuneWardModel", "byStrings", "(III)J"⟩, 35) := ⟨⟨by decide +kernel, by decide +kernel⟩, List.mem_of_getElem? (i := 708) (by decide +kernel), List.mem_of_getElem? (i := 1073) (by decide +kernel), List.mem_of_getElem? (i := 1074) (by decide +kernel)⟩
theorem lw_p50 : lw_okq (⟨"TuneWardModel", "kindsOf", "(I)I"⟩, 35) := ⟨⟨by decide +kernel, by decide +kernel⟩, List.mem_of_getElem? (i := 708) (by decide +kernel), List.mem_of_getElem? (i := 1097) (by decide +kernel), List.mem_of_getElem? (i := 1098) (by decide +kernel)⟩
theorem lw_p51 : lw_okq (⟨"TuneWardModel", "draws", "()I"⟩, 35) := ⟨⟨by decide +kernel, by decide +kernel⟩, List.mem_of_getElem? (i := 708) (by decide +kernel), List.mem_of_getElem? (i := 1110) (by decide +kernel), List.mem_of_getElem? (i := 1111) (by decide +kernel)⟩
theorem lw_p52 : lw_okq (⟨"TuneWardModel", "noteMany", "()I"⟩, 35) := ⟨⟨by decide +kernel, by decide +kernel⟩, List.mem_of_getElem? (i := 708) (by decide +kernel), List.mem_of_getElem? (i := 1123) (by decide +kernel), List.mem_of_getElem? (i := 1124) (by decide +kernel)⟩
def lw_privs_4 : List (MethodName × Nat) := [(⟨"TuneWardModel", "awayMany", "()I"⟩, 35), (⟨"TuneWardModel", "byStrings", "(III)J"⟩, 35), (⟨"TuneWardModel", "kindsOf", "(I)I"⟩, 35), (⟨"TuneWardModel", "draws", "()I"⟩, 35), (⟨"TuneWardModel", "noteMany", "()I"⟩, 35)]
theorem lw_r4 : ∀ q ∈ lw_privs_4, lw_okq q := List.forall_mem_cons.mpr ⟨lw_p48, List.forall_mem_cons.mpr ⟨lw_p49, List.forall_mem_cons.mpr ⟨lw_p50, List.forall_mem_cons.mpr ⟨lw_p51, List.forall_mem_cons.mpr ⟨lw_p52, fun _ h => absurd h List.not_mem_nil⟩⟩⟩⟩⟩
def lw_privs : List (MethodName × Nat) := lw_privs_1 ++ (lw_privs_2 ++ (lw_privs_3 ++ (lw_privs_4)))
def lw_tbl : List Cond := k2_sels lw_privs ++ tables_1
theorem lw_privs_ok : ∀ q ∈ lw_privs, lw_okq q := by
  show ∀ q ∈ lw_privs_1 ++ (lw_privs_2 ++ (lw_privs_3 ++ (lw_privs_4))), lw_okq q
  exact List.forall_mem_append.mpr ⟨lw_r1, List.forall_mem_append.mpr ⟨lw_r2, List.forall_mem_append.mpr ⟨lw_r3, lw_r4⟩⟩⟩
-- ===== end of PART A; then your names; then what follows =====
/-! ===== BEGIN words of one list among another's, by their places ===== -/
/-! ===== END ===== -/

/-! ===== BEGIN printed: names, fields, word lists, decode rows ===== -/
def RX0 : String := "TuneWard$House"
def TX0 : u_T := fun k => match k with
  | 0 => ("TuneWard$House", "tunes", "I", false)
  | 1 => ("TuneWard$House", "players", "I", false)
  | 2 => ("TuneWard$House", "prisoners", "I", false)
  | 3 => ("TuneWard$House", "kind", "[I", true)
  | 4 => ("TuneWard$House", "notes", "[I", true)
  | 5 => ("TuneWard$House", "times", "[I", true)
  | 6 => ("TuneWard$House", "start", "[I", true)
  | 7 => ("TuneWard$House", "score", "[I", true)
  | 8 => ("TuneWard$House", "skill", "[I", true)
  | 9 => ("TuneWard$House", "breath", "[I", true)
  | 10 => ("TuneWard$House", "pay", "[I", true)
  | 11 => ("TuneWard$House", "at", "[I", true)
  | _ => ("TuneWard$House", "bond", "[I", true)
def tyX0 : Nat → FieldType := fun k => match k with
  | 0 => .int
  | 1 => .int
  | 2 => .int
  | 3 => .array .int
  | 4 => .array .int
  | 5 => .array .int
  | 6 => .array .int
  | 7 => .array .int
  | 8 => .array .int
  | 9 => .array .int
  | 10 => .array .int
  | 11 => .array .int
  | _ => .array .int
abbrev wsX00 : List Cond := u_ws RX0 TX0 13
theorem nmX0 : ∀ a, a < 13 → ∀ b, b < 13 → a ≠ b → (TX0 a).2.1 ≠ (TX0 b).2.1 := by decide +kernel
theorem tyX0_ok : ∀ k, k < 13 → parseFieldDescriptor (TX0 k).2.2.1 = some (tyX0 k) := by decide +kernel
abbrev cX0_init : ByteArray := prog_2_method_1_code
def yX0_init : MethodName := ⟨RX0, "<init>", "()V"⟩
abbrev cX0_clear : ByteArray := prog_2_method_2_code
def yX0_clear : MethodName := ⟨RX0, "clear", "()V"⟩
abbrev cX0_become : ByteArray := prog_2_method_3_code
def yX0_become : MethodName := ⟨RX0, "become", "(LTuneWard$House;)V"⟩
abbrev cX0_hasTune : ByteArray := prog_2_method_4_code
def yX0_hasTune : MethodName := ⟨RX0, "hasTune", "(I)Z"⟩
abbrev cX0_hasNote : ByteArray := prog_2_method_5_code
def yX0_hasNote : MethodName := ⟨RX0, "hasNote", "(II)Z"⟩
abbrev cX0_hasPlayer : ByteArray := prog_2_method_6_code
def yX0_hasPlayer : MethodName := ⟨RX0, "hasPlayer", "(I)Z"⟩
abbrev cX0_hasPrisoner : ByteArray := prog_2_method_7_code
def yX0_hasPrisoner : MethodName := ⟨RX0, "hasPrisoner", "(I)Z"⟩
abbrev cX0_rowLength : ByteArray := prog_2_method_8_code
def yX0_rowLength : MethodName := ⟨RX0, "rowLength", "(II)I"⟩
abbrev cX0_lengthAs : ByteArray := prog_2_method_9_code
def yX0_lengthAs : MethodName := ⟨RX0, "lengthAs", "(II)I"⟩
abbrev cX0_rowNote : ByteArray := prog_2_method_10_code
def yX0_rowNote : MethodName := ⟨RX0, "rowNote", "(III)I"⟩
abbrev cX0_noteAs : ByteArray := prog_2_method_11_code
def yX0_noteAs : MethodName := ⟨RX0, "noteAs", "(III)I"⟩
abbrev cX0_boundTo : ByteArray := prog_2_method_12_code
def yX0_boundTo : MethodName := ⟨RX0, "boundTo", "(I)I"⟩
abbrev cX0_allNotes : ByteArray := prog_2_method_13_code
def yX0_allNotes : MethodName := ⟨RX0, "allNotes", "()I"⟩
abbrev cX0_allLengths : ByteArray := prog_2_method_14_code
def yX0_allLengths : MethodName := ⟨RX0, "allLengths", "()I"⟩
abbrev cX0_rebind : ByteArray := prog_2_method_15_code
def yX0_rebind : MethodName := ⟨RX0, "rebind", "(II)I"⟩
abbrev cX0_spoil : ByteArray := prog_2_method_16_code
def yX0_spoil : MethodName := ⟨RX0, "spoil", "(II)V"⟩
abbrev cX0_allTunesAreThere : ByteArray := prog_2_method_17_code
def yX0_allTunesAreThere : MethodName := ⟨RX0, "allTunesAreThere", "()Z"⟩
def RX1 : String := "TuneWard$Playing"
def TX1 : u_T := fun k => match k with
  | 0 => ("TuneWard$Playing", "overAt", "[I", true)
  | 1 => ("TuneWard$Playing", "why", "[I", true)
  | 2 => ("TuneWard$Playing", "sounded", "[I", true)
  | 3 => ("TuneWard$Playing", "played", "[I", true)
  | 4 => ("TuneWard$Playing", "breathLeft", "[I", true)
  | 5 => ("TuneWard$Playing", "heard", "[I", true)
  | 6 => ("TuneWard$Playing", "rowLength", "[I", true)
  | 7 => ("TuneWard$Playing", "length", "[I", true)
  | 8 => ("TuneWard$Playing", "row", "[I", true)
  | _ => ("TuneWard$Playing", "tunesLeft", "I", false)
def tyX1 : Nat → FieldType := fun k => match k with
  | 0 => .array .int
  | 1 => .array .int
  | 2 => .array .int
  | 3 => .array .int
  | 4 => .array .int
  | 5 => .array .int
  | 6 => .array .int
  | 7 => .array .int
  | 8 => .array .int
  | _ => .int
abbrev wsX10 : List Cond := u_ws RX1 TX1 10
theorem nmX1 : ∀ a, a < 10 → ∀ b, b < 10 → a ≠ b → (TX1 a).2.1 ≠ (TX1 b).2.1 := by decide +kernel
theorem tyX1_ok : ∀ k, k < 10 → parseFieldDescriptor (TX1 k).2.2.1 = some (tyX1 k) := by decide +kernel
abbrev cX1_init : ByteArray := prog_3_method_1_code
def yX1_init : MethodName := ⟨RX1, "<init>", "()V"⟩
abbrev cX1_run : ByteArray := prog_3_method_2_code
def yX1_run : MethodName := ⟨RX1, "run", "(LTuneWard$House;I)V"⟩
abbrev cX1_prepareTune : ByteArray := prog_3_method_3_code
def yX1_prepareTune : MethodName := ⟨RX1, "prepareTune", "(LTuneWard$House;I)V"⟩
abbrev cX1_finish : ByteArray := prog_3_method_4_code
def yX1_finish : MethodName := ⟨RX1, "finish", "(III)V"⟩
abbrev cX1_noteHeard : ByteArray := prog_3_method_5_code
def yX1_noteHeard : MethodName := ⟨RX1, "noteHeard", "(LTuneWard$House;II)I"⟩
abbrev cX1_playerOf : ByteArray := prog_3_method_6_code
def yX1_playerOf : MethodName := ⟨RX1, "playerOf", "(LTuneWard$House;I)I"⟩
abbrev cX1_crossAll : ByteArray := prog_3_method_7_code
def yX1_crossAll : MethodName := ⟨RX1, "crossAll", "(LTuneWard$House;I)V"⟩
abbrev cX1_crossThird : ByteArray := prog_3_method_8_code
def yX1_crossThird : MethodName := ⟨RX1, "crossThird", "(LTuneWard$House;III)V"⟩
abbrev cX1_outAt : ByteArray := prog_3_method_9_code
def yX1_outAt : MethodName := ⟨RX1, "outAt", "(LTuneWard$House;I)I"⟩
abbrev cX1_getsAway : ByteArray := prog_3_method_10_code
def yX1_getsAway : MethodName := ⟨RX1, "getsAway", "(LTuneWard$House;I)Z"⟩
abbrev cX1_away : ByteArray := prog_3_method_11_code
def yX1_away : MethodName := ⟨RX1, "away", "(LTuneWard$House;)I"⟩
abbrev cX1_allOut : ByteArray := prog_3_method_12_code
def yX1_allOut : MethodName := ⟨RX1, "allOut", "(LTuneWard$House;II)Z"⟩
abbrev cX1_cost : ByteArray := prog_3_method_13_code
def yX1_cost : MethodName := ⟨RX1, "cost", "(LTuneWard$House;)I"⟩
abbrev cX1_lastOver : ByteArray := prog_3_method_14_code
def yX1_lastOver : MethodName := ⟨RX1, "lastOver", "(LTuneWard$House;)I"⟩
abbrev cX1_crossedTunes : ByteArray := prog_3_method_15_code
def yX1_crossedTunes : MethodName := ⟨RX1, "crossedTunes", "(LTuneWard$House;)I"⟩
def RX2 : String := "TuneWard$Sheet"
def TX2 : u_T := fun k => match k with
  | 0 => ("TuneWard$Sheet", "there", "Z", false)
  | 1 => ("TuneWard$Sheet", "lane", "I", false)
  | 2 => ("TuneWard$Sheet", "size", "I", false)
  | _ => ("TuneWard$Sheet", "cells", "[I", true)
def tyX2 : Nat → FieldType := fun k => match k with
  | 0 => .boolean
  | 1 => .int
  | 2 => .int
  | _ => .array .int
abbrev wsX20 : List Cond := u_ws RX2 TX2 4
theorem nmX2 : ∀ a, a < 4 → ∀ b, b < 4 → a ≠ b → (TX2 a).2.1 ≠ (TX2 b).2.1 := by decide +kernel
theorem tyX2_ok : ∀ k, k < 4 → parseFieldDescriptor (TX2 k).2.2.1 = some (tyX2 k) := by decide +kernel
abbrev cX2_init : ByteArray := prog_4_method_1_code
def yX2_init : MethodName := ⟨RX2, "<init>", "()V"⟩
abbrev cX2_renew : ByteArray := prog_4_method_2_code
def yX2_renew : MethodName := ⟨RX2, "renew", "(II)V"⟩
abbrev cX2_hasCell : ByteArray := prog_4_method_3_code
def yX2_hasCell : MethodName := ⟨RX2, "hasCell", "(J)Z"⟩
abbrev cX2_faultAs : ByteArray := prog_4_method_4_code
def yX2_faultAs : MethodName := ⟨RX2, "faultAs", "(I)I"⟩
abbrev cX2_narrowed : ByteArray := prog_4_method_5_code
def yX2_narrowed : MethodName := ⟨RX2, "narrowed", "(II)I"⟩
def RX3 : String := "TuneWard$Tape"
def TX3 : u_T := fun k => match k with
  | 0 => ("TuneWard$Tape", "bytes", "[I", true)
  | 1 => ("TuneWard$Tape", "length", "I", false)
  | 2 => ("TuneWard$Tape", "faultFound", "I", false)
  | 3 => ("TuneWard$Tape", "faultPlace", "I", false)
  | 4 => ("TuneWard$Tape", "token", "I", false)
  | 5 => ("TuneWard$Tape", "tokenPlace", "I", false)
  | _ => ("TuneWard$Tape", "next", "I", false)
def tyX3 : Nat → FieldType := fun k => match k with
  | 0 => .array .int
  | 1 => .int
  | 2 => .int
  | 3 => .int
  | 4 => .int
  | 5 => .int
  | _ => .int
abbrev wsX30 : List Cond := u_ws RX3 TX3 7
theorem nmX3 : ∀ a, a < 7 → ∀ b, b < 7 → a ≠ b → (TX3 a).2.1 ≠ (TX3 b).2.1 := by decide +kernel
theorem tyX3_ok : ∀ k, k < 7 → parseFieldDescriptor (TX3 k).2.2.1 = some (tyX3 k) := by decide +kernel
abbrev cX3_init : ByteArray := prog_5_method_1_code
def yX3_init : MethodName := ⟨RX3, "<init>", "()V"⟩
abbrev cX3_append : ByteArray := prog_5_method_2_code
def yX3_append : MethodName := ⟨RX3, "append", "(I)I"⟩
abbrev cX3_tellAll : ByteArray := prog_5_method_3_code
def yX3_tellAll : MethodName := ⟨RX3, "tellAll", "(LTuneWard$House;)I"⟩
abbrev cX3_tellLine : ByteArray := prog_5_method_4_code
def yX3_tellLine : MethodName := ⟨RX3, "tellLine", "(LTuneWard$House;)V"⟩
abbrev cX3_tellTune : ByteArray := prog_5_method_5_code
def yX3_tellTune : MethodName := ⟨RX3, "tellTune", "(LTuneWard$House;I)V"⟩
abbrev cX3_tellPlayer : ByteArray := prog_5_method_6_code
def yX3_tellPlayer : MethodName := ⟨RX3, "tellPlayer", "(LTuneWard$House;)V"⟩
abbrev cX3_tellBound : ByteArray := prog_5_method_7_code
def yX3_tellBound : MethodName := ⟨RX3, "tellBound", "(LTuneWard$House;)V"⟩
abbrev cX3_nextNumber : ByteArray := prog_5_method_8_code
def yX3_nextNumber : MethodName := ⟨RX3, "nextNumber", "(II)I"⟩
abbrev cX3_number : ByteArray := prog_5_method_9_code
def yX3_number : MethodName := ⟨RX3, "number", "(II)I"⟩
abbrev cX3_sign : ByteArray := prog_5_method_10_code
def yX3_sign : MethodName := ⟨RX3, "sign", "()V"⟩
abbrev cX3_fail : ByteArray := prog_5_method_11_code
def yX3_fail : MethodName := ⟨RX3, "fail", "(II)V"⟩
abbrev cX3_advance : ByteArray := prog_5_method_12_code
def yX3_advance : MethodName := ⟨RX3, "advance", "()V"⟩
abbrev cX3_pass : ByteArray := prog_5_method_13_code
def yX3_pass : MethodName := ⟨RX3, "pass", "(II)V"⟩
abbrev cX3_isName : ByteArray := prog_5_method_14_code
def yX3_isName : MethodName := ⟨RX3, "isName", "(Ljava/lang/String;)Z"⟩
def RX4 : String := "TuneWard"
def TX4 : u_T := fun k => match k with
  | 0 => ("TuneWard", "now", "LTuneWard$House;", true)
  | 1 => ("TuneWard", "told", "LTuneWard$House;", true)
  | 2 => ("TuneWard", "trial", "LTuneWard$House;", true)
  | 3 => ("TuneWard", "images", "[LTuneWard$House;", true)
  | 4 => ("TuneWard", "kept", "[Z", true)
  | 5 => ("TuneWard", "tape", "LTuneWard$Tape;", true)
  | 6 => ("TuneWard", "playing", "LTuneWard$Playing;", true)
  | 7 => ("TuneWard", "sheets", "[LTuneWard$Sheet;", true)
  | 8 => ("TuneWard", "seenTune", "[I", true)
  | 9 => ("TuneWard", "seenMinute", "[I", true)
  | 10 => ("TuneWard", "seenNote", "[I", true)
  | 11 => ("TuneWard", "seen", "I", false)
  | _ => ("TuneWard", "tear", "I", false)
def tyX4 : Nat → FieldType := fun k => match k with
  | 0 => .object "TuneWard$House"
  | 1 => .object "TuneWard$House"
  | 2 => .object "TuneWard$House"
  | 3 => .array (.object "TuneWard$House")
  | 4 => .array .boolean
  | 5 => .object "TuneWard$Tape"
  | 6 => .object "TuneWard$Playing"
  | 7 => .array (.object "TuneWard$Sheet")
  | 8 => .array .int
  | 9 => .array .int
  | 10 => .array .int
  | 11 => .int
  | _ => .int
abbrev wsX40 : List Cond := u_ws RX4 TX4 13
theorem nmX4 : ∀ a, a < 13 → ∀ b, b < 13 → a ≠ b → (TX4 a).2.1 ≠ (TX4 b).2.1 := by decide +kernel
theorem tyX4_ok : ∀ k, k < 13 → parseFieldDescriptor (TX4 k).2.2.1 = some (tyX4 k) := by decide +kernel
abbrev cX4_init : ByteArray := prog_1_method_1_code
def yX4_init : MethodName := ⟨RX4, "<init>", "()V"⟩
abbrev cX4_feed : ByteArray := prog_1_method_2_code
def yX4_feed : MethodName := ⟨RX4, "feed", "(I)I"⟩
abbrev cX4_end : ByteArray := prog_1_method_3_code
def yX4_end : MethodName := ⟨RX4, "end", "(I)I"⟩
abbrev cX4_text : ByteArray := prog_1_method_4_code
def yX4_text : MethodName := ⟨RX4, "text", "()I"⟩
abbrev cX4_fault : ByteArray := prog_1_method_5_code
def yX4_fault : MethodName := ⟨RX4, "fault", "()I"⟩
abbrev cX4_rule : ByteArray := prog_1_method_6_code
def yX4_rule : MethodName := ⟨RX4, "rule", "(I)I"⟩
abbrev cX4_tune : ByteArray := prog_1_method_7_code
def yX4_tune : MethodName := ⟨RX4, "tune", "(II)I"⟩
abbrev cX4_note : ByteArray := prog_1_method_8_code
def yX4_note : MethodName := ⟨RX4, "note", "(II)I"⟩
abbrev cX4_has : ByteArray := prog_1_method_9_code
def yX4_has : MethodName := ⟨RX4, "has", "(II)I"⟩
abbrev cX4_player : ByteArray := prog_1_method_10_code
def yX4_player : MethodName := ⟨RX4, "player", "(II)I"⟩
abbrev cX4_bound : ByteArray := prog_1_method_11_code
def yX4_bound : MethodName := ⟨RX4, "bound", "(I)I"⟩
abbrev cX4_write : ByteArray := prog_1_method_12_code
def yX4_write : MethodName := ⟨RX4, "write", "(III)I"⟩
abbrev cX4_add : ByteArray := prog_1_method_13_code
def yX4_add : MethodName := ⟨RX4, "add", "(II)I"⟩
abbrev cX4_set : ByteArray := prog_1_method_14_code
def yX4_set : MethodName := ⟨RX4, "set", "(III)I"⟩
abbrev cX4_hire : ByteArray := prog_1_method_15_code
def yX4_hire : MethodName := ⟨RX4, "hire", "(III)I"⟩
abbrev cX4_bind : ByteArray := prog_1_method_16_code
def yX4_bind : MethodName := ⟨RX4, "bind", "(II)I"⟩
abbrev cX4_out : ByteArray := prog_1_method_17_code
def yX4_out : MethodName := ⟨RX4, "out", "(II)I"⟩
abbrev cX4_over : ByteArray := prog_1_method_18_code
def yX4_over : MethodName := ⟨RX4, "over", "(II)I"⟩
abbrev cX4_plays : ByteArray := prog_1_method_19_code
def yX4_plays : MethodName := ⟨RX4, "plays", "(I)I"⟩
abbrev cX4_sounds : ByteArray := prog_1_method_20_code
def yX4_sounds : MethodName := ⟨RX4, "sounds", "(I)I"⟩
abbrev cX4_sum : ByteArray := prog_1_method_21_code
def yX4_sum : MethodName := ⟨RX4, "sum", "(I)I"⟩
abbrev cX4_first : ByteArray := prog_1_method_22_code
def yX4_first : MethodName := ⟨RX4, "first", "(I)I"⟩
abbrev cX4_best : ByteArray := prog_1_method_23_code
def yX4_best : MethodName := ⟨RX4, "best", "(I)I"⟩
abbrev cX4_apart : ByteArray := prog_1_method_24_code
def yX4_apart : MethodName := ⟨RX4, "apart", "(I)I"⟩
abbrev cX4_compose : ByteArray := prog_1_method_25_code
def yX4_compose : MethodName := ⟨RX4, "compose", "(II)I"⟩
abbrev cX4_bribe : ByteArray := prog_1_method_26_code
def yX4_bribe : MethodName := ⟨RX4, "bribe", "(III)I"⟩
abbrev cX4_teach : ByteArray := prog_1_method_27_code
def yX4_teach : MethodName := ⟨RX4, "teach", "(I)I"⟩
abbrev cX4_mean : ByteArray := prog_1_method_28_code
def yX4_mean : MethodName := ⟨RX4, "mean", "(II)J"⟩
abbrev cX4_luck : ByteArray := prog_1_method_29_code
def yX4_luck : MethodName := ⟨RX4, "luck", "(III)J"⟩
abbrev cX4_see : ByteArray := prog_1_method_30_code
def yX4_see : MethodName := ⟨RX4, "see", "(III)I"⟩
abbrev cX4_forget : ByteArray := prog_1_method_31_code
def yX4_forget : MethodName := ⟨RX4, "forget", "(I)I"⟩
abbrev cX4_fits : ByteArray := prog_1_method_32_code
def yX4_fits : MethodName := ⟨RX4, "fits", "(I)I"⟩
abbrev cX4_listen : ByteArray := prog_1_method_33_code
def yX4_listen : MethodName := ⟨RX4, "listen", "(II)I"⟩
abbrev cX4_drift : ByteArray := prog_1_method_34_code
def yX4_drift : MethodName := ⟨RX4, "drift", "(III)I"⟩
abbrev cX4_keep : ByteArray := prog_1_method_35_code
def yX4_keep : MethodName := ⟨RX4, "keep", "(I)I"⟩
abbrev cX4_back : ByteArray := prog_1_method_36_code
def yX4_back : MethodName := ⟨RX4, "back", "(I)I"⟩
abbrev cX4_sheet : ByteArray := prog_1_method_37_code
def yX4_sheet : MethodName := ⟨RX4, "sheet", "(III)I"⟩
abbrev cX4_lay : ByteArray := prog_1_method_38_code
def yX4_lay : MethodName := ⟨RX4, "lay", "(III)I"⟩
abbrev cX4_read : ByteArray := prog_1_method_39_code
def yX4_read : MethodName := ⟨RX4, "read", "(IIII)I"⟩
abbrev cX4_torn : ByteArray := prog_1_method_40_code
def yX4_torn : MethodName := ⟨RX4, "torn", "()I"⟩
abbrev cX4_count : ByteArray := prog_1_method_41_code
def yX4_count : MethodName := ⟨RX4, "count", "(I)I"⟩
abbrev cX4_within : ByteArray := prog_1_method_42_code
def yX4_within : MethodName := ⟨RX4, "within", "(III)Z"⟩
abbrev cX4_exchange : ByteArray := prog_1_method_43_code
def yX4_exchange : MethodName := ⟨RX4, "exchange", "([III)I"⟩
abbrev cX4_power : ByteArray := prog_1_method_44_code
def yX4_power : MethodName := ⟨RX4, "power", "(II)I"⟩
abbrev cX4_spread : ByteArray := prog_1_method_45_code
def yX4_spread : MethodName := ⟨RX4, "spread", "(II[II)V"⟩
abbrev cX4_weight : ByteArray := prog_1_method_46_code
def yX4_weight : MethodName := ⟨RX4, "weight", "(II)J"⟩
abbrev cX4_inLowestTerms : ByteArray := prog_1_method_47_code
def yX4_inLowestTerms : MethodName := ⟨RX4, "inLowestTerms", "(JJI)J"⟩
abbrev cX4_fittingKinds : ByteArray := prog_1_method_48_code
def yX4_fittingKinds : MethodName := ⟨RX4, "fittingKinds", "(I)I"⟩
abbrev cX4_leftAtWorst : ByteArray := prog_1_method_49_code
def yX4_leftAtWorst : MethodName := ⟨RX4, "leftAtWorst", "(III)I"⟩
abbrev cX4_nextSeed : ByteArray := prog_1_method_50_code
def yX4_nextSeed : MethodName := ⟨RX4, "nextSeed", "(I)I"⟩
abbrev cX4_middleBits : ByteArray := prog_1_method_51_code
def yX4_middleBits : MethodName := ⟨RX4, "middleBits", "(I)I"⟩
def RX5 : String := "TuneWardModel"
def TX5 : u_T := fun k => match k with
  | 0 => ("TuneWardModel", "state", "[I", true)
  | 1 => ("TuneWardModel", "tuneMany", "I", false)
  | 2 => ("TuneWardModel", "playerMany", "I", false)
  | 3 => ("TuneWardModel", "boundMany", "I", false)
  | 4 => ("TuneWardModel", "readPage", "[I", true)
  | 5 => ("TuneWardModel", "readTunes", "I", false)
  | 6 => ("TuneWardModel", "readPlayers", "I", false)
  | 7 => ("TuneWardModel", "readBound", "I", false)
  | 8 => ("TuneWardModel", "highTune", "I", false)
  | 9 => ("TuneWardModel", "tape", "[I", true)
  | 10 => ("TuneWardModel", "taped", "I", false)
  | 11 => ("TuneWardModel", "fault", "I", false)
  | 12 => ("TuneWardModel", "broken", "I", false)
  | 13 => ("TuneWardModel", "brokenAt", "I", false)
  | 14 => ("TuneWardModel", "spot", "I", false)
  | 15 => ("TuneWardModel", "here", "I", false)
  | 16 => ("TuneWardModel", "token", "I", false)
  | 17 => ("TuneWardModel", "value", "I", false)
  | 18 => ("TuneWardModel", "cuts", "[I", true)
  | 19 => ("TuneWardModel", "letters", "[I", true)
  | 20 => ("TuneWardModel", "breath", "[I", true)
  | 21 => ("TuneWardModel", "played", "[I", true)
  | 22 => ("TuneWardModel", "overAt", "[I", true)
  | 23 => ("TuneWardModel", "why", "[I", true)
  | 24 => ("TuneWardModel", "sounded", "[I", true)
  | 25 => ("TuneWardModel", "heard", "[I", true)
  | 26 => ("TuneWardModel", "silentOnes", "I", false)
  | 27 => ("TuneWardModel", "seen", "[I", true)
  | 28 => ("TuneWardModel", "seenMany", "I", false)
  | 29 => ("TuneWardModel", "drawn", "I", false)
  | 30 => ("TuneWardModel", "isKept", "[Z", true)
  | 31 => ("TuneWardModel", "lanes", "[I", true)
  | 32 => ("TuneWardModel", "lengths", "[I", true)
  | 33 => ("TuneWardModel", "cells", "[I", true)
  | _ => ("TuneWardModel", "torn", "I", false)
def tyX5 : Nat → FieldType := fun k => match k with
  | 0 => .array .int
  | 1 => .int
  | 2 => .int
  | 3 => .int
  | 4 => .array .int
  | 5 => .int
  | 6 => .int
  | 7 => .int
  | 8 => .int
  | 9 => .array .int
  | 10 => .int
  | 11 => .int
  | 12 => .int
  | 13 => .int
  | 14 => .int
  | 15 => .int
  | 16 => .int
  | 17 => .int
  | 18 => .array .int
  | 19 => .array .int
  | 20 => .array .int
  | 21 => .array .int
  | 22 => .array .int
  | 23 => .array .int
  | 24 => .array .int
  | 25 => .array .int
  | 26 => .int
  | 27 => .array .int
  | 28 => .int
  | 29 => .int
  | 30 => .array .boolean
  | 31 => .array .int
  | 32 => .array .int
  | 33 => .array .int
  | _ => .int
abbrev wsX50 : List Cond := u_ws RX5 TX5 35
theorem nmX5 : ∀ a, a < 35 → ∀ b, b < 35 → a ≠ b → (TX5 a).2.1 ≠ (TX5 b).2.1 := by decide +kernel
theorem tyX5_ok : ∀ k, k < 35 → parseFieldDescriptor (TX5 k).2.2.1 = some (tyX5 k) := by decide +kernel
abbrev cX5_init : ByteArray := prog_7_method_1_code
def yX5_init : MethodName := ⟨RX5, "<init>", "()V"⟩
abbrev cX5_in : ByteArray := prog_7_method_3_code
def yX5_in : MethodName := ⟨RX5, "in", "(JJJ)Z"⟩
abbrev cX5_feed : ByteArray := prog_7_method_4_code
def yX5_feed : MethodName := ⟨RX5, "feed", "(I)I"⟩
abbrev cX5_end : ByteArray := prog_7_method_5_code
def yX5_end : MethodName := ⟨RX5, "end", "(I)I"⟩
abbrev cX5_byteAt : ByteArray := prog_7_method_6_code
def yX5_byteAt : MethodName := ⟨RX5, "byteAt", "(I)I"⟩
abbrev cX5_fails : ByteArray := prog_7_method_7_code
def yX5_fails : MethodName := ⟨RX5, "fails", "(I)V"⟩
abbrev cX5_nameHere : ByteArray := prog_7_method_8_code
def yX5_nameHere : MethodName := ⟨RX5, "nameHere", "()I"⟩
abbrev cX5_step : ByteArray := prog_7_method_9_code
def yX5_step : MethodName := ⟨RX5, "step", "()V"⟩
abbrev cX5_number : ByteArray := prog_7_method_10_code
def yX5_number : MethodName := ⟨RX5, "number", "(II)I"⟩
abbrev cX5_tuneHere : ByteArray := prog_7_method_11_code
def yX5_tuneHere : MethodName := ⟨RX5, "tuneHere", "()I"⟩
abbrev cX5_readTune : ByteArray := prog_7_method_12_code
def yX5_readTune : MethodName := ⟨RX5, "readTune", "(I)V"⟩
abbrev cX5_readMore : ByteArray := prog_7_method_13_code
def yX5_readMore : MethodName := ⟨RX5, "readMore", "(I)V"⟩
abbrev cX5_readLine : ByteArray := prog_7_method_14_code
def yX5_readLine : MethodName := ⟨RX5, "readLine", "()V"⟩
abbrev cX5_text : ByteArray := prog_7_method_15_code
def yX5_text : MethodName := ⟨RX5, "text", "()I"⟩
abbrev cX5_fault : ByteArray := prog_7_method_16_code
def yX5_fault : MethodName := ⟨RX5, "fault", "()I"⟩
abbrev cX5_isTune : ByteArray := prog_7_method_17_code
def yX5_isTune : MethodName := ⟨RX5, "isTune", "(I)Z"⟩
abbrev cX5_isPlayer : ByteArray := prog_7_method_18_code
def yX5_isPlayer : MethodName := ⟨RX5, "isPlayer", "(I)Z"⟩
abbrev cX5_isBound : ByteArray := prog_7_method_19_code
def yX5_isBound : MethodName := ⟨RX5, "isBound", "(I)Z"⟩
abbrev cX5_rule : ByteArray := prog_7_method_20_code
def yX5_rule : MethodName := ⟨RX5, "rule", "(I)I"⟩
abbrev cX5_rowOf : ByteArray := prog_7_method_21_code
def yX5_rowOf : MethodName := ⟨RX5, "rowOf", "(II)I"⟩
abbrev cX5_lengthBy : ByteArray := prog_7_method_22_code
def yX5_lengthBy : MethodName := ⟨RX5, "lengthBy", "(II)I"⟩
abbrev cX5_lengthOf : ByteArray := prog_7_method_23_code
def yX5_lengthOf : MethodName := ⟨RX5, "lengthOf", "(I)I"⟩
abbrev cX5_noteBy : ByteArray := prog_7_method_24_code
def yX5_noteBy : MethodName := ⟨RX5, "noteBy", "(III)I"⟩
abbrev cX5_boundTo : ByteArray := prog_7_method_25_code
def yX5_boundTo : MethodName := ⟨RX5, "boundTo", "(I)I"⟩
abbrev cX5_tune : ByteArray := prog_7_method_26_code
def yX5_tune : MethodName := ⟨RX5, "tune", "(II)I"⟩
abbrev cX5_isNote : ByteArray := prog_7_method_27_code
def yX5_isNote : MethodName := ⟨RX5, "isNote", "(II)Z"⟩
abbrev cX5_note : ByteArray := prog_7_method_28_code
def yX5_note : MethodName := ⟨RX5, "note", "(II)I"⟩
abbrev cX5_isMinute : ByteArray := prog_7_method_29_code
def yX5_isMinute : MethodName := ⟨RX5, "isMinute", "(I)Z"⟩
abbrev cX5_has : ByteArray := prog_7_method_30_code
def yX5_has : MethodName := ⟨RX5, "has", "(II)I"⟩
abbrev cX5_player : ByteArray := prog_7_method_31_code
def yX5_player : MethodName := ⟨RX5, "player", "(II)I"⟩
abbrev cX5_bound : ByteArray := prog_7_method_32_code
def yX5_bound : MethodName := ⟨RX5, "bound", "(I)I"⟩
abbrev cX5_puts : ByteArray := prog_7_method_33_code
def yX5_puts : MethodName := ⟨RX5, "puts", "(ZII)I"⟩
abbrev cX5_write : ByteArray := prog_7_method_34_code
def yX5_write : MethodName := ⟨RX5, "write", "(III)I"⟩
abbrev cX5_add : ByteArray := prog_7_method_35_code
def yX5_add : MethodName := ⟨RX5, "add", "(II)I"⟩
abbrev cX5_set : ByteArray := prog_7_method_36_code
def yX5_set : MethodName := ⟨RX5, "set", "(III)I"⟩
abbrev cX5_hire : ByteArray := prog_7_method_37_code
def yX5_hire : MethodName := ⟨RX5, "hire", "(III)I"⟩
abbrev cX5_binds : ByteArray := prog_7_method_38_code
def yX5_binds : MethodName := ⟨RX5, "binds", "(II)I"⟩
abbrev cX5_bind : ByteArray := prog_7_method_39_code
def yX5_bind : MethodName := ⟨RX5, "bind", "(II)I"⟩
abbrev cX5_playerAt : ByteArray := prog_7_method_40_code
def yX5_playerAt : MethodName := ⟨RX5, "playerAt", "(I)I"⟩
abbrev cX5_ends : ByteArray := prog_7_method_41_code
def yX5_ends : MethodName := ⟨RX5, "ends", "(III)V"⟩
abbrev cX5_doesSound : ByteArray := prog_7_method_42_code
def yX5_doesSound : MethodName := ⟨RX5, "doesSound", "(II)Z"⟩
abbrev cX5_crosses : ByteArray := prog_7_method_43_code
def yX5_crosses : MethodName := ⟨RX5, "crosses", "(I)V"⟩
abbrev cX5_playing : ByteArray := prog_7_method_44_code
def yX5_playing : MethodName := ⟨RX5, "playing", "()V"⟩
abbrev cX5_away : ByteArray := prog_7_method_45_code
def yX5_away : MethodName := ⟨RX5, "away", "()I"⟩
abbrev cX5_bitsOf : ByteArray := prog_7_method_46_code
def yX5_bitsOf : MethodName := ⟨RX5, "bitsOf", "(I)I"⟩
abbrev cX5_awayMany : ByteArray := prog_7_method_47_code
def yX5_awayMany : MethodName := ⟨RX5, "awayMany", "()I"⟩
abbrev cX5_cost : ByteArray := prog_7_method_48_code
def yX5_cost : MethodName := ⟨RX5, "cost", "()I"⟩
abbrev cX5_out : ByteArray := prog_7_method_49_code
def yX5_out : MethodName := ⟨RX5, "out", "(II)I"⟩
abbrev cX5_over : ByteArray := prog_7_method_50_code
def yX5_over : MethodName := ⟨RX5, "over", "(II)I"⟩
abbrev cX5_plays : ByteArray := prog_7_method_51_code
def yX5_plays : MethodName := ⟨RX5, "plays", "(I)I"⟩
abbrev cX5_sounds : ByteArray := prog_7_method_52_code
def yX5_sounds : MethodName := ⟨RX5, "sounds", "(I)I"⟩
abbrev cX5_sum : ByteArray := prog_7_method_53_code
def yX5_sum : MethodName := ⟨RX5, "sum", "(I)I"⟩
abbrev cX5_first : ByteArray := prog_7_method_54_code
def yX5_first : MethodName := ⟨RX5, "first", "(I)I"⟩
abbrev cX5_copies : ByteArray := prog_7_method_55_code
def yX5_copies : MethodName := ⟨RX5, "copies", "(II)V"⟩
abbrev cX5_laysFigures : ByteArray := prog_7_method_56_code
def yX5_laysFigures : MethodName := ⟨RX5, "laysFigures", "(IIII)V"⟩
abbrev cX5_powerOf : ByteArray := prog_7_method_57_code
def yX5_powerOf : MethodName := ⟨RX5, "powerOf", "(II)I"⟩
abbrev cX5_best : ByteArray := prog_7_method_58_code
def yX5_best : MethodName := ⟨RX5, "best", "(I)I"⟩
abbrev cX5_apart : ByteArray := prog_7_method_59_code
def yX5_apart : MethodName := ⟨RX5, "apart", "(I)I"⟩
abbrev cX5_compose : ByteArray := prog_7_method_60_code
def yX5_compose : MethodName := ⟨RX5, "compose", "(II)I"⟩
abbrev cX5_bribe : ByteArray := prog_7_method_61_code
def yX5_bribe : MethodName := ⟨RX5, "bribe", "(III)I"⟩
abbrev cX5_teach : ByteArray := prog_7_method_62_code
def yX5_teach : MethodName := ⟨RX5, "teach", "(I)I"⟩
abbrev cX5_lowest : ByteArray := prog_7_method_63_code
def yX5_lowest : MethodName := ⟨RX5, "lowest", "(JJI)J"⟩
abbrev cX5_byStrings : ByteArray := prog_7_method_64_code
def yX5_byStrings : MethodName := ⟨RX5, "byStrings", "(III)J"⟩
abbrev cX5_mean : ByteArray := prog_7_method_65_code
def yX5_mean : MethodName := ⟨RX5, "mean", "(II)J"⟩
abbrev cX5_luck : ByteArray := prog_7_method_66_code
def yX5_luck : MethodName := ⟨RX5, "luck", "(III)J"⟩
abbrev cX5_see : ByteArray := prog_7_method_67_code
def yX5_see : MethodName := ⟨RX5, "see", "(III)I"⟩
abbrev cX5_forget : ByteArray := prog_7_method_68_code
def yX5_forget : MethodName := ⟨RX5, "forget", "(I)I"⟩
abbrev cX5_kindsOf : ByteArray := prog_7_method_69_code
def yX5_kindsOf : MethodName := ⟨RX5, "kindsOf", "(I)I"⟩
abbrev cX5_fits : ByteArray := prog_7_method_70_code
def yX5_fits : MethodName := ⟨RX5, "fits", "(I)I"⟩
abbrev cX5_listen : ByteArray := prog_7_method_71_code
def yX5_listen : MethodName := ⟨RX5, "listen", "(II)I"⟩
abbrev cX5_draws : ByteArray := prog_7_method_72_code
def yX5_draws : MethodName := ⟨RX5, "draws", "()I"⟩
abbrev cX5_drift : ByteArray := prog_7_method_73_code
def yX5_drift : MethodName := ⟨RX5, "drift", "(III)I"⟩
abbrev cX5_noteMany : ByteArray := prog_7_method_74_code
def yX5_noteMany : MethodName := ⟨RX5, "noteMany", "()I"⟩
abbrev cX5_keep : ByteArray := prog_7_method_75_code
def yX5_keep : MethodName := ⟨RX5, "keep", "(I)I"⟩
abbrev cX5_back : ByteArray := prog_7_method_76_code
def yX5_back : MethodName := ⟨RX5, "back", "(I)I"⟩
abbrev cX5_sheet : ByteArray := prog_7_method_77_code
def yX5_sheet : MethodName := ⟨RX5, "sheet", "(III)I"⟩
abbrev cX5_lay : ByteArray := prog_7_method_78_code
def yX5_lay : MethodName := ⟨RX5, "lay", "(III)I"⟩
abbrev cX5_read : ByteArray := prog_7_method_79_code
def yX5_read : MethodName := ⟨RX5, "read", "(IIII)I"⟩
abbrev cX5_torn : ByteArray := prog_7_method_80_code
def yX5_torn : MethodName := ⟨RX5, "torn", "()I"⟩
abbrev cX5_count : ByteArray := prog_7_method_81_code
def yX5_count : MethodName := ⟨RX5, "count", "(I)I"⟩
def RJ6 : String := "java/lang/Integer"
def TJ6 : u_T := fun k => match k with
  | _ => ("", "", "", false)
def tyJ6 : Nat → FieldType := fun k => match k with
  | _ => .int
abbrev cJ6_bitCount_0f7a4 : ByteArray := prog_8_method_49_code
def yJ6_bitCount_0f7a4 : MethodName := ⟨RJ6, "bitCount", "(I)I"⟩
def RJ9 : String := "java/lang/Math"
def TJ9 : u_T := fun k => match k with
  | _ => ("", "", "", false)
def tyJ9 : Nat → FieldType := fun k => match k with
  | _ => .int
abbrev cJ9_max_7cf53 : ByteArray := prog_9_method_65_code
def yJ9_max_7cf53 : MethodName := ⟨RJ9, "max", "(II)I"⟩
def RJ0 : String := "java/lang/String"
def TJ0 : u_T := fun k => match k with
  | _ => ("", "", "", false)
def tyJ0 : Nat → FieldType := fun k => match k with
  | _ => .int
abbrev cJ0_length_8abf5 : ByteArray := prog_10_method_54_code
def yJ0_length_8abf5 : MethodName := ⟨RJ0, "length", "()I"⟩
abbrev cJ0_charAt_5068e : ByteArray := prog_10_method_56_code
def yJ0_charAt_5068e : MethodName := ⟨RJ0, "charAt", "(I)C"⟩
abbrev cJ0_coder_7d493 : ByteArray := prog_10_method_152_code
def yJ0_coder_7d493 : MethodName := ⟨RJ0, "coder", "()B"⟩
abbrev cJ0_isLatin1_aae02 : ByteArray := prog_10_method_154_code
def yJ0_isLatin1_aae02 : MethodName := ⟨RJ0, "isLatin1", "()Z"⟩
abbrev cJ0_checkIndex_df160 : ByteArray := prog_10_method_155_code
def yJ0_checkIndex_df160 : MethodName := ⟨RJ0, "checkIndex", "(II)V"⟩
def RJ1 : String := "java/lang/StringLatin1"
def TJ1 : u_T := fun k => match k with
  | _ => ("", "", "", false)
def tyJ1 : Nat → FieldType := fun k => match k with
  | _ => .int
abbrev cJ1_charAt_3b067 : ByteArray := prog_11_method_2_code
def yJ1_charAt_3b067 : MethodName := ⟨RJ1, "charAt", "([BI)C"⟩
def RJ2 : String := "java/lang/StringUTF16"
def TJ2 : u_T := fun k => match k with
  | _ => ("", "", "", false)
def tyJ2 : Nat → FieldType := fun k => match k with
  | _ => .int
abbrev cJ2_getChar_3b067 : ByteArray := prog_12_method_5_code
def yJ2_getChar_3b067 : MethodName := ⟨RJ2, "getChar", "([BI)C"⟩
abbrev cJ2_length_9d52b : ByteArray := prog_12_method_6_code
def yJ2_length_9d52b : MethodName := ⟨RJ2, "length", "([B)I"⟩
abbrev cJ2_charAt_3b067 : ByteArray := prog_12_method_83_code
def yJ2_charAt_3b067 : MethodName := ⟨RJ2, "charAt", "([BI)C"⟩
abbrev cJ2_checkIndex_2214a : ByteArray := prog_12_method_91_code
def yJ2_checkIndex_2214a : MethodName := ⟨RJ2, "checkIndex", "(I[B)V"⟩
def RJ10 : String := "java/lang/System"
def TJ10 : u_T := fun k => match k with
  | _ => ("", "", "", false)
def tyJ10 : Nat → FieldType := fun k => match k with
  | _ => .int
def RJ3 : String := "jdk/internal/util/Preconditions"
def TJ3 : u_T := fun k => match k with
  | _ => ("", "", "", false)
def tyJ3 : Nat → FieldType := fun k => match k with
  | _ => .int
abbrev cJ3_checkIndex_8e157 : ByteArray := prog_14_method_11_code
def yJ3_checkIndex_8e157 : MethodName := ⟨RJ3, "checkIndex", "(IILjava/util/function/BiFunction;)I"⟩
def RL : String := "TuneWardLaw"
abbrev cL_law : ByteArray := code
def yL_law : MethodName := ⟨RL, "law", "([I)Z"⟩
abbrev vwCl : List vw_C := [(RX0, TX0, 13), (RX1, TX1, 10), (RX2, TX2, 4), (RX3, TX3, 7), (RX4, TX4, 13), (RX5, TX5, 35)]
/-- the words of the tables that hold at every later state, too -/
def wT : List Cond := lw_tbl.filter goodWord
theorem wT_good : GoodIn wT wT := fun w h => ⟨h, good_of_word (List.mem_filter.mp h).2⟩
theorem wT_in : ∀ w ∈ wT, w ∈ lw_tbl := fun w h => (List.mem_filter.mp h).1
theorem inTb_p {w : Cond} (i : Nat) (h : (k2_sels lw_privs)[i]? = some w) : w ∈ lw_tbl := List.mem_append_left _ (List.mem_of_getElem? h)
theorem inTb_1 {w : Cond} (i : Nat) (h : tables_1_1[i]? = some w) : w ∈ lw_tbl := List.mem_append_right _ (List.mem_append_left _ (List.mem_of_getElem? h))
theorem inTb_2 {w : Cond} (i : Nat) (h : tables_1_2[i]? = some w) : w ∈ lw_tbl := List.mem_append_right _ (List.mem_append_right _ (List.mem_append_left _ (List.mem_of_getElem? h)))
theorem inTb_3 {w : Cond} (i : Nat) (h : tables_1_3[i]? = some w) : w ∈ lw_tbl := List.mem_append_right _ (List.mem_append_right _ (List.mem_append_right _ (List.mem_append_left _ (List.mem_of_getElem? h))))
theorem inTb_4 {w : Cond} (i : Nat) (h : tables_1_4[i]? = some w) : w ∈ lw_tbl := List.mem_append_right _ (List.mem_append_right _ (List.mem_append_right _ (List.mem_append_right _ (List.mem_append_left _ (List.mem_of_getElem? h)))))
theorem inTb_5 {w : Cond} (i : Nat) (h : tables_1_5[i]? = some w) : w ∈ lw_tbl := List.mem_append_right _ (List.mem_append_right _ (List.mem_append_right _ (List.mem_append_right _ (List.mem_append_right _ (List.mem_of_getElem? h)))))
theorem wT_of {w : Cond} (h : w ∈ lw_tbl) (hg : goodWord w = true) : w ∈ wT := List.mem_filter.mpr ⟨h, hg⟩
theorem w0 : Jvm.Cond.selects "TuneWard$Tape" ({ cls := "TuneWard$Tape", name := "advance", desc := "()V" } : Jvm.MethodName) ({ cls := "TuneWard$Tape", name := "advance", desc := "()V" } : Jvm.MethodName) ∈ wT := wT_of (inTb_p 0 rfl) rfl
theorem w1 : Jvm.Cond.selects "TuneWard$Tape" ({ cls := "TuneWard$Tape", name := "pass", desc := "(II)V" } : Jvm.MethodName) ({ cls := "TuneWard$Tape", name := "pass", desc := "(II)V" } : Jvm.MethodName) ∈ wT := wT_of (inTb_p 1 rfl) rfl
theorem w2 : Jvm.Cond.selects "TuneWard$Tape" ({ cls := "TuneWard$Tape", name := "tellLine", desc := "(LTuneWard$House;)V" } : Jvm.MethodName) ({ cls := "TuneWard$Tape", name := "tellLine", desc := "(LTuneWard$House;)V" } : Jvm.MethodName) ∈ wT := wT_of (inTb_p 2 rfl) rfl
theorem w3 : Jvm.Cond.selects "TuneWard$Tape" ({ cls := "TuneWard$Tape", name := "fail", desc := "(II)V" } : Jvm.MethodName) ({ cls := "TuneWard$Tape", name := "fail", desc := "(II)V" } : Jvm.MethodName) ∈ wT := wT_of (inTb_p 3 rfl) rfl
theorem w4 : Jvm.Cond.selects "TuneWard$Tape" ({ cls := "TuneWard$Tape", name := "isName", desc := "(Ljava/lang/String;)Z" } : Jvm.MethodName) ({ cls := "TuneWard$Tape", name := "isName", desc := "(Ljava/lang/String;)Z" } : Jvm.MethodName) ∈ wT := wT_of (inTb_p 4 rfl) rfl
theorem w5 : Jvm.Cond.selects "TuneWard$Tape" ({ cls := "TuneWard$Tape", name := "tellTune", desc := "(LTuneWard$House;I)V" } : Jvm.MethodName) ({ cls := "TuneWard$Tape", name := "tellTune", desc := "(LTuneWard$House;I)V" } : Jvm.MethodName) ∈ wT := wT_of (inTb_p 5 rfl) rfl
theorem w6 : Jvm.Cond.selects "TuneWard$Tape" ({ cls := "TuneWard$Tape", name := "nextNumber", desc := "(II)I" } : Jvm.MethodName) ({ cls := "TuneWard$Tape", name := "nextNumber", desc := "(II)I" } : Jvm.MethodName) ∈ wT := wT_of (inTb_p 6 rfl) rfl
theorem w7 : Jvm.Cond.selects "TuneWard$Tape" ({ cls := "TuneWard$Tape", name := "number", desc := "(II)I" } : Jvm.MethodName) ({ cls := "TuneWard$Tape", name := "number", desc := "(II)I" } : Jvm.MethodName) ∈ wT := wT_of (inTb_p 7 rfl) rfl
theorem w8 : Jvm.Cond.selects "TuneWard$Tape" ({ cls := "TuneWard$Tape", name := "sign", desc := "()V" } : Jvm.MethodName) ({ cls := "TuneWard$Tape", name := "sign", desc := "()V" } : Jvm.MethodName) ∈ wT := wT_of (inTb_p 8 rfl) rfl
theorem w9 : Jvm.Cond.selects "TuneWard$Tape" ({ cls := "TuneWard$Tape", name := "tellPlayer", desc := "(LTuneWard$House;)V" } : Jvm.MethodName) ({ cls := "TuneWard$Tape", name := "tellPlayer", desc := "(LTuneWard$House;)V" } : Jvm.MethodName) ∈ wT := wT_of (inTb_p 9 rfl) rfl
theorem w10 : Jvm.Cond.selects "TuneWard$Tape" ({ cls := "TuneWard$Tape", name := "tellBound", desc := "(LTuneWard$House;)V" } : Jvm.MethodName) ({ cls := "TuneWard$Tape", name := "tellBound", desc := "(LTuneWard$House;)V" } : Jvm.MethodName) ∈ wT := wT_of (inTb_p 10 rfl) rfl
theorem w11 : Jvm.Cond.selects "TuneWard$Playing" ({ cls := "TuneWard$Playing", name := "prepareTune", desc := "(LTuneWard$House;I)V" } : Jvm.MethodName) ({ cls := "TuneWard$Playing", name := "prepareTune", desc := "(LTuneWard$House;I)V" } : Jvm.MethodName) ∈ wT := wT_of (inTb_p 11 rfl) rfl
theorem w12 : Jvm.Cond.selects "TuneWard$Playing" ({ cls := "TuneWard$Playing", name := "noteHeard", desc := "(LTuneWard$House;II)I" } : Jvm.MethodName) ({ cls := "TuneWard$Playing", name := "noteHeard", desc := "(LTuneWard$House;II)I" } : Jvm.MethodName) ∈ wT := wT_of (inTb_p 12 rfl) rfl
theorem w13 : Jvm.Cond.selects "TuneWard$Playing" ({ cls := "TuneWard$Playing", name := "finish", desc := "(III)V" } : Jvm.MethodName) ({ cls := "TuneWard$Playing", name := "finish", desc := "(III)V" } : Jvm.MethodName) ∈ wT := wT_of (inTb_p 13 rfl) rfl
theorem w14 : Jvm.Cond.selects "TuneWard$Playing" ({ cls := "TuneWard$Playing", name := "playerOf", desc := "(LTuneWard$House;I)I" } : Jvm.MethodName) ({ cls := "TuneWard$Playing", name := "playerOf", desc := "(LTuneWard$House;I)I" } : Jvm.MethodName) ∈ wT := wT_of (inTb_p 14 rfl) rfl
theorem w15 : Jvm.Cond.selects "TuneWard$Playing" ({ cls := "TuneWard$Playing", name := "crossAll", desc := "(LTuneWard$House;I)V" } : Jvm.MethodName) ({ cls := "TuneWard$Playing", name := "crossAll", desc := "(LTuneWard$House;I)V" } : Jvm.MethodName) ∈ wT := wT_of (inTb_p 15 rfl) rfl
theorem w16 : Jvm.Cond.selects "TuneWard$Playing" ({ cls := "TuneWard$Playing", name := "crossThird", desc := "(LTuneWard$House;III)V" } : Jvm.MethodName) ({ cls := "TuneWard$Playing", name := "crossThird", desc := "(LTuneWard$House;III)V" } : Jvm.MethodName) ∈ wT := wT_of (inTb_p 16 rfl) rfl
theorem w17 : Jvm.Cond.selects "TuneWard" ({ cls := "TuneWard", name := "weight", desc := "(II)J" } : Jvm.MethodName) ({ cls := "TuneWard", name := "weight", desc := "(II)J" } : Jvm.MethodName) ∈ wT := wT_of (inTb_p 17 rfl) rfl
theorem w18 : Jvm.Cond.selects "TuneWard" ({ cls := "TuneWard", name := "fittingKinds", desc := "(I)I" } : Jvm.MethodName) ({ cls := "TuneWard", name := "fittingKinds", desc := "(I)I" } : Jvm.MethodName) ∈ wT := wT_of (inTb_p 18 rfl) rfl
theorem w19 : Jvm.Cond.selects "TuneWard" ({ cls := "TuneWard", name := "leftAtWorst", desc := "(III)I" } : Jvm.MethodName) ({ cls := "TuneWard", name := "leftAtWorst", desc := "(III)I" } : Jvm.MethodName) ∈ wT := wT_of (inTb_p 19 rfl) rfl
theorem w20 : Jvm.Cond.selects "TuneWardModel" ({ cls := "TuneWardModel", name := "step", desc := "()V" } : Jvm.MethodName) ({ cls := "TuneWardModel", name := "step", desc := "()V" } : Jvm.MethodName) ∈ wT := wT_of (inTb_p 20 rfl) rfl
theorem w21 : Jvm.Cond.selects "TuneWardModel" ({ cls := "TuneWardModel", name := "byteAt", desc := "(I)I" } : Jvm.MethodName) ({ cls := "TuneWardModel", name := "byteAt", desc := "(I)I" } : Jvm.MethodName) ∈ wT := wT_of (inTb_p 21 rfl) rfl
theorem w22 : Jvm.Cond.selects "TuneWardModel" ({ cls := "TuneWardModel", name := "fails", desc := "(I)V" } : Jvm.MethodName) ({ cls := "TuneWardModel", name := "fails", desc := "(I)V" } : Jvm.MethodName) ∈ wT := wT_of (inTb_p 22 rfl) rfl
theorem w23 : Jvm.Cond.selects "TuneWardModel" ({ cls := "TuneWardModel", name := "readLine", desc := "()V" } : Jvm.MethodName) ({ cls := "TuneWardModel", name := "readLine", desc := "()V" } : Jvm.MethodName) ∈ wT := wT_of (inTb_p 23 rfl) rfl
theorem w24 : Jvm.Cond.selects "TuneWardModel" ({ cls := "TuneWardModel", name := "nameHere", desc := "()I" } : Jvm.MethodName) ({ cls := "TuneWardModel", name := "nameHere", desc := "()I" } : Jvm.MethodName) ∈ wT := wT_of (inTb_p 24 rfl) rfl
theorem w25 : Jvm.Cond.selects "TuneWardModel" ({ cls := "TuneWardModel", name := "readMore", desc := "(I)V" } : Jvm.MethodName) ({ cls := "TuneWardModel", name := "readMore", desc := "(I)V" } : Jvm.MethodName) ∈ wT := wT_of (inTb_p 25 rfl) rfl
theorem w26 : Jvm.Cond.selects "TuneWardModel" ({ cls := "TuneWardModel", name := "readTune", desc := "(I)V" } : Jvm.MethodName) ({ cls := "TuneWardModel", name := "readTune", desc := "(I)V" } : Jvm.MethodName) ∈ wT := wT_of (inTb_p 26 rfl) rfl
theorem w27 : Jvm.Cond.selects "TuneWardModel" ({ cls := "TuneWardModel", name := "number", desc := "(II)I" } : Jvm.MethodName) ({ cls := "TuneWardModel", name := "number", desc := "(II)I" } : Jvm.MethodName) ∈ wT := wT_of (inTb_p 27 rfl) rfl
theorem w28 : Jvm.Cond.selects "TuneWardModel" ({ cls := "TuneWardModel", name := "tuneHere", desc := "()I" } : Jvm.MethodName) ({ cls := "TuneWardModel", name := "tuneHere", desc := "()I" } : Jvm.MethodName) ∈ wT := wT_of (inTb_p 28 rfl) rfl
theorem w29 : Jvm.Cond.selects "TuneWardModel" ({ cls := "TuneWardModel", name := "isTune", desc := "(I)Z" } : Jvm.MethodName) ({ cls := "TuneWardModel", name := "isTune", desc := "(I)Z" } : Jvm.MethodName) ∈ wT := wT_of (inTb_p 29 rfl) rfl
theorem w30 : Jvm.Cond.selects "TuneWardModel" ({ cls := "TuneWardModel", name := "lengthOf", desc := "(I)I" } : Jvm.MethodName) ({ cls := "TuneWardModel", name := "lengthOf", desc := "(I)I" } : Jvm.MethodName) ∈ wT := wT_of (inTb_p 30 rfl) rfl
theorem w31 : Jvm.Cond.selects "TuneWardModel" ({ cls := "TuneWardModel", name := "lengthBy", desc := "(II)I" } : Jvm.MethodName) ({ cls := "TuneWardModel", name := "lengthBy", desc := "(II)I" } : Jvm.MethodName) ∈ wT := wT_of (inTb_p 31 rfl) rfl
theorem w32 : Jvm.Cond.selects "TuneWardModel" ({ cls := "TuneWardModel", name := "boundTo", desc := "(I)I" } : Jvm.MethodName) ({ cls := "TuneWardModel", name := "boundTo", desc := "(I)I" } : Jvm.MethodName) ∈ wT := wT_of (inTb_p 32 rfl) rfl
theorem w33 : Jvm.Cond.selects "TuneWardModel" ({ cls := "TuneWardModel", name := "isNote", desc := "(II)Z" } : Jvm.MethodName) ({ cls := "TuneWardModel", name := "isNote", desc := "(II)Z" } : Jvm.MethodName) ∈ wT := wT_of (inTb_p 33 rfl) rfl
theorem w34 : Jvm.Cond.selects "TuneWardModel" ({ cls := "TuneWardModel", name := "noteBy", desc := "(III)I" } : Jvm.MethodName) ({ cls := "TuneWardModel", name := "noteBy", desc := "(III)I" } : Jvm.MethodName) ∈ wT := wT_of (inTb_p 34 rfl) rfl
theorem w35 : Jvm.Cond.selects "TuneWardModel" ({ cls := "TuneWardModel", name := "isPlayer", desc := "(I)Z" } : Jvm.MethodName) ({ cls := "TuneWardModel", name := "isPlayer", desc := "(I)Z" } : Jvm.MethodName) ∈ wT := wT_of (inTb_p 35 rfl) rfl
theorem w36 : Jvm.Cond.selects "TuneWardModel" ({ cls := "TuneWardModel", name := "isBound", desc := "(I)Z" } : Jvm.MethodName) ({ cls := "TuneWardModel", name := "isBound", desc := "(I)Z" } : Jvm.MethodName) ∈ wT := wT_of (inTb_p 36 rfl) rfl
theorem w37 : Jvm.Cond.selects "TuneWardModel" ({ cls := "TuneWardModel", name := "puts", desc := "(ZII)I" } : Jvm.MethodName) ({ cls := "TuneWardModel", name := "puts", desc := "(ZII)I" } : Jvm.MethodName) ∈ wT := wT_of (inTb_p 37 rfl) rfl
theorem w38 : Jvm.Cond.selects "TuneWardModel" ({ cls := "TuneWardModel", name := "binds", desc := "(II)I" } : Jvm.MethodName) ({ cls := "TuneWardModel", name := "binds", desc := "(II)I" } : Jvm.MethodName) ∈ wT := wT_of (inTb_p 38 rfl) rfl
theorem w39 : Jvm.Cond.selects "TuneWardModel" ({ cls := "TuneWardModel", name := "playing", desc := "()V" } : Jvm.MethodName) ({ cls := "TuneWardModel", name := "playing", desc := "()V" } : Jvm.MethodName) ∈ wT := wT_of (inTb_p 39 rfl) rfl
theorem w40 : Jvm.Cond.selects "TuneWardModel" ({ cls := "TuneWardModel", name := "doesSound", desc := "(II)Z" } : Jvm.MethodName) ({ cls := "TuneWardModel", name := "doesSound", desc := "(II)Z" } : Jvm.MethodName) ∈ wT := wT_of (inTb_p 40 rfl) rfl
theorem w41 : Jvm.Cond.selects "TuneWardModel" ({ cls := "TuneWardModel", name := "ends", desc := "(III)V" } : Jvm.MethodName) ({ cls := "TuneWardModel", name := "ends", desc := "(III)V" } : Jvm.MethodName) ∈ wT := wT_of (inTb_p 41 rfl) rfl
theorem w42 : Jvm.Cond.selects "TuneWardModel" ({ cls := "TuneWardModel", name := "playerAt", desc := "(I)I" } : Jvm.MethodName) ({ cls := "TuneWardModel", name := "playerAt", desc := "(I)I" } : Jvm.MethodName) ∈ wT := wT_of (inTb_p 42 rfl) rfl
theorem w43 : Jvm.Cond.selects "TuneWardModel" ({ cls := "TuneWardModel", name := "crosses", desc := "(I)V" } : Jvm.MethodName) ({ cls := "TuneWardModel", name := "crosses", desc := "(I)V" } : Jvm.MethodName) ∈ wT := wT_of (inTb_p 43 rfl) rfl
theorem w44 : Jvm.Cond.selects "TuneWardModel" ({ cls := "TuneWardModel", name := "away", desc := "()I" } : Jvm.MethodName) ({ cls := "TuneWardModel", name := "away", desc := "()I" } : Jvm.MethodName) ∈ wT := wT_of (inTb_p 44 rfl) rfl
theorem w45 : Jvm.Cond.selects "TuneWardModel" ({ cls := "TuneWardModel", name := "cost", desc := "()I" } : Jvm.MethodName) ({ cls := "TuneWardModel", name := "cost", desc := "()I" } : Jvm.MethodName) ∈ wT := wT_of (inTb_p 45 rfl) rfl
theorem w46 : Jvm.Cond.selects "TuneWardModel" ({ cls := "TuneWardModel", name := "copies", desc := "(II)V" } : Jvm.MethodName) ({ cls := "TuneWardModel", name := "copies", desc := "(II)V" } : Jvm.MethodName) ∈ wT := wT_of (inTb_p 46 rfl) rfl
theorem w47 : Jvm.Cond.selects "TuneWardModel" ({ cls := "TuneWardModel", name := "laysFigures", desc := "(IIII)V" } : Jvm.MethodName) ({ cls := "TuneWardModel", name := "laysFigures", desc := "(IIII)V" } : Jvm.MethodName) ∈ wT := wT_of (inTb_p 47 rfl) rfl
theorem w48 : Jvm.Cond.selects "TuneWardModel" ({ cls := "TuneWardModel", name := "awayMany", desc := "()I" } : Jvm.MethodName) ({ cls := "TuneWardModel", name := "awayMany", desc := "()I" } : Jvm.MethodName) ∈ wT := wT_of (inTb_p 48 rfl) rfl
theorem w49 : Jvm.Cond.selects "TuneWardModel" ({ cls := "TuneWardModel", name := "byStrings", desc := "(III)J" } : Jvm.MethodName) ({ cls := "TuneWardModel", name := "byStrings", desc := "(III)J" } : Jvm.MethodName) ∈ wT := wT_of (inTb_p 49 rfl) rfl
theorem w50 : Jvm.Cond.selects "TuneWardModel" ({ cls := "TuneWardModel", name := "kindsOf", desc := "(I)I" } : Jvm.MethodName) ({ cls := "TuneWardModel", name := "kindsOf", desc := "(I)I" } : Jvm.MethodName) ∈ wT := wT_of (inTb_p 50 rfl) rfl
theorem w51 : Jvm.Cond.selects "TuneWardModel" ({ cls := "TuneWardModel", name := "draws", desc := "()I" } : Jvm.MethodName) ({ cls := "TuneWardModel", name := "draws", desc := "()I" } : Jvm.MethodName) ∈ wT := wT_of (inTb_p 51 rfl) rfl
theorem w52 : Jvm.Cond.selects "TuneWardModel" ({ cls := "TuneWardModel", name := "noteMany", desc := "()I" } : Jvm.MethodName) ({ cls := "TuneWardModel", name := "noteMany", desc := "()I" } : Jvm.MethodName) ∈ wT := wT_of (inTb_p 52 rfl) rfl
theorem w53 : Jvm.Cond.initialized "TuneWardLaw" ∈ wT := wT_of (inTb_1 0 rfl) rfl
theorem w54 : Jvm.Cond.initialized "TuneWard" ∈ wT := wT_of (inTb_1 1 rfl) rfl
theorem w55 : Jvm.Cond.initialized "TuneWard$House" ∈ wT := wT_of (inTb_1 2 rfl) rfl
theorem w56 : Jvm.Cond.initialized "TuneWard$Tape" ∈ wT := wT_of (inTb_1 3 rfl) rfl
theorem w57 : Jvm.Cond.initialized "TuneWard$Playing" ∈ wT := wT_of (inTb_1 4 rfl) rfl
theorem w58 : Jvm.Cond.initialized "TuneWard$Sheet" ∈ wT := wT_of (inTb_1 5 rfl) rfl
theorem w59 : Jvm.Cond.initialized "TuneWardModel" ∈ wT := wT_of (inTb_1 6 rfl) rfl
theorem w60 : Jvm.Cond.initialized "java/lang/String" ∈ wT := wT_of (inTb_1 7 rfl) rfl
theorem w61 : Jvm.Cond.initialized "java/lang/StringLatin1" ∈ wT := wT_of (inTb_1 8 rfl) rfl
theorem w62 : Jvm.Cond.initialized "jdk/internal/util/Preconditions" ∈ wT := wT_of (inTb_1 9 rfl) rfl
theorem w63 : Jvm.Cond.initialized "java/lang/StringUTF16" ∈ wT := wT_of (inTb_1 10 rfl) rfl
theorem w64 : Jvm.Cond.initialized "java/lang/System" ∈ wT := wT_of (inTb_1 11 rfl) rfl
theorem w65 : Jvm.Cond.initialized "java/lang/Math" ∈ wT := wT_of (inTb_1 12 rfl) rfl
theorem w66 : Jvm.Cond.initialized "java/lang/Integer" ∈ wT := wT_of (inTb_1 13 rfl) rfl
theorem w67 : Jvm.Cond.classLink "TuneWardLaw" (7 : Nat) "TuneWard" ∈ wT := wT_of (inTb_1 14 rfl) rfl
theorem w68 : Jvm.Cond.instantiable "TuneWard" (13 : Nat) ∈ wT := wT_of (inTb_1 15 rfl) rfl
theorem w69 : Jvm.Cond.methodLink "TuneWardLaw" (9 : Nat) ({ cls := "TuneWard", name := "<init>", desc := "()V" } : Jvm.MethodName) ∈ wT := wT_of (inTb_1 16 rfl) rfl
theorem w70 : Jvm.Cond.instanceMethod ({ cls := "TuneWard", name := "<init>", desc := "()V" } : Jvm.MethodName) ∈ wT := wT_of (inTb_1 17 rfl) rfl
theorem w71 : Jvm.Cond.code ({ cls := "TuneWard", name := "<init>", desc := "()V" } : Jvm.MethodName) prog_1_method_1_code (2 : Nat) (Option.none : Option Jvm.ClassFile.FieldType) ∈ wT := wT_of (inTb_1 18 rfl) rfl
theorem w72 : Jvm.Cond.methodLink "TuneWard" (1 : Nat) ({ cls := "java/lang/Object", name := "<init>", desc := "()V" } : Jvm.MethodName) ∈ wT := wT_of (inTb_1 19 rfl) rfl
theorem w73 : Jvm.Cond.instanceMethod ({ cls := "java/lang/Object", name := "<init>", desc := "()V" } : Jvm.MethodName) ∈ wT := wT_of (inTb_1 20 rfl) rfl
theorem w74 : Jvm.Cond.code ({ cls := "java/lang/Object", name := "<init>", desc := "()V" } : Jvm.MethodName) object_method_1_code (1 : Nat) (Option.none : Option Jvm.ClassFile.FieldType) ∈ wT := wT_of (inTb_1 21 rfl) rfl
theorem w75 : Jvm.Cond.classLink "TuneWard" (7 : Nat) "TuneWard$House" ∈ wT := wT_of (inTb_1 22 rfl) rfl
theorem w76 : Jvm.Cond.instantiable "TuneWard$House" (13 : Nat) ∈ wT := wT_of (inTb_1 23 rfl) rfl
theorem w77 : Jvm.Cond.methodLinkNest "TuneWard" (9 : Nat) ({ cls := "TuneWard$House", name := "<init>", desc := "()V" } : Jvm.MethodName) "TuneWard" ∈ lw_tbl := inTb_1 24 rfl
theorem w78 : Jvm.Cond.instanceMethod ({ cls := "TuneWard$House", name := "<init>", desc := "()V" } : Jvm.MethodName) ∈ wT := wT_of (inTb_1 25 rfl) rfl
theorem w79 : Jvm.Cond.code ({ cls := "TuneWard$House", name := "<init>", desc := "()V" } : Jvm.MethodName) prog_2_method_1_code (1 : Nat) (Option.none : Option Jvm.ClassFile.FieldType) ∈ wT := wT_of (inTb_1 26 rfl) rfl
theorem w80 : Jvm.Cond.methodLink "TuneWard$House" (3 : Nat) ({ cls := "java/lang/Object", name := "<init>", desc := "()V" } : Jvm.MethodName) ∈ wT := wT_of (inTb_1 27 rfl) rfl
theorem w81 : Jvm.Cond.fieldLink "TuneWard$House" (9 : Nat) "TuneWard$House" "tunes" "I" ∈ wT := wT_of (inTb_1 28 rfl) rfl
theorem w82 : Jvm.Cond.fieldLink "TuneWard$Playing" (43 : Nat) "TuneWard$House" "tunes" "I" ∈ wT := wT_of (inTb_1 29 rfl) rfl
theorem w83 : Jvm.Cond.fieldLink "TuneWard$Tape" (80 : Nat) "TuneWard$House" "tunes" "I" ∈ wT := wT_of (inTb_1 30 rfl) rfl
theorem w84 : Jvm.Cond.fieldLink "TuneWard" (90 : Nat) "TuneWard$House" "tunes" "I" ∈ wT := wT_of (inTb_1 31 rfl) rfl
theorem w85 : Jvm.Cond.fieldLink "TuneWard$House" (15 : Nat) "TuneWard$House" "players" "I" ∈ wT := wT_of (inTb_1 32 rfl) rfl
theorem w86 : Jvm.Cond.fieldLink "TuneWard$Playing" (52 : Nat) "TuneWard$House" "players" "I" ∈ wT := wT_of (inTb_1 33 rfl) rfl
theorem w87 : Jvm.Cond.fieldLink "TuneWard$Tape" (108 : Nat) "TuneWard$House" "players" "I" ∈ wT := wT_of (inTb_1 34 rfl) rfl
theorem w88 : Jvm.Cond.fieldLink "TuneWard" (93 : Nat) "TuneWard$House" "players" "I" ∈ wT := wT_of (inTb_1 35 rfl) rfl
theorem w89 : Jvm.Cond.fieldLink "TuneWard$House" (18 : Nat) "TuneWard$House" "prisoners" "I" ∈ wT := wT_of (inTb_1 36 rfl) rfl
theorem w90 : Jvm.Cond.fieldLink "TuneWard" (96 : Nat) "TuneWard$House" "prisoners" "I" ∈ wT := wT_of (inTb_1 37 rfl) rfl
theorem w91 : Jvm.Cond.fieldLink "TuneWard$Tape" (123 : Nat) "TuneWard$House" "prisoners" "I" ∈ wT := wT_of (inTb_1 38 rfl) rfl
theorem w92 : Jvm.Cond.fieldLink "TuneWard$Playing" (105 : Nat) "TuneWard$House" "prisoners" "I" ∈ wT := wT_of (inTb_1 39 rfl) rfl
theorem w93 : Jvm.Cond.fieldLink "TuneWard$House" (21 : Nat) "TuneWard$House" "kind" "[I" ∈ wT := wT_of (inTb_1 40 rfl) rfl
theorem w94 : Jvm.Cond.fieldLink "TuneWard$Playing" (68 : Nat) "TuneWard$House" "kind" "[I" ∈ wT := wT_of (inTb_1 41 rfl) rfl
theorem w95 : Jvm.Cond.fieldLink "TuneWard$Tape" (83 : Nat) "TuneWard$House" "kind" "[I" ∈ wT := wT_of (inTb_1 42 rfl) rfl
theorem w96 : Jvm.Cond.fieldLink "TuneWard" (103 : Nat) "TuneWard$House" "kind" "[I" ∈ wT := wT_of (inTb_1 43 rfl) rfl
theorem w97 : Jvm.Cond.fieldLink "TuneWard$House" (25 : Nat) "TuneWard$House" "notes" "[I" ∈ wT := wT_of (inTb_1 44 rfl) rfl
theorem w98 : Jvm.Cond.fieldLink "TuneWard$Playing" (75 : Nat) "TuneWard$House" "notes" "[I" ∈ wT := wT_of (inTb_1 45 rfl) rfl
theorem w99 : Jvm.Cond.fieldLink "TuneWard$Tape" (99 : Nat) "TuneWard$House" "notes" "[I" ∈ wT := wT_of (inTb_1 46 rfl) rfl
theorem w100 : Jvm.Cond.fieldLink "TuneWard" (106 : Nat) "TuneWard$House" "notes" "[I" ∈ wT := wT_of (inTb_1 47 rfl) rfl
theorem w101 : Jvm.Cond.fieldLink "TuneWard$House" (28 : Nat) "TuneWard$House" "times" "[I" ∈ wT := wT_of (inTb_1 48 rfl) rfl
theorem w102 : Jvm.Cond.fieldLink "TuneWard$Tape" (86 : Nat) "TuneWard$House" "times" "[I" ∈ wT := wT_of (inTb_1 49 rfl) rfl
theorem w103 : Jvm.Cond.fieldLink "TuneWard" (109 : Nat) "TuneWard$House" "times" "[I" ∈ wT := wT_of (inTb_1 50 rfl) rfl
theorem w104 : Jvm.Cond.fieldLink "TuneWard$House" (31 : Nat) "TuneWard$House" "start" "[I" ∈ wT := wT_of (inTb_1 51 rfl) rfl
theorem w105 : Jvm.Cond.fieldLink "TuneWard$Playing" (58 : Nat) "TuneWard$House" "start" "[I" ∈ wT := wT_of (inTb_1 52 rfl) rfl
theorem w106 : Jvm.Cond.fieldLink "TuneWard$Tape" (93 : Nat) "TuneWard$House" "start" "[I" ∈ wT := wT_of (inTb_1 53 rfl) rfl
theorem w107 : Jvm.Cond.fieldLink "TuneWard" (112 : Nat) "TuneWard$House" "start" "[I" ∈ wT := wT_of (inTb_1 54 rfl) rfl
theorem w108 : Jvm.Cond.fieldLink "TuneWard$House" (34 : Nat) "TuneWard$House" "score" "[I" ∈ wT := wT_of (inTb_1 55 rfl) rfl
theorem w109 : Jvm.Cond.fieldLink "TuneWard$Tape" (96 : Nat) "TuneWard$House" "score" "[I" ∈ wT := wT_of (inTb_1 56 rfl) rfl
theorem w110 : Jvm.Cond.fieldLink "TuneWard" (126 : Nat) "TuneWard$House" "score" "[I" ∈ wT := wT_of (inTb_1 57 rfl) rfl
theorem w111 : Jvm.Cond.fieldLink "TuneWard$House" (37 : Nat) "TuneWard$House" "skill" "[I" ∈ wT := wT_of (inTb_1 58 rfl) rfl
theorem w112 : Jvm.Cond.fieldLink "TuneWard$Playing" (92 : Nat) "TuneWard$House" "skill" "[I" ∈ wT := wT_of (inTb_1 59 rfl) rfl
theorem w113 : Jvm.Cond.fieldLink "TuneWard$Tape" (111 : Nat) "TuneWard$House" "skill" "[I" ∈ wT := wT_of (inTb_1 60 rfl) rfl
theorem w114 : Jvm.Cond.fieldLink "TuneWard" (136 : Nat) "TuneWard$House" "skill" "[I" ∈ wT := wT_of (inTb_1 61 rfl) rfl
theorem w115 : Jvm.Cond.fieldLink "TuneWard$House" (40 : Nat) "TuneWard$House" "breath" "[I" ∈ wT := wT_of (inTb_1 62 rfl) rfl
theorem w116 : Jvm.Cond.fieldLink "TuneWard$Playing" (55 : Nat) "TuneWard$House" "breath" "[I" ∈ wT := wT_of (inTb_1 63 rfl) rfl
theorem w117 : Jvm.Cond.fieldLink "TuneWard$Tape" (114 : Nat) "TuneWard$House" "breath" "[I" ∈ wT := wT_of (inTb_1 64 rfl) rfl
theorem w118 : Jvm.Cond.fieldLink "TuneWard" (139 : Nat) "TuneWard$House" "breath" "[I" ∈ wT := wT_of (inTb_1 65 rfl) rfl
theorem w119 : Jvm.Cond.fieldLink "TuneWard$House" (43 : Nat) "TuneWard$House" "pay" "[I" ∈ wT := wT_of (inTb_1 66 rfl) rfl
theorem w120 : Jvm.Cond.fieldLink "TuneWard$Tape" (117 : Nat) "TuneWard$House" "pay" "[I" ∈ wT := wT_of (inTb_1 67 rfl) rfl
theorem w121 : Jvm.Cond.fieldLink "TuneWard" (142 : Nat) "TuneWard$House" "pay" "[I" ∈ wT := wT_of (inTb_1 68 rfl) rfl
theorem w122 : Jvm.Cond.fieldLink "TuneWard$Playing" (115 : Nat) "TuneWard$House" "pay" "[I" ∈ wT := wT_of (inTb_1 69 rfl) rfl
theorem w123 : Jvm.Cond.fieldLink "TuneWard$House" (46 : Nat) "TuneWard$House" "at" "[I" ∈ wT := wT_of (inTb_1 70 rfl) rfl
theorem w124 : Jvm.Cond.fieldLink "TuneWard$Playing" (95 : Nat) "TuneWard$House" "at" "[I" ∈ wT := wT_of (inTb_1 71 rfl) rfl
theorem w125 : Jvm.Cond.fieldLink "TuneWard$Tape" (120 : Nat) "TuneWard$House" "at" "[I" ∈ wT := wT_of (inTb_1 72 rfl) rfl
theorem w126 : Jvm.Cond.fieldLink "TuneWard" (145 : Nat) "TuneWard$House" "at" "[I" ∈ wT := wT_of (inTb_1 73 rfl) rfl
theorem w127 : Jvm.Cond.fieldLink "TuneWard$House" (49 : Nat) "TuneWard$House" "bond" "[I" ∈ wT := wT_of (inTb_1 74 rfl) rfl
theorem w128 : Jvm.Cond.fieldLink "TuneWard$Tape" (126 : Nat) "TuneWard$House" "bond" "[I" ∈ wT := wT_of (inTb_1 75 rfl) rfl
theorem w129 : Jvm.Cond.fieldLink "TuneWard$Playing" (102 : Nat) "TuneWard$House" "bond" "[I" ∈ wT := wT_of (inTb_1 76 rfl) rfl
theorem w130 : Jvm.Cond.fieldLink "TuneWard" (151 : Nat) "TuneWard$House" "bond" "[I" ∈ wT := wT_of (inTb_1 77 rfl) rfl
theorem w131 : Jvm.Cond.lays "TuneWard$House" "TuneWard$House" "tunes" "I" ∈ wT := wT_of (inTb_1 78 rfl) rfl
theorem w133 : Jvm.Cond.lays "TuneWard$House" "TuneWard$House" "players" "I" ∈ wT := wT_of (inTb_1 80 rfl) rfl
theorem w135 : Jvm.Cond.lays "TuneWard$House" "TuneWard$House" "prisoners" "I" ∈ wT := wT_of (inTb_1 82 rfl) rfl
theorem w137 : Jvm.Cond.laysFinal "TuneWard$House" "TuneWard$House" "kind" "[I" ∈ wT := wT_of (inTb_1 84 rfl) rfl
theorem w139 : Jvm.Cond.laysFinal "TuneWard$House" "TuneWard$House" "notes" "[I" ∈ wT := wT_of (inTb_1 86 rfl) rfl
theorem w141 : Jvm.Cond.laysFinal "TuneWard$House" "TuneWard$House" "times" "[I" ∈ wT := wT_of (inTb_1 88 rfl) rfl
theorem w143 : Jvm.Cond.laysFinal "TuneWard$House" "TuneWard$House" "start" "[I" ∈ wT := wT_of (inTb_1 90 rfl) rfl
theorem w145 : Jvm.Cond.laysFinal "TuneWard$House" "TuneWard$House" "score" "[I" ∈ wT := wT_of (inTb_1 92 rfl) rfl
theorem w147 : Jvm.Cond.laysFinal "TuneWard$House" "TuneWard$House" "skill" "[I" ∈ wT := wT_of (inTb_1 94 rfl) rfl
theorem w149 : Jvm.Cond.laysFinal "TuneWard$House" "TuneWard$House" "breath" "[I" ∈ wT := wT_of (inTb_1 96 rfl) rfl
theorem w151 : Jvm.Cond.laysFinal "TuneWard$House" "TuneWard$House" "pay" "[I" ∈ wT := wT_of (inTb_1 98 rfl) rfl
theorem w153 : Jvm.Cond.laysFinal "TuneWard$House" "TuneWard$House" "at" "[I" ∈ wT := wT_of (inTb_1 100 rfl) rfl
theorem w155 : Jvm.Cond.laysFinal "TuneWard$House" "TuneWard$House" "bond" "[I" ∈ wT := wT_of (inTb_1 102 rfl) rfl
theorem w158 : Jvm.Cond.arrayClass Jvm.ClassFile.FieldType.int ∈ wT := wT_of (inTb_1 105 rfl) rfl
theorem w159 : Jvm.Cond.arrayOver (Jvm.ClassFile.FieldType.object "TuneWard$House") ∈ lw_tbl := inTb_1 106 rfl
theorem w160 : Jvm.Cond.classLink "TuneWard" (30 : Nat) "TuneWard$Tape" ∈ wT := wT_of (inTb_1 107 rfl) rfl
theorem w161 : Jvm.Cond.instantiable "TuneWard$Tape" (7 : Nat) ∈ wT := wT_of (inTb_1 108 rfl) rfl
theorem w162 : Jvm.Cond.methodLinkNest "TuneWard" (32 : Nat) ({ cls := "TuneWard$Tape", name := "<init>", desc := "()V" } : Jvm.MethodName) "TuneWard" ∈ lw_tbl := inTb_1 109 rfl
theorem w163 : Jvm.Cond.instanceMethod ({ cls := "TuneWard$Tape", name := "<init>", desc := "()V" } : Jvm.MethodName) ∈ wT := wT_of (inTb_1 110 rfl) rfl
theorem w164 : Jvm.Cond.code ({ cls := "TuneWard$Tape", name := "<init>", desc := "()V" } : Jvm.MethodName) prog_5_method_1_code (1 : Nat) (Option.none : Option Jvm.ClassFile.FieldType) ∈ wT := wT_of (inTb_1 111 rfl) rfl
theorem w165 : Jvm.Cond.methodLink "TuneWard$Tape" (3 : Nat) ({ cls := "java/lang/Object", name := "<init>", desc := "()V" } : Jvm.MethodName) ∈ wT := wT_of (inTb_1 112 rfl) rfl
theorem w166 : Jvm.Cond.fieldLink "TuneWard$Tape" (11 : Nat) "TuneWard$Tape" "bytes" "[I" ∈ wT := wT_of (inTb_1 113 rfl) rfl
theorem w167 : Jvm.Cond.fieldLink "TuneWard$Tape" (15 : Nat) "TuneWard$Tape" "length" "I" ∈ wT := wT_of (inTb_1 114 rfl) rfl
theorem w168 : Jvm.Cond.fieldLink "TuneWard" (76 : Nat) "TuneWard$Tape" "length" "I" ∈ wT := wT_of (inTb_1 115 rfl) rfl
theorem w169 : Jvm.Cond.fieldLink "TuneWard$Tape" (19 : Nat) "TuneWard$Tape" "faultFound" "I" ∈ wT := wT_of (inTb_1 116 rfl) rfl
theorem w170 : Jvm.Cond.fieldLink "TuneWard" (87 : Nat) "TuneWard$Tape" "faultFound" "I" ∈ wT := wT_of (inTb_1 117 rfl) rfl
theorem w171 : Jvm.Cond.fieldLink "TuneWard$Tape" (22 : Nat) "TuneWard$Tape" "faultPlace" "I" ∈ wT := wT_of (inTb_1 118 rfl) rfl
theorem w172 : Jvm.Cond.fieldLink "TuneWard$Tape" (25 : Nat) "TuneWard$Tape" "token" "I" ∈ wT := wT_of (inTb_1 119 rfl) rfl
theorem w173 : Jvm.Cond.fieldLink "TuneWard$Tape" (28 : Nat) "TuneWard$Tape" "tokenPlace" "I" ∈ wT := wT_of (inTb_1 120 rfl) rfl
theorem w174 : Jvm.Cond.fieldLink "TuneWard$Tape" (31 : Nat) "TuneWard$Tape" "next" "I" ∈ wT := wT_of (inTb_1 121 rfl) rfl
theorem w175 : Jvm.Cond.laysFinal "TuneWard$Tape" "TuneWard$Tape" "bytes" "[I" ∈ wT := wT_of (inTb_1 122 rfl) rfl
theorem w177 : Jvm.Cond.lays "TuneWard$Tape" "TuneWard$Tape" "length" "I" ∈ wT := wT_of (inTb_1 124 rfl) rfl
theorem w179 : Jvm.Cond.lays "TuneWard$Tape" "TuneWard$Tape" "faultFound" "I" ∈ wT := wT_of (inTb_1 126 rfl) rfl
theorem w181 : Jvm.Cond.lays "TuneWard$Tape" "TuneWard$Tape" "faultPlace" "I" ∈ wT := wT_of (inTb_1 128 rfl) rfl
theorem w183 : Jvm.Cond.lays "TuneWard$Tape" "TuneWard$Tape" "token" "I" ∈ wT := wT_of (inTb_1 130 rfl) rfl
theorem w185 : Jvm.Cond.lays "TuneWard$Tape" "TuneWard$Tape" "tokenPlace" "I" ∈ wT := wT_of (inTb_1 132 rfl) rfl
theorem w187 : Jvm.Cond.lays "TuneWard$Tape" "TuneWard$Tape" "next" "I" ∈ wT := wT_of (inTb_1 134 rfl) rfl
theorem w190 : Jvm.Cond.arrayClass Jvm.ClassFile.FieldType.boolean ∈ wT := wT_of (inTb_1 137 rfl) rfl
theorem w191 : Jvm.Cond.classLink "TuneWard" (37 : Nat) "TuneWard$Playing" ∈ wT := wT_of (inTb_1 138 rfl) rfl
theorem w192 : Jvm.Cond.instantiable "TuneWard$Playing" (10 : Nat) ∈ wT := wT_of (inTb_1 139 rfl) rfl
theorem w193 : Jvm.Cond.methodLinkNest "TuneWard" (39 : Nat) ({ cls := "TuneWard$Playing", name := "<init>", desc := "()V" } : Jvm.MethodName) "TuneWard" ∈ lw_tbl := inTb_1 140 rfl
theorem w194 : Jvm.Cond.instanceMethod ({ cls := "TuneWard$Playing", name := "<init>", desc := "()V" } : Jvm.MethodName) ∈ wT := wT_of (inTb_1 141 rfl) rfl
theorem w195 : Jvm.Cond.code ({ cls := "TuneWard$Playing", name := "<init>", desc := "()V" } : Jvm.MethodName) prog_3_method_1_code (1 : Nat) (Option.none : Option Jvm.ClassFile.FieldType) ∈ wT := wT_of (inTb_1 142 rfl) rfl
theorem w196 : Jvm.Cond.methodLink "TuneWard$Playing" (3 : Nat) ({ cls := "java/lang/Object", name := "<init>", desc := "()V" } : Jvm.MethodName) ∈ wT := wT_of (inTb_1 143 rfl) rfl
theorem w197 : Jvm.Cond.fieldLink "TuneWard$Playing" (9 : Nat) "TuneWard$Playing" "overAt" "[I" ∈ wT := wT_of (inTb_1 144 rfl) rfl
theorem w198 : Jvm.Cond.fieldLink "TuneWard" (168 : Nat) "TuneWard$Playing" "overAt" "[I" ∈ wT := wT_of (inTb_1 145 rfl) rfl
theorem w199 : Jvm.Cond.fieldLink "TuneWard$Playing" (15 : Nat) "TuneWard$Playing" "why" "[I" ∈ wT := wT_of (inTb_1 146 rfl) rfl
theorem w200 : Jvm.Cond.fieldLink "TuneWard" (171 : Nat) "TuneWard$Playing" "why" "[I" ∈ wT := wT_of (inTb_1 147 rfl) rfl
theorem w201 : Jvm.Cond.fieldLink "TuneWard$Playing" (18 : Nat) "TuneWard$Playing" "sounded" "[I" ∈ wT := wT_of (inTb_1 148 rfl) rfl
theorem w202 : Jvm.Cond.fieldLink "TuneWard" (174 : Nat) "TuneWard$Playing" "sounded" "[I" ∈ wT := wT_of (inTb_1 149 rfl) rfl
theorem w203 : Jvm.Cond.fieldLink "TuneWard$Playing" (21 : Nat) "TuneWard$Playing" "played" "[I" ∈ wT := wT_of (inTb_1 150 rfl) rfl
theorem w204 : Jvm.Cond.fieldLink "TuneWard" (177 : Nat) "TuneWard$Playing" "played" "[I" ∈ wT := wT_of (inTb_1 151 rfl) rfl
theorem w205 : Jvm.Cond.fieldLink "TuneWard$Playing" (24 : Nat) "TuneWard$Playing" "breathLeft" "[I" ∈ wT := wT_of (inTb_1 152 rfl) rfl
theorem w206 : Jvm.Cond.fieldLink "TuneWard$Playing" (27 : Nat) "TuneWard$Playing" "heard" "[I" ∈ wT := wT_of (inTb_1 153 rfl) rfl
theorem w207 : Jvm.Cond.fieldLink "TuneWard$Playing" (30 : Nat) "TuneWard$Playing" "rowLength" "[I" ∈ wT := wT_of (inTb_1 154 rfl) rfl
theorem w208 : Jvm.Cond.fieldLink "TuneWard$Playing" (33 : Nat) "TuneWard$Playing" "length" "[I" ∈ wT := wT_of (inTb_1 155 rfl) rfl
theorem w209 : Jvm.Cond.fieldLink "TuneWard$Playing" (36 : Nat) "TuneWard$Playing" "row" "[I" ∈ wT := wT_of (inTb_1 156 rfl) rfl
theorem w210 : Jvm.Cond.fieldLink "TuneWard$Playing" (39 : Nat) "TuneWard$Playing" "tunesLeft" "I" ∈ wT := wT_of (inTb_1 157 rfl) rfl
theorem w211 : Jvm.Cond.laysFinal "TuneWard$Playing" "TuneWard$Playing" "overAt" "[I" ∈ wT := wT_of (inTb_1 158 rfl) rfl
theorem w213 : Jvm.Cond.laysFinal "TuneWard$Playing" "TuneWard$Playing" "why" "[I" ∈ wT := wT_of (inTb_1 160 rfl) rfl
theorem w215 : Jvm.Cond.laysFinal "TuneWard$Playing" "TuneWard$Playing" "sounded" "[I" ∈ wT := wT_of (inTb_1 162 rfl) rfl
theorem w217 : Jvm.Cond.laysFinal "TuneWard$Playing" "TuneWard$Playing" "played" "[I" ∈ wT := wT_of (inTb_1 164 rfl) rfl
theorem w219 : Jvm.Cond.laysFinal "TuneWard$Playing" "TuneWard$Playing" "breathLeft" "[I" ∈ wT := wT_of (inTb_1 166 rfl) rfl
theorem w221 : Jvm.Cond.laysFinal "TuneWard$Playing" "TuneWard$Playing" "heard" "[I" ∈ wT := wT_of (inTb_1 168 rfl) rfl
theorem w223 : Jvm.Cond.laysFinal "TuneWard$Playing" "TuneWard$Playing" "rowLength" "[I" ∈ wT := wT_of (inTb_1 170 rfl) rfl
theorem w225 : Jvm.Cond.laysFinal "TuneWard$Playing" "TuneWard$Playing" "length" "[I" ∈ wT := wT_of (inTb_1 172 rfl) rfl
theorem w227 : Jvm.Cond.laysFinal "TuneWard$Playing" "TuneWard$Playing" "row" "[I" ∈ wT := wT_of (inTb_1 174 rfl) rfl
theorem w229 : Jvm.Cond.lays "TuneWard$Playing" "TuneWard$Playing" "tunesLeft" "I" ∈ wT := wT_of (inTb_1 176 rfl) rfl
theorem w232 : Jvm.Cond.classLink "TuneWard" (44 : Nat) "TuneWard$Sheet" ∈ wT := wT_of (inTb_1 179 rfl) rfl
theorem w233 : Jvm.Cond.arrayOver (Jvm.ClassFile.FieldType.object "TuneWard$Sheet") ∈ lw_tbl := inTb_1 180 rfl
theorem w234 : Jvm.Cond.instantiable "TuneWard$Sheet" (4 : Nat) ∈ wT := wT_of (inTb_1 181 rfl) rfl
theorem w235 : Jvm.Cond.methodLinkNest "TuneWard" (67 : Nat) ({ cls := "TuneWard$Sheet", name := "<init>", desc := "()V" } : Jvm.MethodName) "TuneWard" ∈ lw_tbl := inTb_1 182 rfl
theorem w236 : Jvm.Cond.instanceMethod ({ cls := "TuneWard$Sheet", name := "<init>", desc := "()V" } : Jvm.MethodName) ∈ wT := wT_of (inTb_1 183 rfl) rfl
theorem w237 : Jvm.Cond.code ({ cls := "TuneWard$Sheet", name := "<init>", desc := "()V" } : Jvm.MethodName) prog_4_method_1_code (1 : Nat) (Option.none : Option Jvm.ClassFile.FieldType) ∈ wT := wT_of (inTb_1 184 rfl) rfl
theorem w238 : Jvm.Cond.methodLink "TuneWard$Sheet" (3 : Nat) ({ cls := "java/lang/Object", name := "<init>", desc := "()V" } : Jvm.MethodName) ∈ wT := wT_of (inTb_1 185 rfl) rfl
theorem w239 : Jvm.Cond.fieldLink "TuneWard$Sheet" (9 : Nat) "TuneWard$Sheet" "there" "Z" ∈ wT := wT_of (inTb_1 186 rfl) rfl
theorem w240 : Jvm.Cond.fieldLink "TuneWard" (258 : Nat) "TuneWard$Sheet" "there" "Z" ∈ wT := wT_of (inTb_1 187 rfl) rfl
theorem w241 : Jvm.Cond.fieldLink "TuneWard$Sheet" (15 : Nat) "TuneWard$Sheet" "lane" "I" ∈ wT := wT_of (inTb_1 188 rfl) rfl
theorem w242 : Jvm.Cond.fieldLink "TuneWard" (269 : Nat) "TuneWard$Sheet" "lane" "I" ∈ wT := wT_of (inTb_1 189 rfl) rfl
theorem w243 : Jvm.Cond.fieldLink "TuneWard$Sheet" (19 : Nat) "TuneWard$Sheet" "size" "I" ∈ wT := wT_of (inTb_1 190 rfl) rfl
theorem w244 : Jvm.Cond.fieldLink "TuneWard" (278 : Nat) "TuneWard$Sheet" "size" "I" ∈ wT := wT_of (inTb_1 191 rfl) rfl
theorem w245 : Jvm.Cond.fieldLink "TuneWard$Sheet" (22 : Nat) "TuneWard$Sheet" "cells" "[I" ∈ wT := wT_of (inTb_1 192 rfl) rfl
theorem w246 : Jvm.Cond.fieldLink "TuneWard" (266 : Nat) "TuneWard$Sheet" "cells" "[I" ∈ wT := wT_of (inTb_1 193 rfl) rfl
theorem w247 : Jvm.Cond.lays "TuneWard$Sheet" "TuneWard$Sheet" "there" "Z" ∈ wT := wT_of (inTb_1 194 rfl) rfl
theorem w249 : Jvm.Cond.lays "TuneWard$Sheet" "TuneWard$Sheet" "lane" "I" ∈ wT := wT_of (inTb_1 196 rfl) rfl
theorem w251 : Jvm.Cond.lays "TuneWard$Sheet" "TuneWard$Sheet" "size" "I" ∈ wT := wT_of (inTb_1 198 rfl) rfl
theorem w253 : Jvm.Cond.laysFinal "TuneWard$Sheet" "TuneWard$Sheet" "cells" "[I" ∈ wT := wT_of (inTb_1 200 rfl) rfl
theorem w256 : Jvm.Cond.fieldLink "TuneWard" (10 : Nat) "TuneWard" "now" "LTuneWard$House;" ∈ wT := wT_of (inTb_1 203 rfl) rfl
theorem w257 : Jvm.Cond.fieldLink "TuneWard" (16 : Nat) "TuneWard" "told" "LTuneWard$House;" ∈ wT := wT_of (inTb_1 204 rfl) rfl
theorem w258 : Jvm.Cond.fieldLink "TuneWard" (19 : Nat) "TuneWard" "trial" "LTuneWard$House;" ∈ wT := wT_of (inTb_1 205 rfl) rfl
theorem w259 : Jvm.Cond.fieldLink "TuneWard" (22 : Nat) "TuneWard" "images" "[LTuneWard$House;" ∈ wT := wT_of (inTb_1 206 rfl) rfl
theorem w260 : Jvm.Cond.fieldLink "TuneWard" (26 : Nat) "TuneWard" "kept" "[Z" ∈ wT := wT_of (inTb_1 207 rfl) rfl
theorem w261 : Jvm.Cond.fieldLink "TuneWard" (33 : Nat) "TuneWard" "tape" "LTuneWard$Tape;" ∈ wT := wT_of (inTb_1 208 rfl) rfl
theorem w262 : Jvm.Cond.fieldLink "TuneWard" (40 : Nat) "TuneWard" "playing" "LTuneWard$Playing;" ∈ wT := wT_of (inTb_1 209 rfl) rfl
theorem w263 : Jvm.Cond.fieldLink "TuneWard" (46 : Nat) "TuneWard" "sheets" "[LTuneWard$Sheet;" ∈ wT := wT_of (inTb_1 210 rfl) rfl
theorem w264 : Jvm.Cond.fieldLink "TuneWard" (50 : Nat) "TuneWard" "seenTune" "[I" ∈ wT := wT_of (inTb_1 211 rfl) rfl
theorem w265 : Jvm.Cond.fieldLink "TuneWard" (54 : Nat) "TuneWard" "seenMinute" "[I" ∈ wT := wT_of (inTb_1 212 rfl) rfl
theorem w266 : Jvm.Cond.fieldLink "TuneWard" (57 : Nat) "TuneWard" "seenNote" "[I" ∈ wT := wT_of (inTb_1 213 rfl) rfl
theorem w267 : Jvm.Cond.fieldLink "TuneWard" (60 : Nat) "TuneWard" "seen" "I" ∈ wT := wT_of (inTb_1 214 rfl) rfl
theorem w268 : Jvm.Cond.fieldLink "TuneWard" (64 : Nat) "TuneWard" "tear" "I" ∈ wT := wT_of (inTb_1 215 rfl) rfl
theorem w269 : Jvm.Cond.laysFinal "TuneWard" "TuneWard" "now" "LTuneWard$House;" ∈ wT := wT_of (inTb_1 216 rfl) rfl
theorem w271 : Jvm.Cond.laysFinal "TuneWard" "TuneWard" "told" "LTuneWard$House;" ∈ wT := wT_of (inTb_1 218 rfl) rfl
theorem w273 : Jvm.Cond.laysFinal "TuneWard" "TuneWard" "trial" "LTuneWard$House;" ∈ wT := wT_of (inTb_1 220 rfl) rfl
theorem w275 : Jvm.Cond.laysFinal "TuneWard" "TuneWard" "images" "[LTuneWard$House;" ∈ wT := wT_of (inTb_1 222 rfl) rfl
theorem w277 : Jvm.Cond.laysFinal "TuneWard" "TuneWard" "kept" "[Z" ∈ wT := wT_of (inTb_1 224 rfl) rfl
theorem w279 : Jvm.Cond.laysFinal "TuneWard" "TuneWard" "tape" "LTuneWard$Tape;" ∈ wT := wT_of (inTb_1 226 rfl) rfl
theorem w281 : Jvm.Cond.laysFinal "TuneWard" "TuneWard" "playing" "LTuneWard$Playing;" ∈ wT := wT_of (inTb_1 228 rfl) rfl
theorem w283 : Jvm.Cond.laysFinal "TuneWard" "TuneWard" "sheets" "[LTuneWard$Sheet;" ∈ wT := wT_of (inTb_1 230 rfl) rfl
theorem w285 : Jvm.Cond.laysFinal "TuneWard" "TuneWard" "seenTune" "[I" ∈ wT := wT_of (inTb_1 232 rfl) rfl
theorem w287 : Jvm.Cond.laysFinal "TuneWard" "TuneWard" "seenMinute" "[I" ∈ wT := wT_of (inTb_1 234 rfl) rfl
theorem w289 : Jvm.Cond.laysFinal "TuneWard" "TuneWard" "seenNote" "[I" ∈ wT := wT_of (inTb_1 236 rfl) rfl
theorem w291 : Jvm.Cond.lays "TuneWard" "TuneWard" "seen" "I" ∈ wT := wT_of (inTb_1 238 rfl) rfl
theorem w293 : Jvm.Cond.lays "TuneWard" "TuneWard" "tear" "I" ∈ wT := wT_of (inTb_2 0 rfl) rfl
theorem w296 : Jvm.Cond.methodLink "TuneWardLaw" (13 : Nat) ({ cls := "TuneWard", name := "feed", desc := "(I)I" } : Jvm.MethodName) ∈ wT := wT_of (inTb_2 3 rfl) rfl
theorem w297 : Jvm.Cond.instanceMethod ({ cls := "TuneWard", name := "feed", desc := "(I)I" } : Jvm.MethodName) ∈ wT := wT_of (inTb_2 4 rfl) rfl
theorem w298 : Jvm.Cond.selects "TuneWard" ({ cls := "TuneWard", name := "feed", desc := "(I)I" } : Jvm.MethodName) ({ cls := "TuneWard", name := "feed", desc := "(I)I" } : Jvm.MethodName) ∈ wT := wT_of (inTb_2 5 rfl) rfl
theorem w299 : Jvm.Cond.code ({ cls := "TuneWard", name := "feed", desc := "(I)I" } : Jvm.MethodName) prog_1_method_2_code (2 : Nat) (Option.some Jvm.ClassFile.FieldType.int) ∈ wT := wT_of (inTb_2 6 rfl) rfl
theorem w300 : Jvm.Cond.methodLink "TuneWard" (68 : Nat) ({ cls := "TuneWard", name := "within", desc := "(III)Z" } : Jvm.MethodName) ∈ wT := wT_of (inTb_2 7 rfl) rfl
theorem w301 : Jvm.Cond.static ({ cls := "TuneWard", name := "within", desc := "(III)Z" } : Jvm.MethodName) ∈ wT := wT_of (inTb_2 8 rfl) rfl
theorem w302 : Jvm.Cond.code ({ cls := "TuneWard", name := "within", desc := "(III)Z" } : Jvm.MethodName) prog_1_method_42_code (3 : Nat) (Option.some Jvm.ClassFile.FieldType.boolean) ∈ wT := wT_of (inTb_2 9 rfl) rfl
theorem w303 : Jvm.Cond.methodLink "TuneWard" (72 : Nat) ({ cls := "TuneWard$Tape", name := "append", desc := "(I)I" } : Jvm.MethodName) ∈ wT := wT_of (inTb_2 10 rfl) rfl
theorem w304 : Jvm.Cond.instanceMethod ({ cls := "TuneWard$Tape", name := "append", desc := "(I)I" } : Jvm.MethodName) ∈ wT := wT_of (inTb_2 11 rfl) rfl
theorem w305 : Jvm.Cond.selects "TuneWard$Tape" ({ cls := "TuneWard$Tape", name := "append", desc := "(I)I" } : Jvm.MethodName) ({ cls := "TuneWard$Tape", name := "append", desc := "(I)I" } : Jvm.MethodName) ∈ wT := wT_of (inTb_2 12 rfl) rfl
theorem w306 : Jvm.Cond.code ({ cls := "TuneWard$Tape", name := "append", desc := "(I)I" } : Jvm.MethodName) prog_5_method_2_code (2 : Nat) (Option.some Jvm.ClassFile.FieldType.int) ∈ wT := wT_of (inTb_2 13 rfl) rfl
theorem w307 : Jvm.Cond.methodLink "TuneWardLaw" (18 : Nat) ({ cls := "TuneWard", name := "end", desc := "(I)I" } : Jvm.MethodName) ∈ wT := wT_of (inTb_2 14 rfl) rfl
theorem w308 : Jvm.Cond.instanceMethod ({ cls := "TuneWard", name := "end", desc := "(I)I" } : Jvm.MethodName) ∈ wT := wT_of (inTb_2 15 rfl) rfl
theorem w309 : Jvm.Cond.selects "TuneWard" ({ cls := "TuneWard", name := "end", desc := "(I)I" } : Jvm.MethodName) ({ cls := "TuneWard", name := "end", desc := "(I)I" } : Jvm.MethodName) ∈ wT := wT_of (inTb_2 16 rfl) rfl
theorem w310 : Jvm.Cond.code ({ cls := "TuneWard", name := "end", desc := "(I)I" } : Jvm.MethodName) prog_1_method_3_code (3 : Nat) (Option.some Jvm.ClassFile.FieldType.int) ∈ wT := wT_of (inTb_2 17 rfl) rfl
theorem w311 : Jvm.Cond.methodLink "TuneWardLaw" (22 : Nat) ({ cls := "TuneWard", name := "text", desc := "()I" } : Jvm.MethodName) ∈ wT := wT_of (inTb_2 18 rfl) rfl
theorem w312 : Jvm.Cond.instanceMethod ({ cls := "TuneWard", name := "text", desc := "()I" } : Jvm.MethodName) ∈ wT := wT_of (inTb_2 19 rfl) rfl
theorem w313 : Jvm.Cond.selects "TuneWard" ({ cls := "TuneWard", name := "text", desc := "()I" } : Jvm.MethodName) ({ cls := "TuneWard", name := "text", desc := "()I" } : Jvm.MethodName) ∈ wT := wT_of (inTb_2 20 rfl) rfl
theorem w314 : Jvm.Cond.code ({ cls := "TuneWard", name := "text", desc := "()I" } : Jvm.MethodName) prog_1_method_4_code (3 : Nat) (Option.some Jvm.ClassFile.FieldType.int) ∈ wT := wT_of (inTb_2 21 rfl) rfl
theorem w315 : Jvm.Cond.methodLink "TuneWard" (79 : Nat) ({ cls := "TuneWard$Tape", name := "tellAll", desc := "(LTuneWard$House;)I" } : Jvm.MethodName) ∈ wT := wT_of (inTb_2 22 rfl) rfl
theorem w316 : Jvm.Cond.instanceMethod ({ cls := "TuneWard$Tape", name := "tellAll", desc := "(LTuneWard$House;)I" } : Jvm.MethodName) ∈ wT := wT_of (inTb_2 23 rfl) rfl
theorem w317 : Jvm.Cond.selects "TuneWard$Tape" ({ cls := "TuneWard$Tape", name := "tellAll", desc := "(LTuneWard$House;)I" } : Jvm.MethodName) ({ cls := "TuneWard$Tape", name := "tellAll", desc := "(LTuneWard$House;)I" } : Jvm.MethodName) ∈ wT := wT_of (inTb_2 24 rfl) rfl
theorem w318 : Jvm.Cond.code ({ cls := "TuneWard$Tape", name := "tellAll", desc := "(LTuneWard$House;)I" } : Jvm.MethodName) prog_5_method_3_code (3 : Nat) (Option.some Jvm.ClassFile.FieldType.int) ∈ wT := wT_of (inTb_2 25 rfl) rfl
theorem w319 : Jvm.Cond.methodLink "TuneWard$Tape" (34 : Nat) ({ cls := "TuneWard$House", name := "clear", desc := "()V" } : Jvm.MethodName) ∈ wT := wT_of (inTb_2 26 rfl) rfl
theorem w320 : Jvm.Cond.instanceMethod ({ cls := "TuneWard$House", name := "clear", desc := "()V" } : Jvm.MethodName) ∈ wT := wT_of (inTb_2 27 rfl) rfl
theorem w321 : Jvm.Cond.selects "TuneWard$House" ({ cls := "TuneWard$House", name := "clear", desc := "()V" } : Jvm.MethodName) ({ cls := "TuneWard$House", name := "clear", desc := "()V" } : Jvm.MethodName) ∈ wT := wT_of (inTb_2 28 rfl) rfl
theorem w322 : Jvm.Cond.code ({ cls := "TuneWard$House", name := "clear", desc := "()V" } : Jvm.MethodName) prog_2_method_2_code (1 : Nat) (Option.none : Option Jvm.ClassFile.FieldType) ∈ wT := wT_of (inTb_2 29 rfl) rfl
theorem w323 : Jvm.Cond.methodLink "TuneWard$Tape" (39 : Nat) ({ cls := "TuneWard$Tape", name := "advance", desc := "()V" } : Jvm.MethodName) ∈ wT := wT_of (inTb_2 30 rfl) rfl
theorem w325 : Jvm.Cond.instanceMethod ({ cls := "TuneWard$Tape", name := "advance", desc := "()V" } : Jvm.MethodName) ∈ wT := wT_of (inTb_2 32 rfl) rfl
theorem w326 : Jvm.Cond.code ({ cls := "TuneWard$Tape", name := "advance", desc := "()V" } : Jvm.MethodName) prog_5_method_12_code (1 : Nat) (Option.none : Option Jvm.ClassFile.FieldType) ∈ wT := wT_of (inTb_2 33 rfl) rfl
theorem w327 : Jvm.Cond.methodLinkNest "TuneWard$Tape" (129 : Nat) ({ cls := "TuneWard", name := "within", desc := "(III)Z" } : Jvm.MethodName) "TuneWard" ∈ lw_tbl := inTb_2 34 rfl
theorem w328 : Jvm.Cond.methodLink "TuneWard$Tape" (133 : Nat) ({ cls := "TuneWard$Tape", name := "pass", desc := "(II)V" } : Jvm.MethodName) ∈ wT := wT_of (inTb_2 35 rfl) rfl
theorem w330 : Jvm.Cond.instanceMethod ({ cls := "TuneWard$Tape", name := "pass", desc := "(II)V" } : Jvm.MethodName) ∈ wT := wT_of (inTb_2 37 rfl) rfl
theorem w331 : Jvm.Cond.code ({ cls := "TuneWard$Tape", name := "pass", desc := "(II)V" } : Jvm.MethodName) prog_5_method_13_code (3 : Nat) (Option.none : Option Jvm.ClassFile.FieldType) ∈ wT := wT_of (inTb_2 38 rfl) rfl
theorem w332 : Jvm.Cond.methodLink "TuneWard$Tape" (42 : Nat) ({ cls := "TuneWard$Tape", name := "tellLine", desc := "(LTuneWard$House;)V" } : Jvm.MethodName) ∈ wT := wT_of (inTb_2 39 rfl) rfl
theorem w334 : Jvm.Cond.instanceMethod ({ cls := "TuneWard$Tape", name := "tellLine", desc := "(LTuneWard$House;)V" } : Jvm.MethodName) ∈ wT := wT_of (inTb_2 41 rfl) rfl
theorem w335 : Jvm.Cond.code ({ cls := "TuneWard$Tape", name := "tellLine", desc := "(LTuneWard$House;)V" } : Jvm.MethodName) prog_5_method_4_code (2 : Nat) (Option.none : Option Jvm.ClassFile.FieldType) ∈ wT := wT_of (inTb_2 42 rfl) rfl
theorem w336 : Jvm.Cond.methodLink "TuneWard$Tape" (50 : Nat) ({ cls := "TuneWard$Tape", name := "fail", desc := "(II)V" } : Jvm.MethodName) ∈ wT := wT_of (inTb_2 43 rfl) rfl
theorem w338 : Jvm.Cond.instanceMethod ({ cls := "TuneWard$Tape", name := "fail", desc := "(II)V" } : Jvm.MethodName) ∈ wT := wT_of (inTb_2 45 rfl) rfl
theorem w339 : Jvm.Cond.code ({ cls := "TuneWard$Tape", name := "fail", desc := "(II)V" } : Jvm.MethodName) prog_5_method_11_code (3 : Nat) (Option.none : Option Jvm.ClassFile.FieldType) ∈ wT := wT_of (inTb_2 46 rfl) rfl
theorem w340 : Jvm.Cond.stringRef "TuneWard$Tape" (54 : Nat) "plain" ∈ lw_tbl := inTb_2 47 rfl
theorem w341 : Jvm.Cond.methodLink "TuneWard$Tape" (56 : Nat) ({ cls := "TuneWard$Tape", name := "isName", desc := "(Ljava/lang/String;)Z" } : Jvm.MethodName) ∈ wT := wT_of (inTb_2 48 rfl) rfl
theorem w343 : Jvm.Cond.instanceMethod ({ cls := "TuneWard$Tape", name := "isName", desc := "(Ljava/lang/String;)Z" } : Jvm.MethodName) ∈ wT := wT_of (inTb_2 50 rfl) rfl
theorem w344 : Jvm.Cond.code ({ cls := "TuneWard$Tape", name := "isName", desc := "(Ljava/lang/String;)Z" } : Jvm.MethodName) prog_5_method_14_code (3 : Nat) (Option.some Jvm.ClassFile.FieldType.boolean) ∈ wT := wT_of (inTb_2 51 rfl) rfl
theorem w345 : Jvm.Cond.methodLink "TuneWard$Tape" (136 : Nat) ({ cls := "java/lang/String", name := "length", desc := "()I" } : Jvm.MethodName) ∈ wT := wT_of (inTb_2 52 rfl) rfl
theorem w346 : Jvm.Cond.instanceMethod ({ cls := "java/lang/String", name := "length", desc := "()I" } : Jvm.MethodName) ∈ wT := wT_of (inTb_2 53 rfl) rfl
theorem w347 : Jvm.Cond.selects "java/lang/String" ({ cls := "java/lang/String", name := "length", desc := "()I" } : Jvm.MethodName) ({ cls := "java/lang/String", name := "length", desc := "()I" } : Jvm.MethodName) ∈ wT := wT_of (inTb_2 54 rfl) rfl
theorem w348 : Jvm.Cond.code ({ cls := "java/lang/String", name := "length", desc := "()I" } : Jvm.MethodName) prog_10_method_54_code (1 : Nat) (Option.some Jvm.ClassFile.FieldType.int) ∈ wT := wT_of (inTb_2 55 rfl) rfl
theorem w349 : Jvm.Cond.methodLink "java/lang/String" (335 : Nat) ({ cls := "java/lang/String", name := "coder", desc := "()B" } : Jvm.MethodName) ∈ wT := wT_of (inTb_2 56 rfl) rfl
theorem w350 : Jvm.Cond.instanceMethod ({ cls := "java/lang/String", name := "coder", desc := "()B" } : Jvm.MethodName) ∈ wT := wT_of (inTb_2 57 rfl) rfl
theorem w351 : Jvm.Cond.selects "java/lang/String" ({ cls := "java/lang/String", name := "coder", desc := "()B" } : Jvm.MethodName) ({ cls := "java/lang/String", name := "coder", desc := "()B" } : Jvm.MethodName) ∈ wT := wT_of (inTb_2 58 rfl) rfl
theorem w352 : Jvm.Cond.code ({ cls := "java/lang/String", name := "coder", desc := "()B" } : Jvm.MethodName) prog_10_method_152_code (1 : Nat) (Option.some Jvm.ClassFile.FieldType.byte) ∈ wT := wT_of (inTb_2 59 rfl) rfl
theorem w353 : Jvm.Cond.fieldLink "java/lang/String" (38 : Nat) "java/lang/String" "COMPACT_STRINGS" "Z" ∈ wT := wT_of (inTb_2 60 rfl) rfl
theorem w354 : Jvm.Cond.laysStatic "java/lang/String" "COMPACT_STRINGS" "Z" ∈ lw_tbl := inTb_2 61 rfl
theorem w355 : Jvm.Cond.methodLink "TuneWard$Tape" (141 : Nat) ({ cls := "java/lang/String", name := "charAt", desc := "(I)C" } : Jvm.MethodName) ∈ wT := wT_of (inTb_2 62 rfl) rfl
theorem w356 : Jvm.Cond.instanceMethod ({ cls := "java/lang/String", name := "charAt", desc := "(I)C" } : Jvm.MethodName) ∈ wT := wT_of (inTb_2 63 rfl) rfl
theorem w357 : Jvm.Cond.selects "java/lang/String" ({ cls := "java/lang/String", name := "charAt", desc := "(I)C" } : Jvm.MethodName) ({ cls := "java/lang/String", name := "charAt", desc := "(I)C" } : Jvm.MethodName) ∈ wT := wT_of (inTb_2 64 rfl) rfl
theorem w358 : Jvm.Cond.code ({ cls := "java/lang/String", name := "charAt", desc := "(I)C" } : Jvm.MethodName) prog_10_method_56_code (2 : Nat) (Option.some Jvm.ClassFile.FieldType.char) ∈ wT := wT_of (inTb_2 65 rfl) rfl
theorem w359 : Jvm.Cond.methodLink "java/lang/String" (492 : Nat) ({ cls := "java/lang/String", name := "isLatin1", desc := "()Z" } : Jvm.MethodName) ∈ wT := wT_of (inTb_2 66 rfl) rfl
theorem w360 : Jvm.Cond.instanceMethod ({ cls := "java/lang/String", name := "isLatin1", desc := "()Z" } : Jvm.MethodName) ∈ wT := wT_of (inTb_2 67 rfl) rfl
theorem w361 : Jvm.Cond.selects "java/lang/String" ({ cls := "java/lang/String", name := "isLatin1", desc := "()Z" } : Jvm.MethodName) ({ cls := "java/lang/String", name := "isLatin1", desc := "()Z" } : Jvm.MethodName) ∈ wT := wT_of (inTb_2 68 rfl) rfl
theorem w362 : Jvm.Cond.code ({ cls := "java/lang/String", name := "isLatin1", desc := "()Z" } : Jvm.MethodName) prog_10_method_154_code (1 : Nat) (Option.some Jvm.ClassFile.FieldType.boolean) ∈ wT := wT_of (inTb_2 69 rfl) rfl
theorem w363 : Jvm.Cond.methodLink "java/lang/String" (495 : Nat) ({ cls := "java/lang/StringLatin1", name := "charAt", desc := "([BI)C" } : Jvm.MethodName) ∈ wT := wT_of (inTb_2 70 rfl) rfl
theorem w364 : Jvm.Cond.static ({ cls := "java/lang/StringLatin1", name := "charAt", desc := "([BI)C" } : Jvm.MethodName) ∈ wT := wT_of (inTb_2 71 rfl) rfl
theorem w365 : Jvm.Cond.code ({ cls := "java/lang/StringLatin1", name := "charAt", desc := "([BI)C" } : Jvm.MethodName) prog_11_method_2_code (2 : Nat) (Option.some Jvm.ClassFile.FieldType.char) ∈ wT := wT_of (inTb_2 72 rfl) rfl
theorem w366 : Jvm.Cond.methodLink "java/lang/StringLatin1" (9 : Nat) ({ cls := "java/lang/String", name := "checkIndex", desc := "(II)V" } : Jvm.MethodName) ∈ wT := wT_of (inTb_2 73 rfl) rfl
theorem w367 : Jvm.Cond.static ({ cls := "java/lang/String", name := "checkIndex", desc := "(II)V" } : Jvm.MethodName) ∈ wT := wT_of (inTb_2 74 rfl) rfl
theorem w368 : Jvm.Cond.code ({ cls := "java/lang/String", name := "checkIndex", desc := "(II)V" } : Jvm.MethodName) prog_10_method_155_code (2 : Nat) (Option.none : Option Jvm.ClassFile.FieldType) ∈ wT := wT_of (inTb_2 75 rfl) rfl
theorem w369 : Jvm.Cond.fieldLink "java/lang/String" (1053 : Nat) "jdk/internal/util/Preconditions" "SIOOBE_FORMATTER" "Ljava/util/function/BiFunction;" ∈ wT := wT_of (inTb_2 76 rfl) rfl
theorem w370 : Jvm.Cond.laysStatic "jdk/internal/util/Preconditions" "SIOOBE_FORMATTER" "Ljava/util/function/BiFunction;" ∈ lw_tbl := inTb_2 77 rfl
theorem w371 : Jvm.Cond.methodLink "java/lang/String" (1059 : Nat) ({ cls := "jdk/internal/util/Preconditions", name := "checkIndex", desc := "(IILjava/util/function/BiFunction;)I" } : Jvm.MethodName) ∈ wT := wT_of (inTb_2 78 rfl) rfl
theorem w372 : Jvm.Cond.static ({ cls := "jdk/internal/util/Preconditions", name := "checkIndex", desc := "(IILjava/util/function/BiFunction;)I" } : Jvm.MethodName) ∈ wT := wT_of (inTb_2 79 rfl) rfl
theorem w373 : Jvm.Cond.code ({ cls := "jdk/internal/util/Preconditions", name := "checkIndex", desc := "(IILjava/util/function/BiFunction;)I" } : Jvm.MethodName) prog_14_method_11_code (3 : Nat) (Option.some Jvm.ClassFile.FieldType.int) ∈ wT := wT_of (inTb_2 80 rfl) rfl
theorem w374 : Jvm.Cond.methodLink "java/lang/String" (498 : Nat) ({ cls := "java/lang/StringUTF16", name := "charAt", desc := "([BI)C" } : Jvm.MethodName) ∈ wT := wT_of (inTb_2 81 rfl) rfl
theorem w375 : Jvm.Cond.static ({ cls := "java/lang/StringUTF16", name := "charAt", desc := "([BI)C" } : Jvm.MethodName) ∈ wT := wT_of (inTb_2 82 rfl) rfl
theorem w376 : Jvm.Cond.code ({ cls := "java/lang/StringUTF16", name := "charAt", desc := "([BI)C" } : Jvm.MethodName) prog_12_method_83_code (2 : Nat) (Option.some Jvm.ClassFile.FieldType.char) ∈ wT := wT_of (inTb_2 83 rfl) rfl
theorem w377 : Jvm.Cond.methodLink "java/lang/StringUTF16" (67 : Nat) ({ cls := "java/lang/StringUTF16", name := "checkIndex", desc := "(I[B)V" } : Jvm.MethodName) ∈ wT := wT_of (inTb_2 84 rfl) rfl
theorem w378 : Jvm.Cond.static ({ cls := "java/lang/StringUTF16", name := "checkIndex", desc := "(I[B)V" } : Jvm.MethodName) ∈ wT := wT_of (inTb_2 85 rfl) rfl
theorem w379 : Jvm.Cond.code ({ cls := "java/lang/StringUTF16", name := "checkIndex", desc := "(I[B)V" } : Jvm.MethodName) prog_12_method_91_code (2 : Nat) (Option.none : Option Jvm.ClassFile.FieldType) ∈ wT := wT_of (inTb_2 86 rfl) rfl
theorem w380 : Jvm.Cond.methodLink "java/lang/StringUTF16" (48 : Nat) ({ cls := "java/lang/StringUTF16", name := "length", desc := "([B)I" } : Jvm.MethodName) ∈ wT := wT_of (inTb_2 87 rfl) rfl
theorem w381 : Jvm.Cond.static ({ cls := "java/lang/StringUTF16", name := "length", desc := "([B)I" } : Jvm.MethodName) ∈ wT := wT_of (inTb_2 88 rfl) rfl
theorem w382 : Jvm.Cond.code ({ cls := "java/lang/StringUTF16", name := "length", desc := "([B)I" } : Jvm.MethodName) prog_12_method_6_code (1 : Nat) (Option.some Jvm.ClassFile.FieldType.int) ∈ wT := wT_of (inTb_2 89 rfl) rfl
theorem w383 : Jvm.Cond.methodLink "java/lang/StringUTF16" (414 : Nat) ({ cls := "java/lang/String", name := "checkIndex", desc := "(II)V" } : Jvm.MethodName) ∈ wT := wT_of (inTb_2 90 rfl) rfl
theorem w384 : Jvm.Cond.methodLink "java/lang/StringUTF16" (71 : Nat) ({ cls := "java/lang/StringUTF16", name := "getChar", desc := "([BI)C" } : Jvm.MethodName) ∈ wT := wT_of (inTb_2 91 rfl) rfl
theorem w385 : Jvm.Cond.static ({ cls := "java/lang/StringUTF16", name := "getChar", desc := "([BI)C" } : Jvm.MethodName) ∈ wT := wT_of (inTb_2 92 rfl) rfl
theorem w386 : Jvm.Cond.code ({ cls := "java/lang/StringUTF16", name := "getChar", desc := "([BI)C" } : Jvm.MethodName) prog_12_method_5_code (2 : Nat) (Option.some Jvm.ClassFile.FieldType.char) ∈ wT := wT_of (inTb_2 93 rfl) rfl
theorem w387 : Jvm.Cond.fieldLink "java/lang/StringUTF16" (44 : Nat) "java/lang/StringUTF16" "$assertionsDisabled" "Z" ∈ wT := wT_of (inTb_2 94 rfl) rfl
theorem w388 : Jvm.Cond.laysStatic "java/lang/StringUTF16" "$assertionsDisabled" "Z" ∈ lw_tbl := inTb_2 95 rfl
theorem w389 : Jvm.Cond.fieldLink "java/lang/StringUTF16" (59 : Nat) "java/lang/StringUTF16" "HI_BYTE_SHIFT" "I" ∈ wT := wT_of (inTb_2 96 rfl) rfl
theorem w390 : Jvm.Cond.laysStatic "java/lang/StringUTF16" "HI_BYTE_SHIFT" "I" ∈ lw_tbl := inTb_2 97 rfl
theorem w391 : Jvm.Cond.fieldLink "java/lang/StringUTF16" (63 : Nat) "java/lang/StringUTF16" "LO_BYTE_SHIFT" "I" ∈ wT := wT_of (inTb_2 98 rfl) rfl
theorem w392 : Jvm.Cond.laysStatic "java/lang/StringUTF16" "LO_BYTE_SHIFT" "I" ∈ lw_tbl := inTb_2 99 rfl
theorem w393 : Jvm.Cond.methodLink "TuneWard$Tape" (60 : Nat) ({ cls := "TuneWard$Tape", name := "tellTune", desc := "(LTuneWard$House;I)V" } : Jvm.MethodName) ∈ wT := wT_of (inTb_2 100 rfl) rfl
theorem w395 : Jvm.Cond.instanceMethod ({ cls := "TuneWard$Tape", name := "tellTune", desc := "(LTuneWard$House;I)V" } : Jvm.MethodName) ∈ wT := wT_of (inTb_2 102 rfl) rfl
theorem w396 : Jvm.Cond.code ({ cls := "TuneWard$Tape", name := "tellTune", desc := "(LTuneWard$House;I)V" } : Jvm.MethodName) prog_5_method_5_code (6 : Nat) (Option.none : Option Jvm.ClassFile.FieldType) ∈ wT := wT_of (inTb_2 103 rfl) rfl
theorem w397 : Jvm.Cond.methodLink "TuneWard$Tape" (89 : Nat) ({ cls := "TuneWard$Tape", name := "nextNumber", desc := "(II)I" } : Jvm.MethodName) ∈ wT := wT_of (inTb_2 104 rfl) rfl
theorem w399 : Jvm.Cond.instanceMethod ({ cls := "TuneWard$Tape", name := "nextNumber", desc := "(II)I" } : Jvm.MethodName) ∈ wT := wT_of (inTb_2 106 rfl) rfl
theorem w400 : Jvm.Cond.code ({ cls := "TuneWard$Tape", name := "nextNumber", desc := "(II)I" } : Jvm.MethodName) prog_5_method_8_code (3 : Nat) (Option.some Jvm.ClassFile.FieldType.int) ∈ wT := wT_of (inTb_2 107 rfl) rfl
theorem w401 : Jvm.Cond.methodLink "TuneWard$Tape" (102 : Nat) ({ cls := "TuneWard$Tape", name := "number", desc := "(II)I" } : Jvm.MethodName) ∈ wT := wT_of (inTb_2 108 rfl) rfl
theorem w403 : Jvm.Cond.instanceMethod ({ cls := "TuneWard$Tape", name := "number", desc := "(II)I" } : Jvm.MethodName) ∈ wT := wT_of (inTb_2 110 rfl) rfl
theorem w404 : Jvm.Cond.code ({ cls := "TuneWard$Tape", name := "number", desc := "(II)I" } : Jvm.MethodName) prog_5_method_9_code (5 : Nat) (Option.some Jvm.ClassFile.FieldType.int) ∈ wT := wT_of (inTb_2 111 rfl) rfl
theorem w405 : Jvm.Cond.methodLink "TuneWard$Tape" (105 : Nat) ({ cls := "TuneWard$Tape", name := "sign", desc := "()V" } : Jvm.MethodName) ∈ wT := wT_of (inTb_2 112 rfl) rfl
theorem w407 : Jvm.Cond.instanceMethod ({ cls := "TuneWard$Tape", name := "sign", desc := "()V" } : Jvm.MethodName) ∈ wT := wT_of (inTb_2 114 rfl) rfl
theorem w408 : Jvm.Cond.code ({ cls := "TuneWard$Tape", name := "sign", desc := "()V" } : Jvm.MethodName) prog_5_method_10_code (1 : Nat) (Option.none : Option Jvm.ClassFile.FieldType) ∈ wT := wT_of (inTb_2 115 rfl) rfl
theorem w409 : Jvm.Cond.stringRef "TuneWard$Tape" (64 : Nat) "rondo" ∈ lw_tbl := inTb_2 116 rfl
theorem w410 : Jvm.Cond.stringRef "TuneWard$Tape" (66 : Nat) "fugue" ∈ lw_tbl := inTb_2 117 rfl
theorem w411 : Jvm.Cond.stringRef "TuneWard$Tape" (68 : Nat) "lullaby" ∈ lw_tbl := inTb_2 118 rfl
theorem w412 : Jvm.Cond.stringRef "TuneWard$Tape" (70 : Nat) "player" ∈ lw_tbl := inTb_2 119 rfl
theorem w413 : Jvm.Cond.methodLink "TuneWard$Tape" (72 : Nat) ({ cls := "TuneWard$Tape", name := "tellPlayer", desc := "(LTuneWard$House;)V" } : Jvm.MethodName) ∈ wT := wT_of (inTb_2 120 rfl) rfl
theorem w415 : Jvm.Cond.instanceMethod ({ cls := "TuneWard$Tape", name := "tellPlayer", desc := "(LTuneWard$House;)V" } : Jvm.MethodName) ∈ wT := wT_of (inTb_2 122 rfl) rfl
theorem w416 : Jvm.Cond.code ({ cls := "TuneWard$Tape", name := "tellPlayer", desc := "(LTuneWard$House;)V" } : Jvm.MethodName) prog_5_method_6_code (3 : Nat) (Option.none : Option Jvm.ClassFile.FieldType) ∈ wT := wT_of (inTb_2 123 rfl) rfl
theorem w417 : Jvm.Cond.stringRef "TuneWard$Tape" (75 : Nat) "bound" ∈ lw_tbl := inTb_2 124 rfl
theorem w418 : Jvm.Cond.methodLink "TuneWard$Tape" (77 : Nat) ({ cls := "TuneWard$Tape", name := "tellBound", desc := "(LTuneWard$House;)V" } : Jvm.MethodName) ∈ wT := wT_of (inTb_2 125 rfl) rfl
theorem w420 : Jvm.Cond.instanceMethod ({ cls := "TuneWard$Tape", name := "tellBound", desc := "(LTuneWard$House;)V" } : Jvm.MethodName) ∈ wT := wT_of (inTb_2 127 rfl) rfl
theorem w421 : Jvm.Cond.code ({ cls := "TuneWard$Tape", name := "tellBound", desc := "(LTuneWard$House;)V" } : Jvm.MethodName) prog_5_method_7_code (3 : Nat) (Option.none : Option Jvm.ClassFile.FieldType) ∈ wT := wT_of (inTb_2 128 rfl) rfl
theorem w422 : Jvm.Cond.methodLink "TuneWard$Tape" (46 : Nat) ({ cls := "TuneWard$House", name := "allTunesAreThere", desc := "()Z" } : Jvm.MethodName) ∈ wT := wT_of (inTb_2 129 rfl) rfl
theorem w423 : Jvm.Cond.instanceMethod ({ cls := "TuneWard$House", name := "allTunesAreThere", desc := "()Z" } : Jvm.MethodName) ∈ wT := wT_of (inTb_2 130 rfl) rfl
theorem w424 : Jvm.Cond.selects "TuneWard$House" ({ cls := "TuneWard$House", name := "allTunesAreThere", desc := "()Z" } : Jvm.MethodName) ({ cls := "TuneWard$House", name := "allTunesAreThere", desc := "()Z" } : Jvm.MethodName) ∈ wT := wT_of (inTb_2 131 rfl) rfl
theorem w425 : Jvm.Cond.code ({ cls := "TuneWard$House", name := "allTunesAreThere", desc := "()Z" } : Jvm.MethodName) prog_2_method_17_code (2 : Nat) (Option.some Jvm.ClassFile.FieldType.boolean) ∈ wT := wT_of (inTb_2 132 rfl) rfl
theorem w426 : Jvm.Cond.methodLink "TuneWard$House" (62 : Nat) ({ cls := "TuneWard$House", name := "hasTune", desc := "(I)Z" } : Jvm.MethodName) ∈ wT := wT_of (inTb_2 133 rfl) rfl
theorem w427 : Jvm.Cond.instanceMethod ({ cls := "TuneWard$House", name := "hasTune", desc := "(I)Z" } : Jvm.MethodName) ∈ wT := wT_of (inTb_2 134 rfl) rfl
theorem w428 : Jvm.Cond.selects "TuneWard$House" ({ cls := "TuneWard$House", name := "hasTune", desc := "(I)Z" } : Jvm.MethodName) ({ cls := "TuneWard$House", name := "hasTune", desc := "(I)Z" } : Jvm.MethodName) ∈ wT := wT_of (inTb_2 135 rfl) rfl
theorem w429 : Jvm.Cond.code ({ cls := "TuneWard$House", name := "hasTune", desc := "(I)Z" } : Jvm.MethodName) prog_2_method_4_code (2 : Nat) (Option.some Jvm.ClassFile.FieldType.boolean) ∈ wT := wT_of (inTb_2 136 rfl) rfl
theorem w430 : Jvm.Cond.methodLinkNest "TuneWard$House" (58 : Nat) ({ cls := "TuneWard", name := "within", desc := "(III)Z" } : Jvm.MethodName) "TuneWard" ∈ lw_tbl := inTb_2 137 rfl
theorem w431 : Jvm.Cond.methodLink "TuneWard" (83 : Nat) ({ cls := "TuneWard$House", name := "become", desc := "(LTuneWard$House;)V" } : Jvm.MethodName) ∈ wT := wT_of (inTb_2 138 rfl) rfl
theorem w432 : Jvm.Cond.instanceMethod ({ cls := "TuneWard$House", name := "become", desc := "(LTuneWard$House;)V" } : Jvm.MethodName) ∈ wT := wT_of (inTb_2 139 rfl) rfl
theorem w433 : Jvm.Cond.selects "TuneWard$House" ({ cls := "TuneWard$House", name := "become", desc := "(LTuneWard$House;)V" } : Jvm.MethodName) ({ cls := "TuneWard$House", name := "become", desc := "(LTuneWard$House;)V" } : Jvm.MethodName) ∈ wT := wT_of (inTb_2 140 rfl) rfl
theorem w434 : Jvm.Cond.code ({ cls := "TuneWard$House", name := "become", desc := "(LTuneWard$House;)V" } : Jvm.MethodName) prog_2_method_3_code (2 : Nat) (Option.none : Option Jvm.ClassFile.FieldType) ∈ wT := wT_of (inTb_2 141 rfl) rfl
theorem w435 : Jvm.Cond.methodLink "TuneWard$House" (52 : Nat) ({ cls := "java/lang/System", name := "arraycopy", desc := "(Ljava/lang/Object;ILjava/lang/Object;II)V" } : Jvm.MethodName) ∈ wT := wT_of (inTb_2 142 rfl) rfl
theorem w436 : Jvm.Cond.static ({ cls := "java/lang/System", name := "arraycopy", desc := "(Ljava/lang/Object;ILjava/lang/Object;II)V" } : Jvm.MethodName) ∈ wT := wT_of (inTb_2 143 rfl) rfl
theorem w437 : Jvm.Cond.native ({ cls := "java/lang/System", name := "arraycopy", desc := "(Ljava/lang/Object;ILjava/lang/Object;II)V" } : Jvm.MethodName) ∈ wT := wT_of (inTb_2 144 rfl) rfl
theorem w438 : Jvm.Cond.arrayClass Jvm.ClassFile.FieldType.byte ∈ wT := wT_of (inTb_2 145 rfl) rfl
theorem w439 : Jvm.Cond.methodLink "TuneWardLaw" (27 : Nat) ({ cls := "TuneWard", name := "fault", desc := "()I" } : Jvm.MethodName) ∈ wT := wT_of (inTb_2 146 rfl) rfl
theorem w440 : Jvm.Cond.instanceMethod ({ cls := "TuneWard", name := "fault", desc := "()I" } : Jvm.MethodName) ∈ wT := wT_of (inTb_2 147 rfl) rfl
theorem w441 : Jvm.Cond.selects "TuneWard" ({ cls := "TuneWard", name := "fault", desc := "()I" } : Jvm.MethodName) ({ cls := "TuneWard", name := "fault", desc := "()I" } : Jvm.MethodName) ∈ wT := wT_of (inTb_2 148 rfl) rfl
theorem w442 : Jvm.Cond.code ({ cls := "TuneWard", name := "fault", desc := "()I" } : Jvm.MethodName) prog_1_method_5_code (1 : Nat) (Option.some Jvm.ClassFile.FieldType.int) ∈ wT := wT_of (inTb_2 149 rfl) rfl
theorem w443 : Jvm.Cond.methodLink "TuneWardLaw" (31 : Nat) ({ cls := "TuneWard", name := "rule", desc := "(I)I" } : Jvm.MethodName) ∈ wT := wT_of (inTb_2 150 rfl) rfl
theorem w444 : Jvm.Cond.instanceMethod ({ cls := "TuneWard", name := "rule", desc := "(I)I" } : Jvm.MethodName) ∈ wT := wT_of (inTb_2 151 rfl) rfl
theorem w445 : Jvm.Cond.selects "TuneWard" ({ cls := "TuneWard", name := "rule", desc := "(I)I" } : Jvm.MethodName) ({ cls := "TuneWard", name := "rule", desc := "(I)I" } : Jvm.MethodName) ∈ wT := wT_of (inTb_2 152 rfl) rfl
theorem w446 : Jvm.Cond.code ({ cls := "TuneWard", name := "rule", desc := "(I)I" } : Jvm.MethodName) prog_1_method_6_code (2 : Nat) (Option.some Jvm.ClassFile.FieldType.int) ∈ wT := wT_of (inTb_2 153 rfl) rfl
theorem w447 : Jvm.Cond.methodLink "TuneWardLaw" (35 : Nat) ({ cls := "TuneWard", name := "tune", desc := "(II)I" } : Jvm.MethodName) ∈ wT := wT_of (inTb_2 154 rfl) rfl
theorem w448 : Jvm.Cond.instanceMethod ({ cls := "TuneWard", name := "tune", desc := "(II)I" } : Jvm.MethodName) ∈ wT := wT_of (inTb_2 155 rfl) rfl
theorem w449 : Jvm.Cond.selects "TuneWard" ({ cls := "TuneWard", name := "tune", desc := "(II)I" } : Jvm.MethodName) ({ cls := "TuneWard", name := "tune", desc := "(II)I" } : Jvm.MethodName) ∈ wT := wT_of (inTb_2 156 rfl) rfl
theorem w450 : Jvm.Cond.code ({ cls := "TuneWard", name := "tune", desc := "(II)I" } : Jvm.MethodName) prog_1_method_7_code (3 : Nat) (Option.some Jvm.ClassFile.FieldType.int) ∈ wT := wT_of (inTb_2 157 rfl) rfl
theorem w451 : Jvm.Cond.methodLink "TuneWard" (99 : Nat) ({ cls := "TuneWard$House", name := "hasTune", desc := "(I)Z" } : Jvm.MethodName) ∈ wT := wT_of (inTb_2 158 rfl) rfl
theorem w452 : Jvm.Cond.methodLink "TuneWard" (115 : Nat) ({ cls := "TuneWard$House", name := "lengthAs", desc := "(II)I" } : Jvm.MethodName) ∈ wT := wT_of (inTb_2 159 rfl) rfl
theorem w453 : Jvm.Cond.instanceMethod ({ cls := "TuneWard$House", name := "lengthAs", desc := "(II)I" } : Jvm.MethodName) ∈ wT := wT_of (inTb_2 160 rfl) rfl
theorem w454 : Jvm.Cond.selects "TuneWard$House" ({ cls := "TuneWard$House", name := "lengthAs", desc := "(II)I" } : Jvm.MethodName) ({ cls := "TuneWard$House", name := "lengthAs", desc := "(II)I" } : Jvm.MethodName) ∈ wT := wT_of (inTb_2 161 rfl) rfl
theorem w455 : Jvm.Cond.code ({ cls := "TuneWard$House", name := "lengthAs", desc := "(II)I" } : Jvm.MethodName) prog_2_method_9_code (3 : Nat) (Option.some Jvm.ClassFile.FieldType.int) ∈ wT := wT_of (inTb_2 162 rfl) rfl
theorem w456 : Jvm.Cond.methodLink "TuneWard$House" (66 : Nat) ({ cls := "TuneWard$House", name := "rowLength", desc := "(II)I" } : Jvm.MethodName) ∈ wT := wT_of (inTb_2 163 rfl) rfl
theorem w457 : Jvm.Cond.static ({ cls := "TuneWard$House", name := "rowLength", desc := "(II)I" } : Jvm.MethodName) ∈ wT := wT_of (inTb_2 164 rfl) rfl
theorem w458 : Jvm.Cond.code ({ cls := "TuneWard$House", name := "rowLength", desc := "(II)I" } : Jvm.MethodName) prog_2_method_8_code (2 : Nat) (Option.some Jvm.ClassFile.FieldType.int) ∈ wT := wT_of (inTb_2 165 rfl) rfl
theorem w459 : Jvm.Cond.methodLink "TuneWard" (119 : Nat) ({ cls := "TuneWard$House", name := "boundTo", desc := "(I)I" } : Jvm.MethodName) ∈ wT := wT_of (inTb_2 166 rfl) rfl
theorem w460 : Jvm.Cond.instanceMethod ({ cls := "TuneWard$House", name := "boundTo", desc := "(I)I" } : Jvm.MethodName) ∈ wT := wT_of (inTb_2 167 rfl) rfl
theorem w461 : Jvm.Cond.selects "TuneWard$House" ({ cls := "TuneWard$House", name := "boundTo", desc := "(I)I" } : Jvm.MethodName) ({ cls := "TuneWard$House", name := "boundTo", desc := "(I)I" } : Jvm.MethodName) ∈ wT := wT_of (inTb_2 168 rfl) rfl
theorem w462 : Jvm.Cond.code ({ cls := "TuneWard$House", name := "boundTo", desc := "(I)I" } : Jvm.MethodName) prog_2_method_12_code (4 : Nat) (Option.some Jvm.ClassFile.FieldType.int) ∈ wT := wT_of (inTb_2 169 rfl) rfl
theorem w463 : Jvm.Cond.methodLink "TuneWardLaw" (40 : Nat) ({ cls := "TuneWard", name := "note", desc := "(II)I" } : Jvm.MethodName) ∈ wT := wT_of (inTb_2 170 rfl) rfl
theorem w464 : Jvm.Cond.instanceMethod ({ cls := "TuneWard", name := "note", desc := "(II)I" } : Jvm.MethodName) ∈ wT := wT_of (inTb_2 171 rfl) rfl
theorem w465 : Jvm.Cond.selects "TuneWard" ({ cls := "TuneWard", name := "note", desc := "(II)I" } : Jvm.MethodName) ({ cls := "TuneWard", name := "note", desc := "(II)I" } : Jvm.MethodName) ∈ wT := wT_of (inTb_2 172 rfl) rfl
theorem w466 : Jvm.Cond.code ({ cls := "TuneWard", name := "note", desc := "(II)I" } : Jvm.MethodName) prog_1_method_8_code (3 : Nat) (Option.some Jvm.ClassFile.FieldType.int) ∈ wT := wT_of (inTb_2 173 rfl) rfl
theorem w467 : Jvm.Cond.methodLink "TuneWard" (122 : Nat) ({ cls := "TuneWard$House", name := "hasNote", desc := "(II)Z" } : Jvm.MethodName) ∈ wT := wT_of (inTb_2 174 rfl) rfl
theorem w468 : Jvm.Cond.instanceMethod ({ cls := "TuneWard$House", name := "hasNote", desc := "(II)Z" } : Jvm.MethodName) ∈ wT := wT_of (inTb_2 175 rfl) rfl
theorem w469 : Jvm.Cond.selects "TuneWard$House" ({ cls := "TuneWard$House", name := "hasNote", desc := "(II)Z" } : Jvm.MethodName) ({ cls := "TuneWard$House", name := "hasNote", desc := "(II)Z" } : Jvm.MethodName) ∈ wT := wT_of (inTb_2 176 rfl) rfl
theorem w470 : Jvm.Cond.code ({ cls := "TuneWard$House", name := "hasNote", desc := "(II)Z" } : Jvm.MethodName) prog_2_method_5_code (3 : Nat) (Option.some Jvm.ClassFile.FieldType.boolean) ∈ wT := wT_of (inTb_2 177 rfl) rfl
theorem w471 : Jvm.Cond.methodLink "TuneWardLaw" (44 : Nat) ({ cls := "TuneWard", name := "has", desc := "(II)I" } : Jvm.MethodName) ∈ wT := wT_of (inTb_2 178 rfl) rfl
theorem w472 : Jvm.Cond.instanceMethod ({ cls := "TuneWard", name := "has", desc := "(II)I" } : Jvm.MethodName) ∈ wT := wT_of (inTb_2 179 rfl) rfl
theorem w473 : Jvm.Cond.selects "TuneWard" ({ cls := "TuneWard", name := "has", desc := "(II)I" } : Jvm.MethodName) ({ cls := "TuneWard", name := "has", desc := "(II)I" } : Jvm.MethodName) ∈ wT := wT_of (inTb_2 180 rfl) rfl
theorem w474 : Jvm.Cond.code ({ cls := "TuneWard", name := "has", desc := "(II)I" } : Jvm.MethodName) prog_1_method_9_code (3 : Nat) (Option.some Jvm.ClassFile.FieldType.int) ∈ wT := wT_of (inTb_2 181 rfl) rfl
theorem w475 : Jvm.Cond.methodLink "TuneWard" (129 : Nat) ({ cls := "TuneWard$House", name := "noteAs", desc := "(III)I" } : Jvm.MethodName) ∈ wT := wT_of (inTb_2 182 rfl) rfl
theorem w476 : Jvm.Cond.instanceMethod ({ cls := "TuneWard$House", name := "noteAs", desc := "(III)I" } : Jvm.MethodName) ∈ wT := wT_of (inTb_2 183 rfl) rfl
theorem w477 : Jvm.Cond.selects "TuneWard$House" ({ cls := "TuneWard$House", name := "noteAs", desc := "(III)I" } : Jvm.MethodName) ({ cls := "TuneWard$House", name := "noteAs", desc := "(III)I" } : Jvm.MethodName) ∈ wT := wT_of (inTb_2 184 rfl) rfl
theorem w478 : Jvm.Cond.code ({ cls := "TuneWard$House", name := "noteAs", desc := "(III)I" } : Jvm.MethodName) prog_2_method_11_code (6 : Nat) (Option.some Jvm.ClassFile.FieldType.int) ∈ wT := wT_of (inTb_2 185 rfl) rfl
theorem w479 : Jvm.Cond.methodLink "TuneWard$House" (75 : Nat) ({ cls := "TuneWard$House", name := "rowNote", desc := "(III)I" } : Jvm.MethodName) ∈ wT := wT_of (inTb_2 186 rfl) rfl
theorem w480 : Jvm.Cond.instanceMethod ({ cls := "TuneWard$House", name := "rowNote", desc := "(III)I" } : Jvm.MethodName) ∈ wT := wT_of (inTb_2 187 rfl) rfl
theorem w481 : Jvm.Cond.selects "TuneWard$House" ({ cls := "TuneWard$House", name := "rowNote", desc := "(III)I" } : Jvm.MethodName) ({ cls := "TuneWard$House", name := "rowNote", desc := "(III)I" } : Jvm.MethodName) ∈ wT := wT_of (inTb_2 188 rfl) rfl
theorem w482 : Jvm.Cond.code ({ cls := "TuneWard$House", name := "rowNote", desc := "(III)I" } : Jvm.MethodName) prog_2_method_10_code (7 : Nat) (Option.some Jvm.ClassFile.FieldType.int) ∈ wT := wT_of (inTb_2 189 rfl) rfl
theorem w483 : Jvm.Cond.methodLink "TuneWard$House" (70 : Nat) ({ cls := "java/lang/Math", name := "max", desc := "(II)I" } : Jvm.MethodName) ∈ wT := wT_of (inTb_2 190 rfl) rfl
theorem w484 : Jvm.Cond.static ({ cls := "java/lang/Math", name := "max", desc := "(II)I" } : Jvm.MethodName) ∈ wT := wT_of (inTb_2 191 rfl) rfl
theorem w485 : Jvm.Cond.code ({ cls := "java/lang/Math", name := "max", desc := "(II)I" } : Jvm.MethodName) prog_9_method_65_code (2 : Nat) (Option.some Jvm.ClassFile.FieldType.int) ∈ wT := wT_of (inTb_2 192 rfl) rfl
theorem w486 : Jvm.Cond.methodLink "TuneWardLaw" (48 : Nat) ({ cls := "TuneWard", name := "player", desc := "(II)I" } : Jvm.MethodName) ∈ wT := wT_of (inTb_2 193 rfl) rfl
theorem w487 : Jvm.Cond.instanceMethod ({ cls := "TuneWard", name := "player", desc := "(II)I" } : Jvm.MethodName) ∈ wT := wT_of (inTb_2 194 rfl) rfl
theorem w488 : Jvm.Cond.selects "TuneWard" ({ cls := "TuneWard", name := "player", desc := "(II)I" } : Jvm.MethodName) ({ cls := "TuneWard", name := "player", desc := "(II)I" } : Jvm.MethodName) ∈ wT := wT_of (inTb_2 195 rfl) rfl
theorem w489 : Jvm.Cond.code ({ cls := "TuneWard", name := "player", desc := "(II)I" } : Jvm.MethodName) prog_1_method_10_code (3 : Nat) (Option.some Jvm.ClassFile.FieldType.int) ∈ wT := wT_of (inTb_2 196 rfl) rfl
theorem w490 : Jvm.Cond.methodLink "TuneWard" (133 : Nat) ({ cls := "TuneWard$House", name := "hasPlayer", desc := "(I)Z" } : Jvm.MethodName) ∈ wT := wT_of (inTb_2 197 rfl) rfl
theorem w491 : Jvm.Cond.instanceMethod ({ cls := "TuneWard$House", name := "hasPlayer", desc := "(I)Z" } : Jvm.MethodName) ∈ wT := wT_of (inTb_2 198 rfl) rfl
theorem w492 : Jvm.Cond.selects "TuneWard$House" ({ cls := "TuneWard$House", name := "hasPlayer", desc := "(I)Z" } : Jvm.MethodName) ({ cls := "TuneWard$House", name := "hasPlayer", desc := "(I)Z" } : Jvm.MethodName) ∈ wT := wT_of (inTb_2 199 rfl) rfl
theorem w493 : Jvm.Cond.code ({ cls := "TuneWard$House", name := "hasPlayer", desc := "(I)Z" } : Jvm.MethodName) prog_2_method_6_code (2 : Nat) (Option.some Jvm.ClassFile.FieldType.boolean) ∈ wT := wT_of (inTb_2 200 rfl) rfl
theorem w494 : Jvm.Cond.methodLink "TuneWardLaw" (52 : Nat) ({ cls := "TuneWard", name := "bound", desc := "(I)I" } : Jvm.MethodName) ∈ wT := wT_of (inTb_2 201 rfl) rfl
theorem w495 : Jvm.Cond.instanceMethod ({ cls := "TuneWard", name := "bound", desc := "(I)I" } : Jvm.MethodName) ∈ wT := wT_of (inTb_2 202 rfl) rfl
theorem w496 : Jvm.Cond.selects "TuneWard" ({ cls := "TuneWard", name := "bound", desc := "(I)I" } : Jvm.MethodName) ({ cls := "TuneWard", name := "bound", desc := "(I)I" } : Jvm.MethodName) ∈ wT := wT_of (inTb_2 203 rfl) rfl
theorem w497 : Jvm.Cond.code ({ cls := "TuneWard", name := "bound", desc := "(I)I" } : Jvm.MethodName) prog_1_method_11_code (2 : Nat) (Option.some Jvm.ClassFile.FieldType.int) ∈ wT := wT_of (inTb_2 204 rfl) rfl
theorem w498 : Jvm.Cond.methodLink "TuneWard" (148 : Nat) ({ cls := "TuneWard$House", name := "hasPrisoner", desc := "(I)Z" } : Jvm.MethodName) ∈ wT := wT_of (inTb_2 205 rfl) rfl
theorem w499 : Jvm.Cond.instanceMethod ({ cls := "TuneWard$House", name := "hasPrisoner", desc := "(I)Z" } : Jvm.MethodName) ∈ wT := wT_of (inTb_2 206 rfl) rfl
theorem w500 : Jvm.Cond.selects "TuneWard$House" ({ cls := "TuneWard$House", name := "hasPrisoner", desc := "(I)Z" } : Jvm.MethodName) ({ cls := "TuneWard$House", name := "hasPrisoner", desc := "(I)Z" } : Jvm.MethodName) ∈ wT := wT_of (inTb_2 207 rfl) rfl
theorem w501 : Jvm.Cond.code ({ cls := "TuneWard$House", name := "hasPrisoner", desc := "(I)Z" } : Jvm.MethodName) prog_2_method_7_code (2 : Nat) (Option.some Jvm.ClassFile.FieldType.boolean) ∈ wT := wT_of (inTb_2 208 rfl) rfl
theorem w502 : Jvm.Cond.methodLink "TuneWardLaw" (56 : Nat) ({ cls := "TuneWard", name := "write", desc := "(III)I" } : Jvm.MethodName) ∈ wT := wT_of (inTb_2 209 rfl) rfl
theorem w503 : Jvm.Cond.instanceMethod ({ cls := "TuneWard", name := "write", desc := "(III)I" } : Jvm.MethodName) ∈ wT := wT_of (inTb_2 210 rfl) rfl
theorem w504 : Jvm.Cond.selects "TuneWard" ({ cls := "TuneWard", name := "write", desc := "(III)I" } : Jvm.MethodName) ({ cls := "TuneWard", name := "write", desc := "(III)I" } : Jvm.MethodName) ∈ wT := wT_of (inTb_2 211 rfl) rfl
theorem w505 : Jvm.Cond.code ({ cls := "TuneWard", name := "write", desc := "(III)I" } : Jvm.MethodName) prog_1_method_12_code (4 : Nat) (Option.some Jvm.ClassFile.FieldType.int) ∈ wT := wT_of (inTb_2 212 rfl) rfl
theorem w506 : Jvm.Cond.methodLink "TuneWard" (154 : Nat) ({ cls := "TuneWard", name := "exchange", desc := "([III)I" } : Jvm.MethodName) ∈ wT := wT_of (inTb_2 213 rfl) rfl
theorem w507 : Jvm.Cond.static ({ cls := "TuneWard", name := "exchange", desc := "([III)I" } : Jvm.MethodName) ∈ wT := wT_of (inTb_2 214 rfl) rfl
theorem w508 : Jvm.Cond.code ({ cls := "TuneWard", name := "exchange", desc := "([III)I" } : Jvm.MethodName) prog_1_method_43_code (4 : Nat) (Option.some Jvm.ClassFile.FieldType.int) ∈ wT := wT_of (inTb_2 215 rfl) rfl
theorem w509 : Jvm.Cond.methodLink "TuneWardLaw" (61 : Nat) ({ cls := "TuneWard", name := "add", desc := "(II)I" } : Jvm.MethodName) ∈ wT := wT_of (inTb_2 216 rfl) rfl
theorem w510 : Jvm.Cond.instanceMethod ({ cls := "TuneWard", name := "add", desc := "(II)I" } : Jvm.MethodName) ∈ wT := wT_of (inTb_2 217 rfl) rfl
theorem w511 : Jvm.Cond.selects "TuneWard" ({ cls := "TuneWard", name := "add", desc := "(II)I" } : Jvm.MethodName) ({ cls := "TuneWard", name := "add", desc := "(II)I" } : Jvm.MethodName) ∈ wT := wT_of (inTb_2 218 rfl) rfl
theorem w512 : Jvm.Cond.code ({ cls := "TuneWard", name := "add", desc := "(II)I" } : Jvm.MethodName) prog_1_method_13_code (4 : Nat) (Option.some Jvm.ClassFile.FieldType.int) ∈ wT := wT_of (inTb_2 219 rfl) rfl
theorem w513 : Jvm.Cond.methodLink "TuneWardLaw" (65 : Nat) ({ cls := "TuneWard", name := "set", desc := "(III)I" } : Jvm.MethodName) ∈ wT := wT_of (inTb_2 220 rfl) rfl
theorem w514 : Jvm.Cond.instanceMethod ({ cls := "TuneWard", name := "set", desc := "(III)I" } : Jvm.MethodName) ∈ wT := wT_of (inTb_2 221 rfl) rfl
theorem w515 : Jvm.Cond.selects "TuneWard" ({ cls := "TuneWard", name := "set", desc := "(III)I" } : Jvm.MethodName) ({ cls := "TuneWard", name := "set", desc := "(III)I" } : Jvm.MethodName) ∈ wT := wT_of (inTb_2 222 rfl) rfl
theorem w516 : Jvm.Cond.code ({ cls := "TuneWard", name := "set", desc := "(III)I" } : Jvm.MethodName) prog_1_method_14_code (4 : Nat) (Option.some Jvm.ClassFile.FieldType.int) ∈ wT := wT_of (inTb_2 223 rfl) rfl
theorem w517 : Jvm.Cond.methodLink "TuneWardLaw" (69 : Nat) ({ cls := "TuneWard", name := "hire", desc := "(III)I" } : Jvm.MethodName) ∈ wT := wT_of (inTb_2 224 rfl) rfl
theorem w518 : Jvm.Cond.instanceMethod ({ cls := "TuneWard", name := "hire", desc := "(III)I" } : Jvm.MethodName) ∈ wT := wT_of (inTb_2 225 rfl) rfl
theorem w519 : Jvm.Cond.selects "TuneWard" ({ cls := "TuneWard", name := "hire", desc := "(III)I" } : Jvm.MethodName) ({ cls := "TuneWard", name := "hire", desc := "(III)I" } : Jvm.MethodName) ∈ wT := wT_of (inTb_2 226 rfl) rfl
theorem w520 : Jvm.Cond.code ({ cls := "TuneWard", name := "hire", desc := "(III)I" } : Jvm.MethodName) prog_1_method_15_code (4 : Nat) (Option.some Jvm.ClassFile.FieldType.int) ∈ wT := wT_of (inTb_2 227 rfl) rfl
theorem w521 : Jvm.Cond.methodLink "TuneWardLaw" (73 : Nat) ({ cls := "TuneWard", name := "bind", desc := "(II)I" } : Jvm.MethodName) ∈ wT := wT_of (inTb_2 228 rfl) rfl
theorem w522 : Jvm.Cond.instanceMethod ({ cls := "TuneWard", name := "bind", desc := "(II)I" } : Jvm.MethodName) ∈ wT := wT_of (inTb_2 229 rfl) rfl
theorem w523 : Jvm.Cond.selects "TuneWard" ({ cls := "TuneWard", name := "bind", desc := "(II)I" } : Jvm.MethodName) ({ cls := "TuneWard", name := "bind", desc := "(II)I" } : Jvm.MethodName) ∈ wT := wT_of (inTb_2 230 rfl) rfl
theorem w524 : Jvm.Cond.code ({ cls := "TuneWard", name := "bind", desc := "(II)I" } : Jvm.MethodName) prog_1_method_16_code (3 : Nat) (Option.some Jvm.ClassFile.FieldType.int) ∈ wT := wT_of (inTb_2 231 rfl) rfl
theorem w525 : Jvm.Cond.methodLink "TuneWard" (158 : Nat) ({ cls := "TuneWard$House", name := "rebind", desc := "(II)I" } : Jvm.MethodName) ∈ wT := wT_of (inTb_2 232 rfl) rfl
theorem w526 : Jvm.Cond.instanceMethod ({ cls := "TuneWard$House", name := "rebind", desc := "(II)I" } : Jvm.MethodName) ∈ wT := wT_of (inTb_2 233 rfl) rfl
theorem w527 : Jvm.Cond.selects "TuneWard$House" ({ cls := "TuneWard$House", name := "rebind", desc := "(II)I" } : Jvm.MethodName) ({ cls := "TuneWard$House", name := "rebind", desc := "(II)I" } : Jvm.MethodName) ∈ wT := wT_of (inTb_2 234 rfl) rfl
theorem w528 : Jvm.Cond.code ({ cls := "TuneWard$House", name := "rebind", desc := "(II)I" } : Jvm.MethodName) prog_2_method_15_code (3 : Nat) (Option.some Jvm.ClassFile.FieldType.int) ∈ wT := wT_of (inTb_2 235 rfl) rfl
theorem w529 : Jvm.Cond.methodLink "TuneWard$House" (82 : Nat) ({ cls := "TuneWard$House", name := "hasPrisoner", desc := "(I)Z" } : Jvm.MethodName) ∈ wT := wT_of (inTb_2 236 rfl) rfl
theorem w530 : Jvm.Cond.methodLinkNest "TuneWard$House" (85 : Nat) ({ cls := "TuneWard", name := "exchange", desc := "([III)I" } : Jvm.MethodName) "TuneWard" ∈ lw_tbl := inTb_2 237 rfl
theorem w531 : Jvm.Cond.methodLink "TuneWardLaw" (77 : Nat) ({ cls := "TuneWard", name := "out", desc := "(II)I" } : Jvm.MethodName) ∈ wT := wT_of (inTb_2 238 rfl) rfl
theorem w532 : Jvm.Cond.instanceMethod ({ cls := "TuneWard", name := "out", desc := "(II)I" } : Jvm.MethodName) ∈ wT := wT_of (inTb_2 239 rfl) rfl
theorem w533 : Jvm.Cond.selects "TuneWard" ({ cls := "TuneWard", name := "out", desc := "(II)I" } : Jvm.MethodName) ({ cls := "TuneWard", name := "out", desc := "(II)I" } : Jvm.MethodName) ∈ wT := wT_of (inTb_3 0 rfl) rfl
theorem w534 : Jvm.Cond.code ({ cls := "TuneWard", name := "out", desc := "(II)I" } : Jvm.MethodName) prog_1_method_17_code (3 : Nat) (Option.some Jvm.ClassFile.FieldType.int) ∈ wT := wT_of (inTb_3 1 rfl) rfl
theorem w535 : Jvm.Cond.methodLink "TuneWard" (161 : Nat) ({ cls := "TuneWard", name := "over", desc := "(II)I" } : Jvm.MethodName) ∈ wT := wT_of (inTb_3 2 rfl) rfl
theorem w536 : Jvm.Cond.instanceMethod ({ cls := "TuneWard", name := "over", desc := "(II)I" } : Jvm.MethodName) ∈ wT := wT_of (inTb_3 3 rfl) rfl
theorem w537 : Jvm.Cond.selects "TuneWard" ({ cls := "TuneWard", name := "over", desc := "(II)I" } : Jvm.MethodName) ({ cls := "TuneWard", name := "over", desc := "(II)I" } : Jvm.MethodName) ∈ wT := wT_of (inTb_3 4 rfl) rfl
theorem w538 : Jvm.Cond.code ({ cls := "TuneWard", name := "over", desc := "(II)I" } : Jvm.MethodName) prog_1_method_18_code (3 : Nat) (Option.some Jvm.ClassFile.FieldType.int) ∈ wT := wT_of (inTb_3 5 rfl) rfl
theorem w539 : Jvm.Cond.methodLink "TuneWard" (164 : Nat) ({ cls := "TuneWard$Playing", name := "run", desc := "(LTuneWard$House;I)V" } : Jvm.MethodName) ∈ wT := wT_of (inTb_3 6 rfl) rfl
theorem w540 : Jvm.Cond.instanceMethod ({ cls := "TuneWard$Playing", name := "run", desc := "(LTuneWard$House;I)V" } : Jvm.MethodName) ∈ wT := wT_of (inTb_3 7 rfl) rfl
theorem w541 : Jvm.Cond.selects "TuneWard$Playing" ({ cls := "TuneWard$Playing", name := "run", desc := "(LTuneWard$House;I)V" } : Jvm.MethodName) ({ cls := "TuneWard$Playing", name := "run", desc := "(LTuneWard$House;I)V" } : Jvm.MethodName) ∈ wT := wT_of (inTb_3 8 rfl) rfl
theorem w542 : Jvm.Cond.code ({ cls := "TuneWard$Playing", name := "run", desc := "(LTuneWard$House;I)V" } : Jvm.MethodName) prog_3_method_2_code (6 : Nat) (Option.none : Option Jvm.ClassFile.FieldType) ∈ wT := wT_of (inTb_3 9 rfl) rfl
theorem w543 : Jvm.Cond.methodLink "TuneWard$Playing" (48 : Nat) ({ cls := "TuneWard$Playing", name := "prepareTune", desc := "(LTuneWard$House;I)V" } : Jvm.MethodName) ∈ wT := wT_of (inTb_3 10 rfl) rfl
theorem w545 : Jvm.Cond.instanceMethod ({ cls := "TuneWard$Playing", name := "prepareTune", desc := "(LTuneWard$House;I)V" } : Jvm.MethodName) ∈ wT := wT_of (inTb_3 12 rfl) rfl
theorem w546 : Jvm.Cond.code ({ cls := "TuneWard$Playing", name := "prepareTune", desc := "(LTuneWard$House;I)V" } : Jvm.MethodName) prog_3_method_3_code (5 : Nat) (Option.none : Option Jvm.ClassFile.FieldType) ∈ wT := wT_of (inTb_3 13 rfl) rfl
theorem w547 : Jvm.Cond.methodLink "TuneWard$Playing" (71 : Nat) ({ cls := "TuneWard$House", name := "lengthAs", desc := "(II)I" } : Jvm.MethodName) ∈ wT := wT_of (inTb_3 14 rfl) rfl
theorem w548 : Jvm.Cond.methodLink "TuneWard$Playing" (78 : Nat) ({ cls := "TuneWard$House", name := "rowLength", desc := "(II)I" } : Jvm.MethodName) ∈ wT := wT_of (inTb_3 15 rfl) rfl
theorem w549 : Jvm.Cond.methodLink "TuneWard$Playing" (80 : Nat) ({ cls := "TuneWard$House", name := "rowNote", desc := "(III)I" } : Jvm.MethodName) ∈ wT := wT_of (inTb_3 16 rfl) rfl
theorem w550 : Jvm.Cond.methodLink "TuneWard$Playing" (61 : Nat) ({ cls := "TuneWard$Playing", name := "noteHeard", desc := "(LTuneWard$House;II)I" } : Jvm.MethodName) ∈ wT := wT_of (inTb_3 17 rfl) rfl
theorem w552 : Jvm.Cond.instanceMethod ({ cls := "TuneWard$Playing", name := "noteHeard", desc := "(LTuneWard$House;II)I" } : Jvm.MethodName) ∈ wT := wT_of (inTb_3 19 rfl) rfl
theorem w553 : Jvm.Cond.code ({ cls := "TuneWard$Playing", name := "noteHeard", desc := "(LTuneWard$House;II)I" } : Jvm.MethodName) prog_3_method_5_code (6 : Nat) (Option.some Jvm.ClassFile.FieldType.int) ∈ wT := wT_of (inTb_3 20 rfl) rfl
theorem w554 : Jvm.Cond.methodLink "TuneWard$Playing" (84 : Nat) ({ cls := "TuneWard$Playing", name := "finish", desc := "(III)V" } : Jvm.MethodName) ∈ wT := wT_of (inTb_3 21 rfl) rfl
theorem w556 : Jvm.Cond.instanceMethod ({ cls := "TuneWard$Playing", name := "finish", desc := "(III)V" } : Jvm.MethodName) ∈ wT := wT_of (inTb_3 23 rfl) rfl
theorem w557 : Jvm.Cond.code ({ cls := "TuneWard$Playing", name := "finish", desc := "(III)V" } : Jvm.MethodName) prog_3_method_4_code (4 : Nat) (Option.none : Option Jvm.ClassFile.FieldType) ∈ wT := wT_of (inTb_3 24 rfl) rfl
theorem w558 : Jvm.Cond.methodLink "TuneWard$Playing" (88 : Nat) ({ cls := "TuneWard$Playing", name := "playerOf", desc := "(LTuneWard$House;I)I" } : Jvm.MethodName) ∈ wT := wT_of (inTb_3 25 rfl) rfl
theorem w560 : Jvm.Cond.instanceMethod ({ cls := "TuneWard$Playing", name := "playerOf", desc := "(LTuneWard$House;I)I" } : Jvm.MethodName) ∈ wT := wT_of (inTb_3 27 rfl) rfl
theorem w561 : Jvm.Cond.code ({ cls := "TuneWard$Playing", name := "playerOf", desc := "(LTuneWard$House;I)I" } : Jvm.MethodName) prog_3_method_6_code (4 : Nat) (Option.some Jvm.ClassFile.FieldType.int) ∈ wT := wT_of (inTb_3 28 rfl) rfl
theorem w562 : Jvm.Cond.methodLink "TuneWard$Playing" (65 : Nat) ({ cls := "TuneWard$Playing", name := "crossAll", desc := "(LTuneWard$House;I)V" } : Jvm.MethodName) ∈ wT := wT_of (inTb_3 29 rfl) rfl
theorem w564 : Jvm.Cond.instanceMethod ({ cls := "TuneWard$Playing", name := "crossAll", desc := "(LTuneWard$House;I)V" } : Jvm.MethodName) ∈ wT := wT_of (inTb_3 31 rfl) rfl
theorem w565 : Jvm.Cond.code ({ cls := "TuneWard$Playing", name := "crossAll", desc := "(LTuneWard$House;I)V" } : Jvm.MethodName) prog_3_method_7_code (5 : Nat) (Option.none : Option Jvm.ClassFile.FieldType) ∈ wT := wT_of (inTb_3 32 rfl) rfl
theorem w566 : Jvm.Cond.methodLink "TuneWard$Playing" (98 : Nat) ({ cls := "TuneWard$Playing", name := "crossThird", desc := "(LTuneWard$House;III)V" } : Jvm.MethodName) ∈ wT := wT_of (inTb_3 33 rfl) rfl
theorem w568 : Jvm.Cond.instanceMethod ({ cls := "TuneWard$Playing", name := "crossThird", desc := "(LTuneWard$House;III)V" } : Jvm.MethodName) ∈ wT := wT_of (inTb_3 35 rfl) rfl
theorem w569 : Jvm.Cond.code ({ cls := "TuneWard$Playing", name := "crossThird", desc := "(LTuneWard$House;III)V" } : Jvm.MethodName) prog_3_method_8_code (6 : Nat) (Option.none : Option Jvm.ClassFile.FieldType) ∈ wT := wT_of (inTb_3 36 rfl) rfl
theorem w570 : Jvm.Cond.methodLink "TuneWardLaw" (81 : Nat) ({ cls := "TuneWard", name := "over", desc := "(II)I" } : Jvm.MethodName) ∈ wT := wT_of (inTb_3 37 rfl) rfl
theorem w571 : Jvm.Cond.methodLink "TuneWardLaw" (85 : Nat) ({ cls := "TuneWard", name := "plays", desc := "(I)I" } : Jvm.MethodName) ∈ wT := wT_of (inTb_3 38 rfl) rfl
theorem w572 : Jvm.Cond.instanceMethod ({ cls := "TuneWard", name := "plays", desc := "(I)I" } : Jvm.MethodName) ∈ wT := wT_of (inTb_3 39 rfl) rfl
theorem w573 : Jvm.Cond.selects "TuneWard" ({ cls := "TuneWard", name := "plays", desc := "(I)I" } : Jvm.MethodName) ({ cls := "TuneWard", name := "plays", desc := "(I)I" } : Jvm.MethodName) ∈ wT := wT_of (inTb_3 40 rfl) rfl
theorem w574 : Jvm.Cond.code ({ cls := "TuneWard", name := "plays", desc := "(I)I" } : Jvm.MethodName) prog_1_method_19_code (2 : Nat) (Option.some Jvm.ClassFile.FieldType.int) ∈ wT := wT_of (inTb_3 41 rfl) rfl
theorem w575 : Jvm.Cond.methodLink "TuneWardLaw" (89 : Nat) ({ cls := "TuneWard", name := "sounds", desc := "(I)I" } : Jvm.MethodName) ∈ wT := wT_of (inTb_3 42 rfl) rfl
theorem w576 : Jvm.Cond.instanceMethod ({ cls := "TuneWard", name := "sounds", desc := "(I)I" } : Jvm.MethodName) ∈ wT := wT_of (inTb_3 43 rfl) rfl
theorem w577 : Jvm.Cond.selects "TuneWard" ({ cls := "TuneWard", name := "sounds", desc := "(I)I" } : Jvm.MethodName) ({ cls := "TuneWard", name := "sounds", desc := "(I)I" } : Jvm.MethodName) ∈ wT := wT_of (inTb_3 44 rfl) rfl
theorem w578 : Jvm.Cond.code ({ cls := "TuneWard", name := "sounds", desc := "(I)I" } : Jvm.MethodName) prog_1_method_20_code (4 : Nat) (Option.some Jvm.ClassFile.FieldType.int) ∈ wT := wT_of (inTb_3 45 rfl) rfl
theorem w579 : Jvm.Cond.methodLink "TuneWardLaw" (93 : Nat) ({ cls := "TuneWard", name := "sum", desc := "(I)I" } : Jvm.MethodName) ∈ wT := wT_of (inTb_3 46 rfl) rfl
theorem w580 : Jvm.Cond.instanceMethod ({ cls := "TuneWard", name := "sum", desc := "(I)I" } : Jvm.MethodName) ∈ wT := wT_of (inTb_3 47 rfl) rfl
theorem w581 : Jvm.Cond.selects "TuneWard" ({ cls := "TuneWard", name := "sum", desc := "(I)I" } : Jvm.MethodName) ({ cls := "TuneWard", name := "sum", desc := "(I)I" } : Jvm.MethodName) ∈ wT := wT_of (inTb_3 48 rfl) rfl
theorem w582 : Jvm.Cond.code ({ cls := "TuneWard", name := "sum", desc := "(I)I" } : Jvm.MethodName) prog_1_method_21_code (2 : Nat) (Option.some Jvm.ClassFile.FieldType.int) ∈ wT := wT_of (inTb_3 49 rfl) rfl
theorem w583 : Jvm.Cond.methodLink "TuneWard" (180 : Nat) ({ cls := "TuneWard$Playing", name := "away", desc := "(LTuneWard$House;)I" } : Jvm.MethodName) ∈ wT := wT_of (inTb_3 50 rfl) rfl
theorem w584 : Jvm.Cond.instanceMethod ({ cls := "TuneWard$Playing", name := "away", desc := "(LTuneWard$House;)I" } : Jvm.MethodName) ∈ wT := wT_of (inTb_3 51 rfl) rfl
theorem w585 : Jvm.Cond.selects "TuneWard$Playing" ({ cls := "TuneWard$Playing", name := "away", desc := "(LTuneWard$House;)I" } : Jvm.MethodName) ({ cls := "TuneWard$Playing", name := "away", desc := "(LTuneWard$House;)I" } : Jvm.MethodName) ∈ wT := wT_of (inTb_3 52 rfl) rfl
theorem w586 : Jvm.Cond.code ({ cls := "TuneWard$Playing", name := "away", desc := "(LTuneWard$House;)I" } : Jvm.MethodName) prog_3_method_11_code (4 : Nat) (Option.some Jvm.ClassFile.FieldType.int) ∈ wT := wT_of (inTb_3 53 rfl) rfl
theorem w587 : Jvm.Cond.methodLink "TuneWard$Playing" (108 : Nat) ({ cls := "TuneWard$Playing", name := "getsAway", desc := "(LTuneWard$House;I)Z" } : Jvm.MethodName) ∈ wT := wT_of (inTb_3 54 rfl) rfl
theorem w588 : Jvm.Cond.instanceMethod ({ cls := "TuneWard$Playing", name := "getsAway", desc := "(LTuneWard$House;I)Z" } : Jvm.MethodName) ∈ wT := wT_of (inTb_3 55 rfl) rfl
theorem w589 : Jvm.Cond.selects "TuneWard$Playing" ({ cls := "TuneWard$Playing", name := "getsAway", desc := "(LTuneWard$House;I)Z" } : Jvm.MethodName) ({ cls := "TuneWard$Playing", name := "getsAway", desc := "(LTuneWard$House;I)Z" } : Jvm.MethodName) ∈ wT := wT_of (inTb_3 56 rfl) rfl
theorem w590 : Jvm.Cond.code ({ cls := "TuneWard$Playing", name := "getsAway", desc := "(LTuneWard$House;I)Z" } : Jvm.MethodName) prog_3_method_10_code (3 : Nat) (Option.some Jvm.ClassFile.FieldType.boolean) ∈ wT := wT_of (inTb_3 57 rfl) rfl
theorem w591 : Jvm.Cond.methodLink "TuneWard" (183 : Nat) ({ cls := "TuneWard$Playing", name := "cost", desc := "(LTuneWard$House;)I" } : Jvm.MethodName) ∈ wT := wT_of (inTb_3 58 rfl) rfl
theorem w592 : Jvm.Cond.instanceMethod ({ cls := "TuneWard$Playing", name := "cost", desc := "(LTuneWard$House;)I" } : Jvm.MethodName) ∈ wT := wT_of (inTb_3 59 rfl) rfl
theorem w593 : Jvm.Cond.selects "TuneWard$Playing" ({ cls := "TuneWard$Playing", name := "cost", desc := "(LTuneWard$House;)I" } : Jvm.MethodName) ({ cls := "TuneWard$Playing", name := "cost", desc := "(LTuneWard$House;)I" } : Jvm.MethodName) ∈ wT := wT_of (inTb_3 60 rfl) rfl
theorem w594 : Jvm.Cond.code ({ cls := "TuneWard$Playing", name := "cost", desc := "(LTuneWard$House;)I" } : Jvm.MethodName) prog_3_method_13_code (4 : Nat) (Option.some Jvm.ClassFile.FieldType.int) ∈ wT := wT_of (inTb_3 61 rfl) rfl
theorem w595 : Jvm.Cond.methodLink "TuneWard" (186 : Nat) ({ cls := "TuneWard$Playing", name := "lastOver", desc := "(LTuneWard$House;)I" } : Jvm.MethodName) ∈ wT := wT_of (inTb_3 62 rfl) rfl
theorem w596 : Jvm.Cond.instanceMethod ({ cls := "TuneWard$Playing", name := "lastOver", desc := "(LTuneWard$House;)I" } : Jvm.MethodName) ∈ wT := wT_of (inTb_3 63 rfl) rfl
theorem w597 : Jvm.Cond.selects "TuneWard$Playing" ({ cls := "TuneWard$Playing", name := "lastOver", desc := "(LTuneWard$House;)I" } : Jvm.MethodName) ({ cls := "TuneWard$Playing", name := "lastOver", desc := "(LTuneWard$House;)I" } : Jvm.MethodName) ∈ wT := wT_of (inTb_3 64 rfl) rfl
theorem w598 : Jvm.Cond.code ({ cls := "TuneWard$Playing", name := "lastOver", desc := "(LTuneWard$House;)I" } : Jvm.MethodName) prog_3_method_14_code (4 : Nat) (Option.some Jvm.ClassFile.FieldType.int) ∈ wT := wT_of (inTb_3 65 rfl) rfl
theorem w599 : Jvm.Cond.methodLink "TuneWard$Playing" (118 : Nat) ({ cls := "java/lang/Math", name := "max", desc := "(II)I" } : Jvm.MethodName) ∈ wT := wT_of (inTb_3 66 rfl) rfl
theorem w600 : Jvm.Cond.methodLink "TuneWard" (189 : Nat) ({ cls := "TuneWard$Playing", name := "crossedTunes", desc := "(LTuneWard$House;)I" } : Jvm.MethodName) ∈ wT := wT_of (inTb_3 67 rfl) rfl
theorem w601 : Jvm.Cond.instanceMethod ({ cls := "TuneWard$Playing", name := "crossedTunes", desc := "(LTuneWard$House;)I" } : Jvm.MethodName) ∈ wT := wT_of (inTb_3 68 rfl) rfl
theorem w602 : Jvm.Cond.selects "TuneWard$Playing" ({ cls := "TuneWard$Playing", name := "crossedTunes", desc := "(LTuneWard$House;)I" } : Jvm.MethodName) ({ cls := "TuneWard$Playing", name := "crossedTunes", desc := "(LTuneWard$House;)I" } : Jvm.MethodName) ∈ wT := wT_of (inTb_3 69 rfl) rfl
theorem w603 : Jvm.Cond.code ({ cls := "TuneWard$Playing", name := "crossedTunes", desc := "(LTuneWard$House;)I" } : Jvm.MethodName) prog_3_method_15_code (4 : Nat) (Option.some Jvm.ClassFile.FieldType.int) ∈ wT := wT_of (inTb_3 70 rfl) rfl
theorem w604 : Jvm.Cond.methodLink "TuneWardLaw" (97 : Nat) ({ cls := "TuneWard", name := "first", desc := "(I)I" } : Jvm.MethodName) ∈ wT := wT_of (inTb_3 71 rfl) rfl
theorem w605 : Jvm.Cond.instanceMethod ({ cls := "TuneWard", name := "first", desc := "(I)I" } : Jvm.MethodName) ∈ wT := wT_of (inTb_3 72 rfl) rfl
theorem w606 : Jvm.Cond.selects "TuneWard" ({ cls := "TuneWard", name := "first", desc := "(I)I" } : Jvm.MethodName) ({ cls := "TuneWard", name := "first", desc := "(I)I" } : Jvm.MethodName) ∈ wT := wT_of (inTb_3 73 rfl) rfl
theorem w607 : Jvm.Cond.code ({ cls := "TuneWard", name := "first", desc := "(I)I" } : Jvm.MethodName) prog_1_method_22_code (4 : Nat) (Option.some Jvm.ClassFile.FieldType.int) ∈ wT := wT_of (inTb_3 74 rfl) rfl
theorem w608 : Jvm.Cond.methodLink "TuneWard" (192 : Nat) ({ cls := "TuneWard$Playing", name := "getsAway", desc := "(LTuneWard$House;I)Z" } : Jvm.MethodName) ∈ wT := wT_of (inTb_3 75 rfl) rfl
theorem w609 : Jvm.Cond.methodLink "TuneWard" (196 : Nat) ({ cls := "TuneWard$Playing", name := "outAt", desc := "(LTuneWard$House;I)I" } : Jvm.MethodName) ∈ wT := wT_of (inTb_3 76 rfl) rfl
theorem w610 : Jvm.Cond.instanceMethod ({ cls := "TuneWard$Playing", name := "outAt", desc := "(LTuneWard$House;I)I" } : Jvm.MethodName) ∈ wT := wT_of (inTb_3 77 rfl) rfl
theorem w611 : Jvm.Cond.selects "TuneWard$Playing" ({ cls := "TuneWard$Playing", name := "outAt", desc := "(LTuneWard$House;I)I" } : Jvm.MethodName) ({ cls := "TuneWard$Playing", name := "outAt", desc := "(LTuneWard$House;I)I" } : Jvm.MethodName) ∈ wT := wT_of (inTb_3 78 rfl) rfl
theorem w612 : Jvm.Cond.code ({ cls := "TuneWard$Playing", name := "outAt", desc := "(LTuneWard$House;I)I" } : Jvm.MethodName) prog_3_method_9_code (3 : Nat) (Option.some Jvm.ClassFile.FieldType.int) ∈ wT := wT_of (inTb_3 79 rfl) rfl
theorem w613 : Jvm.Cond.methodLink "TuneWardLaw" (101 : Nat) ({ cls := "TuneWard", name := "best", desc := "(I)I" } : Jvm.MethodName) ∈ wT := wT_of (inTb_3 80 rfl) rfl
theorem w614 : Jvm.Cond.instanceMethod ({ cls := "TuneWard", name := "best", desc := "(I)I" } : Jvm.MethodName) ∈ wT := wT_of (inTb_3 81 rfl) rfl
theorem w615 : Jvm.Cond.selects "TuneWard" ({ cls := "TuneWard", name := "best", desc := "(I)I" } : Jvm.MethodName) ({ cls := "TuneWard", name := "best", desc := "(I)I" } : Jvm.MethodName) ∈ wT := wT_of (inTb_3 82 rfl) rfl
theorem w616 : Jvm.Cond.code ({ cls := "TuneWard", name := "best", desc := "(I)I" } : Jvm.MethodName) prog_1_method_23_code (10 : Nat) (Option.some Jvm.ClassFile.FieldType.int) ∈ wT := wT_of (inTb_3 83 rfl) rfl
theorem w617 : Jvm.Cond.methodLink "TuneWard" (200 : Nat) ({ cls := "TuneWard", name := "power", desc := "(II)I" } : Jvm.MethodName) ∈ wT := wT_of (inTb_3 84 rfl) rfl
theorem w618 : Jvm.Cond.static ({ cls := "TuneWard", name := "power", desc := "(II)I" } : Jvm.MethodName) ∈ wT := wT_of (inTb_3 85 rfl) rfl
theorem w619 : Jvm.Cond.code ({ cls := "TuneWard", name := "power", desc := "(II)I" } : Jvm.MethodName) prog_1_method_44_code (4 : Nat) (Option.some Jvm.ClassFile.FieldType.int) ∈ wT := wT_of (inTb_3 86 rfl) rfl
theorem w620 : Jvm.Cond.constant "TuneWard" (203 : Nat) (1000000 : Int32) ∈ wT := wT_of (inTb_3 87 rfl) rfl
theorem w621 : Jvm.Cond.methodLink "TuneWard" (204 : Nat) ({ cls := "TuneWard", name := "spread", desc := "(II[II)V" } : Jvm.MethodName) ∈ wT := wT_of (inTb_3 88 rfl) rfl
theorem w622 : Jvm.Cond.static ({ cls := "TuneWard", name := "spread", desc := "(II[II)V" } : Jvm.MethodName) ∈ wT := wT_of (inTb_3 89 rfl) rfl
theorem w623 : Jvm.Cond.code ({ cls := "TuneWard", name := "spread", desc := "(II[II)V" } : Jvm.MethodName) prog_1_method_45_code (6 : Nat) (Option.none : Option Jvm.ClassFile.FieldType) ∈ wT := wT_of (inTb_3 90 rfl) rfl
theorem w624 : Jvm.Cond.methodLink "TuneWardLaw" (105 : Nat) ({ cls := "TuneWard", name := "apart", desc := "(I)I" } : Jvm.MethodName) ∈ wT := wT_of (inTb_3 91 rfl) rfl
theorem w625 : Jvm.Cond.instanceMethod ({ cls := "TuneWard", name := "apart", desc := "(I)I" } : Jvm.MethodName) ∈ wT := wT_of (inTb_3 92 rfl) rfl
theorem w626 : Jvm.Cond.selects "TuneWard" ({ cls := "TuneWard", name := "apart", desc := "(I)I" } : Jvm.MethodName) ({ cls := "TuneWard", name := "apart", desc := "(I)I" } : Jvm.MethodName) ∈ wT := wT_of (inTb_3 93 rfl) rfl
theorem w627 : Jvm.Cond.code ({ cls := "TuneWard", name := "apart", desc := "(I)I" } : Jvm.MethodName) prog_1_method_24_code (8 : Nat) (Option.some Jvm.ClassFile.FieldType.int) ∈ wT := wT_of (inTb_3 94 rfl) rfl
theorem w628 : Jvm.Cond.methodLink "TuneWardLaw" (109 : Nat) ({ cls := "TuneWard", name := "compose", desc := "(II)I" } : Jvm.MethodName) ∈ wT := wT_of (inTb_3 95 rfl) rfl
theorem w629 : Jvm.Cond.instanceMethod ({ cls := "TuneWard", name := "compose", desc := "(II)I" } : Jvm.MethodName) ∈ wT := wT_of (inTb_3 96 rfl) rfl
theorem w630 : Jvm.Cond.selects "TuneWard" ({ cls := "TuneWard", name := "compose", desc := "(II)I" } : Jvm.MethodName) ({ cls := "TuneWard", name := "compose", desc := "(II)I" } : Jvm.MethodName) ∈ wT := wT_of (inTb_3 97 rfl) rfl
theorem w631 : Jvm.Cond.code ({ cls := "TuneWard", name := "compose", desc := "(II)I" } : Jvm.MethodName) prog_1_method_25_code (6 : Nat) (Option.some Jvm.ClassFile.FieldType.int) ∈ wT := wT_of (inTb_3 98 rfl) rfl
theorem w632 : Jvm.Cond.methodLink "TuneWard" (208 : Nat) ({ cls := "TuneWard$House", name := "rowLength", desc := "(II)I" } : Jvm.MethodName) ∈ wT := wT_of (inTb_3 99 rfl) rfl
theorem w633 : Jvm.Cond.methodLink "TuneWardLaw" (113 : Nat) ({ cls := "TuneWard", name := "bribe", desc := "(III)I" } : Jvm.MethodName) ∈ wT := wT_of (inTb_3 100 rfl) rfl
theorem w634 : Jvm.Cond.instanceMethod ({ cls := "TuneWard", name := "bribe", desc := "(III)I" } : Jvm.MethodName) ∈ wT := wT_of (inTb_3 101 rfl) rfl
theorem w635 : Jvm.Cond.selects "TuneWard" ({ cls := "TuneWard", name := "bribe", desc := "(III)I" } : Jvm.MethodName) ({ cls := "TuneWard", name := "bribe", desc := "(III)I" } : Jvm.MethodName) ∈ wT := wT_of (inTb_3 102 rfl) rfl
theorem w636 : Jvm.Cond.code ({ cls := "TuneWard", name := "bribe", desc := "(III)I" } : Jvm.MethodName) prog_1_method_26_code (7 : Nat) (Option.some Jvm.ClassFile.FieldType.int) ∈ wT := wT_of (inTb_3 103 rfl) rfl
theorem w637 : Jvm.Cond.methodLink "TuneWard" (211 : Nat) ({ cls := "java/lang/Integer", name := "bitCount", desc := "(I)I" } : Jvm.MethodName) ∈ wT := wT_of (inTb_3 104 rfl) rfl
theorem w638 : Jvm.Cond.static ({ cls := "java/lang/Integer", name := "bitCount", desc := "(I)I" } : Jvm.MethodName) ∈ wT := wT_of (inTb_3 105 rfl) rfl
theorem w639 : Jvm.Cond.code ({ cls := "java/lang/Integer", name := "bitCount", desc := "(I)I" } : Jvm.MethodName) prog_8_method_49_code (1 : Nat) (Option.some Jvm.ClassFile.FieldType.int) ∈ wT := wT_of (inTb_3 106 rfl) rfl
theorem w640 : Jvm.Cond.constant "java/lang/Integer" (265 : Nat) (1431655765 : Int32) ∈ wT := wT_of (inTb_3 107 rfl) rfl
theorem w641 : Jvm.Cond.constant "java/lang/Integer" (266 : Nat) (858993459 : Int32) ∈ wT := wT_of (inTb_3 108 rfl) rfl
theorem w642 : Jvm.Cond.constant "java/lang/Integer" (267 : Nat) (252645135 : Int32) ∈ wT := wT_of (inTb_3 109 rfl) rfl
theorem w643 : Jvm.Cond.methodLink "TuneWard" (216 : Nat) ({ cls := "TuneWard$Playing", name := "allOut", desc := "(LTuneWard$House;II)Z" } : Jvm.MethodName) ∈ wT := wT_of (inTb_3 110 rfl) rfl
theorem w644 : Jvm.Cond.instanceMethod ({ cls := "TuneWard$Playing", name := "allOut", desc := "(LTuneWard$House;II)Z" } : Jvm.MethodName) ∈ wT := wT_of (inTb_3 111 rfl) rfl
theorem w645 : Jvm.Cond.selects "TuneWard$Playing" ({ cls := "TuneWard$Playing", name := "allOut", desc := "(LTuneWard$House;II)Z" } : Jvm.MethodName) ({ cls := "TuneWard$Playing", name := "allOut", desc := "(LTuneWard$House;II)Z" } : Jvm.MethodName) ∈ wT := wT_of (inTb_3 112 rfl) rfl
theorem w646 : Jvm.Cond.code ({ cls := "TuneWard$Playing", name := "allOut", desc := "(LTuneWard$House;II)Z" } : Jvm.MethodName) prog_3_method_12_code (5 : Nat) (Option.some Jvm.ClassFile.FieldType.boolean) ∈ wT := wT_of (inTb_3 113 rfl) rfl
theorem w647 : Jvm.Cond.methodLink "TuneWard$Playing" (112 : Nat) ({ cls := "TuneWard$Playing", name := "outAt", desc := "(LTuneWard$House;I)I" } : Jvm.MethodName) ∈ wT := wT_of (inTb_3 114 rfl) rfl
theorem w648 : Jvm.Cond.methodLink "TuneWardLaw" (117 : Nat) ({ cls := "TuneWard", name := "teach", desc := "(I)I" } : Jvm.MethodName) ∈ wT := wT_of (inTb_3 115 rfl) rfl
theorem w649 : Jvm.Cond.instanceMethod ({ cls := "TuneWard", name := "teach", desc := "(I)I" } : Jvm.MethodName) ∈ wT := wT_of (inTb_3 116 rfl) rfl
theorem w650 : Jvm.Cond.selects "TuneWard" ({ cls := "TuneWard", name := "teach", desc := "(I)I" } : Jvm.MethodName) ({ cls := "TuneWard", name := "teach", desc := "(I)I" } : Jvm.MethodName) ∈ wT := wT_of (inTb_3 117 rfl) rfl
theorem w651 : Jvm.Cond.code ({ cls := "TuneWard", name := "teach", desc := "(I)I" } : Jvm.MethodName) prog_1_method_27_code (6 : Nat) (Option.some Jvm.ClassFile.FieldType.int) ∈ wT := wT_of (inTb_3 118 rfl) rfl
theorem w652 : Jvm.Cond.methodLink "TuneWardLaw" (121 : Nat) ({ cls := "TuneWard", name := "mean", desc := "(II)J" } : Jvm.MethodName) ∈ wT := wT_of (inTb_3 119 rfl) rfl
theorem w653 : Jvm.Cond.instanceMethod ({ cls := "TuneWard", name := "mean", desc := "(II)J" } : Jvm.MethodName) ∈ wT := wT_of (inTb_3 120 rfl) rfl
theorem w654 : Jvm.Cond.selects "TuneWard" ({ cls := "TuneWard", name := "mean", desc := "(II)J" } : Jvm.MethodName) ({ cls := "TuneWard", name := "mean", desc := "(II)J" } : Jvm.MethodName) ∈ wT := wT_of (inTb_3 121 rfl) rfl
theorem w655 : Jvm.Cond.code ({ cls := "TuneWard", name := "mean", desc := "(II)J" } : Jvm.MethodName) prog_1_method_28_code (6 : Nat) (Option.some Jvm.ClassFile.FieldType.long) ∈ wT := wT_of (inTb_3 122 rfl) rfl
theorem w656 : Jvm.Cond.constantLong "TuneWard" (220 : Nat) (-1 : Int64) ∈ wT := wT_of (inTb_3 123 rfl) rfl
theorem w657 : Jvm.Cond.methodLink "TuneWard" (222 : Nat) ({ cls := "TuneWard", name := "weight", desc := "(II)J" } : Jvm.MethodName) ∈ wT := wT_of (inTb_3 124 rfl) rfl
theorem w659 : Jvm.Cond.instanceMethod ({ cls := "TuneWard", name := "weight", desc := "(II)J" } : Jvm.MethodName) ∈ wT := wT_of (inTb_3 126 rfl) rfl
theorem w660 : Jvm.Cond.code ({ cls := "TuneWard", name := "weight", desc := "(II)J" } : Jvm.MethodName) prog_1_method_46_code (6 : Nat) (Option.some Jvm.ClassFile.FieldType.long) ∈ wT := wT_of (inTb_3 127 rfl) rfl
theorem w661 : Jvm.Cond.methodLink "TuneWard" (226 : Nat) ({ cls := "TuneWard", name := "inLowestTerms", desc := "(JJI)J" } : Jvm.MethodName) ∈ wT := wT_of (inTb_3 128 rfl) rfl
theorem w662 : Jvm.Cond.static ({ cls := "TuneWard", name := "inLowestTerms", desc := "(JJI)J" } : Jvm.MethodName) ∈ wT := wT_of (inTb_3 129 rfl) rfl
theorem w663 : Jvm.Cond.code ({ cls := "TuneWard", name := "inLowestTerms", desc := "(JJI)J" } : Jvm.MethodName) prog_1_method_47_code (12 : Nat) (Option.some Jvm.ClassFile.FieldType.long) ∈ wT := wT_of (inTb_3 130 rfl) rfl
theorem w664 : Jvm.Cond.methodLink "TuneWardLaw" (126 : Nat) ({ cls := "TuneWard", name := "luck", desc := "(III)J" } : Jvm.MethodName) ∈ wT := wT_of (inTb_3 131 rfl) rfl
theorem w665 : Jvm.Cond.instanceMethod ({ cls := "TuneWard", name := "luck", desc := "(III)J" } : Jvm.MethodName) ∈ wT := wT_of (inTb_3 132 rfl) rfl
theorem w666 : Jvm.Cond.selects "TuneWard" ({ cls := "TuneWard", name := "luck", desc := "(III)J" } : Jvm.MethodName) ({ cls := "TuneWard", name := "luck", desc := "(III)J" } : Jvm.MethodName) ∈ wT := wT_of (inTb_3 133 rfl) rfl
theorem w667 : Jvm.Cond.code ({ cls := "TuneWard", name := "luck", desc := "(III)J" } : Jvm.MethodName) prog_1_method_29_code (7 : Nat) (Option.some Jvm.ClassFile.FieldType.long) ∈ wT := wT_of (inTb_3 134 rfl) rfl
theorem w668 : Jvm.Cond.methodLink "TuneWardLaw" (131 : Nat) ({ cls := "TuneWard", name := "see", desc := "(III)I" } : Jvm.MethodName) ∈ wT := wT_of (inTb_3 135 rfl) rfl
theorem w669 : Jvm.Cond.instanceMethod ({ cls := "TuneWard", name := "see", desc := "(III)I" } : Jvm.MethodName) ∈ wT := wT_of (inTb_3 136 rfl) rfl
theorem w670 : Jvm.Cond.selects "TuneWard" ({ cls := "TuneWard", name := "see", desc := "(III)I" } : Jvm.MethodName) ({ cls := "TuneWard", name := "see", desc := "(III)I" } : Jvm.MethodName) ∈ wT := wT_of (inTb_3 137 rfl) rfl
theorem w671 : Jvm.Cond.code ({ cls := "TuneWard", name := "see", desc := "(III)I" } : Jvm.MethodName) prog_1_method_30_code (5 : Nat) (Option.some Jvm.ClassFile.FieldType.int) ∈ wT := wT_of (inTb_3 138 rfl) rfl
theorem w672 : Jvm.Cond.methodLink "TuneWardLaw" (135 : Nat) ({ cls := "TuneWard", name := "forget", desc := "(I)I" } : Jvm.MethodName) ∈ wT := wT_of (inTb_3 139 rfl) rfl
theorem w673 : Jvm.Cond.instanceMethod ({ cls := "TuneWard", name := "forget", desc := "(I)I" } : Jvm.MethodName) ∈ wT := wT_of (inTb_3 140 rfl) rfl
theorem w674 : Jvm.Cond.selects "TuneWard" ({ cls := "TuneWard", name := "forget", desc := "(I)I" } : Jvm.MethodName) ({ cls := "TuneWard", name := "forget", desc := "(I)I" } : Jvm.MethodName) ∈ wT := wT_of (inTb_3 141 rfl) rfl
theorem w675 : Jvm.Cond.code ({ cls := "TuneWard", name := "forget", desc := "(I)I" } : Jvm.MethodName) prog_1_method_31_code (3 : Nat) (Option.some Jvm.ClassFile.FieldType.int) ∈ wT := wT_of (inTb_3 142 rfl) rfl
theorem w676 : Jvm.Cond.methodLink "TuneWardLaw" (139 : Nat) ({ cls := "TuneWard", name := "fits", desc := "(I)I" } : Jvm.MethodName) ∈ wT := wT_of (inTb_3 143 rfl) rfl
theorem w677 : Jvm.Cond.instanceMethod ({ cls := "TuneWard", name := "fits", desc := "(I)I" } : Jvm.MethodName) ∈ wT := wT_of (inTb_3 144 rfl) rfl
theorem w678 : Jvm.Cond.selects "TuneWard" ({ cls := "TuneWard", name := "fits", desc := "(I)I" } : Jvm.MethodName) ({ cls := "TuneWard", name := "fits", desc := "(I)I" } : Jvm.MethodName) ∈ wT := wT_of (inTb_3 145 rfl) rfl
theorem w679 : Jvm.Cond.code ({ cls := "TuneWard", name := "fits", desc := "(I)I" } : Jvm.MethodName) prog_1_method_32_code (2 : Nat) (Option.some Jvm.ClassFile.FieldType.int) ∈ wT := wT_of (inTb_3 146 rfl) rfl
theorem w680 : Jvm.Cond.methodLink "TuneWard" (230 : Nat) ({ cls := "TuneWard", name := "fittingKinds", desc := "(I)I" } : Jvm.MethodName) ∈ wT := wT_of (inTb_3 147 rfl) rfl
theorem w682 : Jvm.Cond.instanceMethod ({ cls := "TuneWard", name := "fittingKinds", desc := "(I)I" } : Jvm.MethodName) ∈ wT := wT_of (inTb_3 149 rfl) rfl
theorem w683 : Jvm.Cond.code ({ cls := "TuneWard", name := "fittingKinds", desc := "(I)I" } : Jvm.MethodName) prog_1_method_48_code (6 : Nat) (Option.some Jvm.ClassFile.FieldType.int) ∈ wT := wT_of (inTb_3 150 rfl) rfl
theorem w684 : Jvm.Cond.methodLink "TuneWardLaw" (143 : Nat) ({ cls := "TuneWard", name := "listen", desc := "(II)I" } : Jvm.MethodName) ∈ wT := wT_of (inTb_3 151 rfl) rfl
theorem w685 : Jvm.Cond.instanceMethod ({ cls := "TuneWard", name := "listen", desc := "(II)I" } : Jvm.MethodName) ∈ wT := wT_of (inTb_3 152 rfl) rfl
theorem w686 : Jvm.Cond.selects "TuneWard" ({ cls := "TuneWard", name := "listen", desc := "(II)I" } : Jvm.MethodName) ({ cls := "TuneWard", name := "listen", desc := "(II)I" } : Jvm.MethodName) ∈ wT := wT_of (inTb_3 153 rfl) rfl
theorem w687 : Jvm.Cond.code ({ cls := "TuneWard", name := "listen", desc := "(II)I" } : Jvm.MethodName) prog_1_method_33_code (8 : Nat) (Option.some Jvm.ClassFile.FieldType.int) ∈ wT := wT_of (inTb_3 154 rfl) rfl
theorem w688 : Jvm.Cond.methodLink "TuneWard" (233 : Nat) ({ cls := "TuneWard", name := "leftAtWorst", desc := "(III)I" } : Jvm.MethodName) ∈ wT := wT_of (inTb_3 155 rfl) rfl
theorem w690 : Jvm.Cond.instanceMethod ({ cls := "TuneWard", name := "leftAtWorst", desc := "(III)I" } : Jvm.MethodName) ∈ wT := wT_of (inTb_3 157 rfl) rfl
theorem w691 : Jvm.Cond.code ({ cls := "TuneWard", name := "leftAtWorst", desc := "(III)I" } : Jvm.MethodName) prog_1_method_49_code (9 : Nat) (Option.some Jvm.ClassFile.FieldType.int) ∈ wT := wT_of (inTb_3 158 rfl) rfl
theorem w692 : Jvm.Cond.methodLink "TuneWard" (246 : Nat) ({ cls := "java/lang/Math", name := "max", desc := "(II)I" } : Jvm.MethodName) ∈ wT := wT_of (inTb_3 159 rfl) rfl
theorem w693 : Jvm.Cond.methodLink "TuneWardLaw" (147 : Nat) ({ cls := "TuneWard", name := "drift", desc := "(III)I" } : Jvm.MethodName) ∈ wT := wT_of (inTb_3 160 rfl) rfl
theorem w694 : Jvm.Cond.instanceMethod ({ cls := "TuneWard", name := "drift", desc := "(III)I" } : Jvm.MethodName) ∈ wT := wT_of (inTb_3 161 rfl) rfl
theorem w695 : Jvm.Cond.selects "TuneWard" ({ cls := "TuneWard", name := "drift", desc := "(III)I" } : Jvm.MethodName) ({ cls := "TuneWard", name := "drift", desc := "(III)I" } : Jvm.MethodName) ∈ wT := wT_of (inTb_3 162 rfl) rfl
theorem w696 : Jvm.Cond.code ({ cls := "TuneWard", name := "drift", desc := "(III)I" } : Jvm.MethodName) prog_1_method_34_code (9 : Nat) (Option.some Jvm.ClassFile.FieldType.int) ∈ wT := wT_of (inTb_3 163 rfl) rfl
theorem w697 : Jvm.Cond.methodLink "TuneWard" (236 : Nat) ({ cls := "TuneWard", name := "nextSeed", desc := "(I)I" } : Jvm.MethodName) ∈ wT := wT_of (inTb_3 164 rfl) rfl
theorem w698 : Jvm.Cond.static ({ cls := "TuneWard", name := "nextSeed", desc := "(I)I" } : Jvm.MethodName) ∈ wT := wT_of (inTb_3 165 rfl) rfl
theorem w699 : Jvm.Cond.code ({ cls := "TuneWard", name := "nextSeed", desc := "(I)I" } : Jvm.MethodName) prog_1_method_50_code (1 : Nat) (Option.some Jvm.ClassFile.FieldType.int) ∈ wT := wT_of (inTb_3 166 rfl) rfl
theorem w700 : Jvm.Cond.constant "TuneWard" (284 : Nat) (1103515245 : Int32) ∈ wT := wT_of (inTb_3 167 rfl) rfl
theorem w701 : Jvm.Cond.methodLink "TuneWard" (239 : Nat) ({ cls := "TuneWard", name := "middleBits", desc := "(I)I" } : Jvm.MethodName) ∈ wT := wT_of (inTb_3 168 rfl) rfl
theorem w702 : Jvm.Cond.static ({ cls := "TuneWard", name := "middleBits", desc := "(I)I" } : Jvm.MethodName) ∈ wT := wT_of (inTb_3 169 rfl) rfl
theorem w703 : Jvm.Cond.code ({ cls := "TuneWard", name := "middleBits", desc := "(I)I" } : Jvm.MethodName) prog_1_method_51_code (1 : Nat) (Option.some Jvm.ClassFile.FieldType.int) ∈ wT := wT_of (inTb_3 170 rfl) rfl
theorem w704 : Jvm.Cond.methodLink "TuneWard" (242 : Nat) ({ cls := "TuneWard$House", name := "spoil", desc := "(II)V" } : Jvm.MethodName) ∈ wT := wT_of (inTb_3 171 rfl) rfl
theorem w705 : Jvm.Cond.instanceMethod ({ cls := "TuneWard$House", name := "spoil", desc := "(II)V" } : Jvm.MethodName) ∈ wT := wT_of (inTb_3 172 rfl) rfl
theorem w706 : Jvm.Cond.selects "TuneWard$House" ({ cls := "TuneWard$House", name := "spoil", desc := "(II)V" } : Jvm.MethodName) ({ cls := "TuneWard$House", name := "spoil", desc := "(II)V" } : Jvm.MethodName) ∈ wT := wT_of (inTb_3 173 rfl) rfl
theorem w707 : Jvm.Cond.code ({ cls := "TuneWard$House", name := "spoil", desc := "(II)V" } : Jvm.MethodName) prog_2_method_16_code (4 : Nat) (Option.none : Option Jvm.ClassFile.FieldType) ∈ wT := wT_of (inTb_3 174 rfl) rfl
theorem w708 : Jvm.Cond.methodLink "TuneWardLaw" (151 : Nat) ({ cls := "TuneWard", name := "keep", desc := "(I)I" } : Jvm.MethodName) ∈ wT := wT_of (inTb_3 175 rfl) rfl
theorem w709 : Jvm.Cond.instanceMethod ({ cls := "TuneWard", name := "keep", desc := "(I)I" } : Jvm.MethodName) ∈ wT := wT_of (inTb_3 176 rfl) rfl
theorem w710 : Jvm.Cond.selects "TuneWard" ({ cls := "TuneWard", name := "keep", desc := "(I)I" } : Jvm.MethodName) ({ cls := "TuneWard", name := "keep", desc := "(I)I" } : Jvm.MethodName) ∈ wT := wT_of (inTb_3 177 rfl) rfl
theorem w711 : Jvm.Cond.code ({ cls := "TuneWard", name := "keep", desc := "(I)I" } : Jvm.MethodName) prog_1_method_35_code (3 : Nat) (Option.some Jvm.ClassFile.FieldType.int) ∈ wT := wT_of (inTb_3 178 rfl) rfl
theorem w712 : Jvm.Cond.methodLink "TuneWardLaw" (155 : Nat) ({ cls := "TuneWard", name := "back", desc := "(I)I" } : Jvm.MethodName) ∈ wT := wT_of (inTb_3 179 rfl) rfl
theorem w713 : Jvm.Cond.instanceMethod ({ cls := "TuneWard", name := "back", desc := "(I)I" } : Jvm.MethodName) ∈ wT := wT_of (inTb_3 180 rfl) rfl
theorem w714 : Jvm.Cond.selects "TuneWard" ({ cls := "TuneWard", name := "back", desc := "(I)I" } : Jvm.MethodName) ({ cls := "TuneWard", name := "back", desc := "(I)I" } : Jvm.MethodName) ∈ wT := wT_of (inTb_3 181 rfl) rfl
theorem w715 : Jvm.Cond.code ({ cls := "TuneWard", name := "back", desc := "(I)I" } : Jvm.MethodName) prog_1_method_36_code (2 : Nat) (Option.some Jvm.ClassFile.FieldType.int) ∈ wT := wT_of (inTb_3 182 rfl) rfl
theorem w716 : Jvm.Cond.methodLink "TuneWard" (251 : Nat) ({ cls := "TuneWard$House", name := "allNotes", desc := "()I" } : Jvm.MethodName) ∈ wT := wT_of (inTb_3 183 rfl) rfl
theorem w717 : Jvm.Cond.instanceMethod ({ cls := "TuneWard$House", name := "allNotes", desc := "()I" } : Jvm.MethodName) ∈ wT := wT_of (inTb_3 184 rfl) rfl
theorem w718 : Jvm.Cond.selects "TuneWard$House" ({ cls := "TuneWard$House", name := "allNotes", desc := "()I" } : Jvm.MethodName) ({ cls := "TuneWard$House", name := "allNotes", desc := "()I" } : Jvm.MethodName) ∈ wT := wT_of (inTb_3 185 rfl) rfl
theorem w719 : Jvm.Cond.code ({ cls := "TuneWard$House", name := "allNotes", desc := "()I" } : Jvm.MethodName) prog_2_method_13_code (3 : Nat) (Option.some Jvm.ClassFile.FieldType.int) ∈ wT := wT_of (inTb_3 186 rfl) rfl
theorem w720 : Jvm.Cond.methodLink "TuneWardLaw" (159 : Nat) ({ cls := "TuneWard", name := "sheet", desc := "(III)I" } : Jvm.MethodName) ∈ wT := wT_of (inTb_3 187 rfl) rfl
theorem w721 : Jvm.Cond.instanceMethod ({ cls := "TuneWard", name := "sheet", desc := "(III)I" } : Jvm.MethodName) ∈ wT := wT_of (inTb_3 188 rfl) rfl
theorem w722 : Jvm.Cond.selects "TuneWard" ({ cls := "TuneWard", name := "sheet", desc := "(III)I" } : Jvm.MethodName) ({ cls := "TuneWard", name := "sheet", desc := "(III)I" } : Jvm.MethodName) ∈ wT := wT_of (inTb_3 189 rfl) rfl
theorem w723 : Jvm.Cond.code ({ cls := "TuneWard", name := "sheet", desc := "(III)I" } : Jvm.MethodName) prog_1_method_37_code (4 : Nat) (Option.some Jvm.ClassFile.FieldType.int) ∈ wT := wT_of (inTb_3 190 rfl) rfl
theorem w724 : Jvm.Cond.methodLink "TuneWard" (255 : Nat) ({ cls := "TuneWard$Sheet", name := "renew", desc := "(II)V" } : Jvm.MethodName) ∈ wT := wT_of (inTb_3 191 rfl) rfl
theorem w725 : Jvm.Cond.instanceMethod ({ cls := "TuneWard$Sheet", name := "renew", desc := "(II)V" } : Jvm.MethodName) ∈ wT := wT_of (inTb_3 192 rfl) rfl
theorem w726 : Jvm.Cond.selects "TuneWard$Sheet" ({ cls := "TuneWard$Sheet", name := "renew", desc := "(II)V" } : Jvm.MethodName) ({ cls := "TuneWard$Sheet", name := "renew", desc := "(II)V" } : Jvm.MethodName) ∈ wT := wT_of (inTb_3 193 rfl) rfl
theorem w727 : Jvm.Cond.code ({ cls := "TuneWard$Sheet", name := "renew", desc := "(II)V" } : Jvm.MethodName) prog_4_method_2_code (4 : Nat) (Option.none : Option Jvm.ClassFile.FieldType) ∈ wT := wT_of (inTb_3 194 rfl) rfl
theorem w728 : Jvm.Cond.methodLink "TuneWardLaw" (163 : Nat) ({ cls := "TuneWard", name := "lay", desc := "(III)I" } : Jvm.MethodName) ∈ wT := wT_of (inTb_3 195 rfl) rfl
theorem w729 : Jvm.Cond.instanceMethod ({ cls := "TuneWard", name := "lay", desc := "(III)I" } : Jvm.MethodName) ∈ wT := wT_of (inTb_3 196 rfl) rfl
theorem w730 : Jvm.Cond.selects "TuneWard" ({ cls := "TuneWard", name := "lay", desc := "(III)I" } : Jvm.MethodName) ({ cls := "TuneWard", name := "lay", desc := "(III)I" } : Jvm.MethodName) ∈ wT := wT_of (inTb_3 197 rfl) rfl
theorem w731 : Jvm.Cond.code ({ cls := "TuneWard", name := "lay", desc := "(III)I" } : Jvm.MethodName) prog_1_method_38_code (5 : Nat) (Option.some Jvm.ClassFile.FieldType.int) ∈ wT := wT_of (inTb_3 198 rfl) rfl
theorem w732 : Jvm.Cond.methodLink "TuneWard" (262 : Nat) ({ cls := "TuneWard$Sheet", name := "hasCell", desc := "(J)Z" } : Jvm.MethodName) ∈ wT := wT_of (inTb_3 199 rfl) rfl
theorem w733 : Jvm.Cond.instanceMethod ({ cls := "TuneWard$Sheet", name := "hasCell", desc := "(J)Z" } : Jvm.MethodName) ∈ wT := wT_of (inTb_3 200 rfl) rfl
theorem w734 : Jvm.Cond.selects "TuneWard$Sheet" ({ cls := "TuneWard$Sheet", name := "hasCell", desc := "(J)Z" } : Jvm.MethodName) ({ cls := "TuneWard$Sheet", name := "hasCell", desc := "(J)Z" } : Jvm.MethodName) ∈ wT := wT_of (inTb_3 201 rfl) rfl
theorem w735 : Jvm.Cond.code ({ cls := "TuneWard$Sheet", name := "hasCell", desc := "(J)Z" } : Jvm.MethodName) prog_4_method_3_code (3 : Nat) (Option.some Jvm.ClassFile.FieldType.boolean) ∈ wT := wT_of (inTb_3 202 rfl) rfl
theorem w736 : Jvm.Cond.methodLink "TuneWard" (272 : Nat) ({ cls := "TuneWard$Sheet", name := "narrowed", desc := "(II)I" } : Jvm.MethodName) ∈ wT := wT_of (inTb_3 203 rfl) rfl
theorem w737 : Jvm.Cond.static ({ cls := "TuneWard$Sheet", name := "narrowed", desc := "(II)I" } : Jvm.MethodName) ∈ wT := wT_of (inTb_3 204 rfl) rfl
theorem w738 : Jvm.Cond.code ({ cls := "TuneWard$Sheet", name := "narrowed", desc := "(II)I" } : Jvm.MethodName) prog_4_method_5_code (2 : Nat) (Option.some Jvm.ClassFile.FieldType.int) ∈ wT := wT_of (inTb_3 205 rfl) rfl
theorem w739 : Jvm.Cond.methodLink "TuneWardLaw" (167 : Nat) ({ cls := "TuneWard", name := "read", desc := "(IIII)I" } : Jvm.MethodName) ∈ wT := wT_of (inTb_3 206 rfl) rfl
theorem w740 : Jvm.Cond.instanceMethod ({ cls := "TuneWard", name := "read", desc := "(IIII)I" } : Jvm.MethodName) ∈ wT := wT_of (inTb_3 207 rfl) rfl
theorem w741 : Jvm.Cond.selects "TuneWard" ({ cls := "TuneWard", name := "read", desc := "(IIII)I" } : Jvm.MethodName) ({ cls := "TuneWard", name := "read", desc := "(IIII)I" } : Jvm.MethodName) ∈ wT := wT_of (inTb_3 208 rfl) rfl
theorem w742 : Jvm.Cond.code ({ cls := "TuneWard", name := "read", desc := "(IIII)I" } : Jvm.MethodName) prog_1_method_39_code (11 : Nat) (Option.some Jvm.ClassFile.FieldType.int) ∈ wT := wT_of (inTb_3 209 rfl) rfl
theorem w743 : Jvm.Cond.methodLink "TuneWard" (275 : Nat) ({ cls := "TuneWard$Sheet", name := "faultAs", desc := "(I)I" } : Jvm.MethodName) ∈ wT := wT_of (inTb_3 210 rfl) rfl
theorem w744 : Jvm.Cond.instanceMethod ({ cls := "TuneWard$Sheet", name := "faultAs", desc := "(I)I" } : Jvm.MethodName) ∈ wT := wT_of (inTb_3 211 rfl) rfl
theorem w745 : Jvm.Cond.selects "TuneWard$Sheet" ({ cls := "TuneWard$Sheet", name := "faultAs", desc := "(I)I" } : Jvm.MethodName) ({ cls := "TuneWard$Sheet", name := "faultAs", desc := "(I)I" } : Jvm.MethodName) ∈ wT := wT_of (inTb_3 212 rfl) rfl
theorem w746 : Jvm.Cond.code ({ cls := "TuneWard$Sheet", name := "faultAs", desc := "(I)I" } : Jvm.MethodName) prog_4_method_4_code (2 : Nat) (Option.some Jvm.ClassFile.FieldType.int) ∈ wT := wT_of (inTb_3 213 rfl) rfl
theorem w747 : Jvm.Cond.methodLink "TuneWardLaw" (172 : Nat) ({ cls := "TuneWard", name := "torn", desc := "()I" } : Jvm.MethodName) ∈ wT := wT_of (inTb_3 214 rfl) rfl
theorem w748 : Jvm.Cond.instanceMethod ({ cls := "TuneWard", name := "torn", desc := "()I" } : Jvm.MethodName) ∈ wT := wT_of (inTb_3 215 rfl) rfl
theorem w749 : Jvm.Cond.selects "TuneWard" ({ cls := "TuneWard", name := "torn", desc := "()I" } : Jvm.MethodName) ({ cls := "TuneWard", name := "torn", desc := "()I" } : Jvm.MethodName) ∈ wT := wT_of (inTb_3 216 rfl) rfl
theorem w750 : Jvm.Cond.code ({ cls := "TuneWard", name := "torn", desc := "()I" } : Jvm.MethodName) prog_1_method_40_code (1 : Nat) (Option.some Jvm.ClassFile.FieldType.int) ∈ wT := wT_of (inTb_3 217 rfl) rfl
theorem w751 : Jvm.Cond.methodLink "TuneWardLaw" (176 : Nat) ({ cls := "TuneWard", name := "count", desc := "(I)I" } : Jvm.MethodName) ∈ wT := wT_of (inTb_3 218 rfl) rfl
theorem w752 : Jvm.Cond.instanceMethod ({ cls := "TuneWard", name := "count", desc := "(I)I" } : Jvm.MethodName) ∈ wT := wT_of (inTb_3 219 rfl) rfl
theorem w753 : Jvm.Cond.selects "TuneWard" ({ cls := "TuneWard", name := "count", desc := "(I)I" } : Jvm.MethodName) ({ cls := "TuneWard", name := "count", desc := "(I)I" } : Jvm.MethodName) ∈ wT := wT_of (inTb_3 220 rfl) rfl
theorem w754 : Jvm.Cond.code ({ cls := "TuneWard", name := "count", desc := "(I)I" } : Jvm.MethodName) prog_1_method_41_code (2 : Nat) (Option.some Jvm.ClassFile.FieldType.int) ∈ wT := wT_of (inTb_3 221 rfl) rfl
theorem w755 : Jvm.Cond.methodLink "TuneWard" (281 : Nat) ({ cls := "TuneWard$House", name := "allLengths", desc := "()I" } : Jvm.MethodName) ∈ wT := wT_of (inTb_3 222 rfl) rfl
theorem w756 : Jvm.Cond.instanceMethod ({ cls := "TuneWard$House", name := "allLengths", desc := "()I" } : Jvm.MethodName) ∈ wT := wT_of (inTb_3 223 rfl) rfl
theorem w757 : Jvm.Cond.selects "TuneWard$House" ({ cls := "TuneWard$House", name := "allLengths", desc := "()I" } : Jvm.MethodName) ({ cls := "TuneWard$House", name := "allLengths", desc := "()I" } : Jvm.MethodName) ∈ wT := wT_of (inTb_3 224 rfl) rfl
theorem w758 : Jvm.Cond.code ({ cls := "TuneWard$House", name := "allLengths", desc := "()I" } : Jvm.MethodName) prog_2_method_14_code (3 : Nat) (Option.some Jvm.ClassFile.FieldType.int) ∈ wT := wT_of (inTb_3 225 rfl) rfl
theorem w759 : Jvm.Cond.methodLink "TuneWard$House" (79 : Nat) ({ cls := "TuneWard$House", name := "lengthAs", desc := "(II)I" } : Jvm.MethodName) ∈ wT := wT_of (inTb_3 226 rfl) rfl
theorem w760 : Jvm.Cond.classLink "TuneWardLaw" (10 : Nat) "TuneWardModel" ∈ wT := wT_of (inTb_3 227 rfl) rfl
theorem w761 : Jvm.Cond.instantiable "TuneWardModel" (35 : Nat) ∈ wT := wT_of (inTb_3 228 rfl) rfl
theorem w762 : Jvm.Cond.methodLink "TuneWardLaw" (12 : Nat) ({ cls := "TuneWardModel", name := "<init>", desc := "()V" } : Jvm.MethodName) ∈ wT := wT_of (inTb_3 229 rfl) rfl
theorem w763 : Jvm.Cond.instanceMethod ({ cls := "TuneWardModel", name := "<init>", desc := "()V" } : Jvm.MethodName) ∈ wT := wT_of (inTb_3 230 rfl) rfl
theorem w764 : Jvm.Cond.code ({ cls := "TuneWardModel", name := "<init>", desc := "()V" } : Jvm.MethodName) prog_7_method_1_code (1 : Nat) (Option.none : Option Jvm.ClassFile.FieldType) ∈ wT := wT_of (inTb_3 231 rfl) rfl
theorem w765 : Jvm.Cond.methodLink "TuneWardModel" (1 : Nat) ({ cls := "java/lang/Object", name := "<init>", desc := "()V" } : Jvm.MethodName) ∈ wT := wT_of (inTb_3 232 rfl) rfl
theorem w766 : Jvm.Cond.fieldLink "TuneWardModel" (7 : Nat) "TuneWardModel" "state" "[I" ∈ wT := wT_of (inTb_3 233 rfl) rfl
theorem w767 : Jvm.Cond.fieldLink "TuneWardModel" (143 : Nat) "TuneWardModel" "tuneMany" "I" ∈ wT := wT_of (inTb_3 234 rfl) rfl
theorem w768 : Jvm.Cond.fieldLink "TuneWardModel" (146 : Nat) "TuneWardModel" "playerMany" "I" ∈ wT := wT_of (inTb_3 235 rfl) rfl
theorem w769 : Jvm.Cond.fieldLink "TuneWardModel" (149 : Nat) "TuneWardModel" "boundMany" "I" ∈ wT := wT_of (inTb_3 236 rfl) rfl
theorem w770 : Jvm.Cond.fieldLink "TuneWardModel" (13 : Nat) "TuneWardModel" "readPage" "[I" ∈ wT := wT_of (inTb_3 237 rfl) rfl
theorem w771 : Jvm.Cond.fieldLink "TuneWardModel" (113 : Nat) "TuneWardModel" "readTunes" "I" ∈ wT := wT_of (inTb_3 238 rfl) rfl
theorem w772 : Jvm.Cond.fieldLink "TuneWardModel" (119 : Nat) "TuneWardModel" "readPlayers" "I" ∈ wT := wT_of (inTb_3 239 rfl) rfl
theorem w773 : Jvm.Cond.fieldLink "TuneWardModel" (126 : Nat) "TuneWardModel" "readBound" "I" ∈ wT := wT_of (inTb_4 0 rfl) rfl
theorem w774 : Jvm.Cond.fieldLink "TuneWardModel" (110 : Nat) "TuneWardModel" "highTune" "I" ∈ wT := wT_of (inTb_4 1 rfl) rfl
theorem w775 : Jvm.Cond.fieldLink "TuneWardModel" (16 : Nat) "TuneWardModel" "tape" "[I" ∈ wT := wT_of (inTb_4 2 rfl) rfl
theorem w776 : Jvm.Cond.fieldLink "TuneWardModel" (65 : Nat) "TuneWardModel" "taped" "I" ∈ wT := wT_of (inTb_4 3 rfl) rfl
theorem w777 : Jvm.Cond.fieldLink "TuneWardModel" (140 : Nat) "TuneWardModel" "fault" "I" ∈ wT := wT_of (inTb_4 4 rfl) rfl
theorem w778 : Jvm.Cond.fieldLink "TuneWardModel" (69 : Nat) "TuneWardModel" "broken" "I" ∈ wT := wT_of (inTb_4 5 rfl) rfl
theorem w779 : Jvm.Cond.fieldLink "TuneWardModel" (75 : Nat) "TuneWardModel" "brokenAt" "I" ∈ wT := wT_of (inTb_4 6 rfl) rfl
theorem w780 : Jvm.Cond.fieldLink "TuneWardModel" (81 : Nat) "TuneWardModel" "spot" "I" ∈ wT := wT_of (inTb_4 7 rfl) rfl
theorem w781 : Jvm.Cond.fieldLink "TuneWardModel" (72 : Nat) "TuneWardModel" "here" "I" ∈ wT := wT_of (inTb_4 8 rfl) rfl
theorem w782 : Jvm.Cond.fieldLink "TuneWardModel" (78 : Nat) "TuneWardModel" "token" "I" ∈ wT := wT_of (inTb_4 9 rfl) rfl
theorem w783 : Jvm.Cond.fieldLink "TuneWardModel" (88 : Nat) "TuneWardModel" "value" "I" ∈ wT := wT_of (inTb_4 10 rfl) rfl
theorem w784 : Jvm.Cond.fieldLink "TuneWardModel" (19 : Nat) "TuneWardModel" "cuts" "[I" ∈ wT := wT_of (inTb_4 11 rfl) rfl
theorem w785 : Jvm.Cond.fieldLink "TuneWardModel" (22 : Nat) "TuneWardModel" "letters" "[I" ∈ wT := wT_of (inTb_4 12 rfl) rfl
theorem w786 : Jvm.Cond.fieldLink "TuneWardModel" (25 : Nat) "TuneWardModel" "breath" "[I" ∈ wT := wT_of (inTb_4 13 rfl) rfl
theorem w787 : Jvm.Cond.fieldLink "TuneWardModel" (28 : Nat) "TuneWardModel" "played" "[I" ∈ wT := wT_of (inTb_4 14 rfl) rfl
theorem w788 : Jvm.Cond.fieldLink "TuneWardModel" (31 : Nat) "TuneWardModel" "overAt" "[I" ∈ wT := wT_of (inTb_4 15 rfl) rfl
theorem w789 : Jvm.Cond.fieldLink "TuneWardModel" (34 : Nat) "TuneWardModel" "why" "[I" ∈ wT := wT_of (inTb_4 16 rfl) rfl
theorem w790 : Jvm.Cond.fieldLink "TuneWardModel" (37 : Nat) "TuneWardModel" "sounded" "[I" ∈ wT := wT_of (inTb_4 17 rfl) rfl
theorem w791 : Jvm.Cond.fieldLink "TuneWardModel" (40 : Nat) "TuneWardModel" "heard" "[I" ∈ wT := wT_of (inTb_4 18 rfl) rfl
theorem w792 : Jvm.Cond.fieldLink "TuneWardModel" (203 : Nat) "TuneWardModel" "silentOnes" "I" ∈ wT := wT_of (inTb_4 19 rfl) rfl
theorem w793 : Jvm.Cond.fieldLink "TuneWardModel" (43 : Nat) "TuneWardModel" "seen" "[I" ∈ wT := wT_of (inTb_4 20 rfl) rfl
theorem w794 : Jvm.Cond.fieldLink "TuneWardModel" (152 : Nat) "TuneWardModel" "seenMany" "I" ∈ wT := wT_of (inTb_4 21 rfl) rfl
theorem w795 : Jvm.Cond.fieldLink "TuneWardModel" (265 : Nat) "TuneWardModel" "drawn" "I" ∈ wT := wT_of (inTb_4 22 rfl) rfl
theorem w796 : Jvm.Cond.fieldLink "TuneWardModel" (46 : Nat) "TuneWardModel" "isKept" "[Z" ∈ wT := wT_of (inTb_4 23 rfl) rfl
theorem w797 : Jvm.Cond.fieldLink "TuneWardModel" (50 : Nat) "TuneWardModel" "lanes" "[I" ∈ wT := wT_of (inTb_4 24 rfl) rfl
theorem w798 : Jvm.Cond.fieldLink "TuneWardModel" (53 : Nat) "TuneWardModel" "lengths" "[I" ∈ wT := wT_of (inTb_4 25 rfl) rfl
theorem w799 : Jvm.Cond.fieldLink "TuneWardModel" (56 : Nat) "TuneWardModel" "cells" "[I" ∈ wT := wT_of (inTb_4 26 rfl) rfl
theorem w800 : Jvm.Cond.fieldLink "TuneWardModel" (277 : Nat) "TuneWardModel" "torn" "I" ∈ wT := wT_of (inTb_4 27 rfl) rfl
theorem w801 : Jvm.Cond.laysFinal "TuneWardModel" "TuneWardModel" "state" "[I" ∈ wT := wT_of (inTb_4 28 rfl) rfl
theorem w803 : Jvm.Cond.lays "TuneWardModel" "TuneWardModel" "tuneMany" "I" ∈ wT := wT_of (inTb_4 30 rfl) rfl
theorem w805 : Jvm.Cond.lays "TuneWardModel" "TuneWardModel" "playerMany" "I" ∈ wT := wT_of (inTb_4 32 rfl) rfl
theorem w807 : Jvm.Cond.lays "TuneWardModel" "TuneWardModel" "boundMany" "I" ∈ wT := wT_of (inTb_4 34 rfl) rfl
theorem w809 : Jvm.Cond.laysFinal "TuneWardModel" "TuneWardModel" "readPage" "[I" ∈ wT := wT_of (inTb_4 36 rfl) rfl
theorem w811 : Jvm.Cond.lays "TuneWardModel" "TuneWardModel" "readTunes" "I" ∈ wT := wT_of (inTb_4 38 rfl) rfl
theorem w813 : Jvm.Cond.lays "TuneWardModel" "TuneWardModel" "readPlayers" "I" ∈ wT := wT_of (inTb_4 40 rfl) rfl
theorem w815 : Jvm.Cond.lays "TuneWardModel" "TuneWardModel" "readBound" "I" ∈ wT := wT_of (inTb_4 42 rfl) rfl
theorem w817 : Jvm.Cond.lays "TuneWardModel" "TuneWardModel" "highTune" "I" ∈ wT := wT_of (inTb_4 44 rfl) rfl
theorem w819 : Jvm.Cond.laysFinal "TuneWardModel" "TuneWardModel" "tape" "[I" ∈ wT := wT_of (inTb_4 46 rfl) rfl
theorem w821 : Jvm.Cond.lays "TuneWardModel" "TuneWardModel" "taped" "I" ∈ wT := wT_of (inTb_4 48 rfl) rfl
theorem w823 : Jvm.Cond.lays "TuneWardModel" "TuneWardModel" "fault" "I" ∈ wT := wT_of (inTb_4 50 rfl) rfl
theorem w825 : Jvm.Cond.lays "TuneWardModel" "TuneWardModel" "broken" "I" ∈ wT := wT_of (inTb_4 52 rfl) rfl
theorem w827 : Jvm.Cond.lays "TuneWardModel" "TuneWardModel" "brokenAt" "I" ∈ wT := wT_of (inTb_4 54 rfl) rfl
theorem w829 : Jvm.Cond.lays "TuneWardModel" "TuneWardModel" "spot" "I" ∈ wT := wT_of (inTb_4 56 rfl) rfl
theorem w831 : Jvm.Cond.lays "TuneWardModel" "TuneWardModel" "here" "I" ∈ wT := wT_of (inTb_4 58 rfl) rfl
theorem w833 : Jvm.Cond.lays "TuneWardModel" "TuneWardModel" "token" "I" ∈ wT := wT_of (inTb_4 60 rfl) rfl
theorem w835 : Jvm.Cond.lays "TuneWardModel" "TuneWardModel" "value" "I" ∈ wT := wT_of (inTb_4 62 rfl) rfl
theorem w837 : Jvm.Cond.laysFinal "TuneWardModel" "TuneWardModel" "cuts" "[I" ∈ wT := wT_of (inTb_4 64 rfl) rfl
theorem w839 : Jvm.Cond.laysFinal "TuneWardModel" "TuneWardModel" "letters" "[I" ∈ wT := wT_of (inTb_4 66 rfl) rfl
theorem w841 : Jvm.Cond.laysFinal "TuneWardModel" "TuneWardModel" "breath" "[I" ∈ wT := wT_of (inTb_4 68 rfl) rfl
theorem w843 : Jvm.Cond.laysFinal "TuneWardModel" "TuneWardModel" "played" "[I" ∈ wT := wT_of (inTb_4 70 rfl) rfl
theorem w845 : Jvm.Cond.laysFinal "TuneWardModel" "TuneWardModel" "overAt" "[I" ∈ wT := wT_of (inTb_4 72 rfl) rfl
theorem w847 : Jvm.Cond.laysFinal "TuneWardModel" "TuneWardModel" "why" "[I" ∈ wT := wT_of (inTb_4 74 rfl) rfl
theorem w849 : Jvm.Cond.laysFinal "TuneWardModel" "TuneWardModel" "sounded" "[I" ∈ wT := wT_of (inTb_4 76 rfl) rfl
theorem w851 : Jvm.Cond.laysFinal "TuneWardModel" "TuneWardModel" "heard" "[I" ∈ wT := wT_of (inTb_4 78 rfl) rfl
theorem w853 : Jvm.Cond.lays "TuneWardModel" "TuneWardModel" "silentOnes" "I" ∈ wT := wT_of (inTb_4 80 rfl) rfl
theorem w855 : Jvm.Cond.laysFinal "TuneWardModel" "TuneWardModel" "seen" "[I" ∈ wT := wT_of (inTb_4 82 rfl) rfl
theorem w857 : Jvm.Cond.lays "TuneWardModel" "TuneWardModel" "seenMany" "I" ∈ wT := wT_of (inTb_4 84 rfl) rfl
theorem w859 : Jvm.Cond.lays "TuneWardModel" "TuneWardModel" "drawn" "I" ∈ wT := wT_of (inTb_4 86 rfl) rfl
theorem w861 : Jvm.Cond.laysFinal "TuneWardModel" "TuneWardModel" "isKept" "[Z" ∈ wT := wT_of (inTb_4 88 rfl) rfl
theorem w863 : Jvm.Cond.laysFinal "TuneWardModel" "TuneWardModel" "lanes" "[I" ∈ wT := wT_of (inTb_4 90 rfl) rfl
theorem w865 : Jvm.Cond.laysFinal "TuneWardModel" "TuneWardModel" "lengths" "[I" ∈ wT := wT_of (inTb_4 92 rfl) rfl
theorem w867 : Jvm.Cond.laysFinal "TuneWardModel" "TuneWardModel" "cells" "[I" ∈ wT := wT_of (inTb_4 94 rfl) rfl
theorem w869 : Jvm.Cond.lays "TuneWardModel" "TuneWardModel" "torn" "I" ∈ wT := wT_of (inTb_4 96 rfl) rfl
theorem w872 : Jvm.Cond.methodLink "TuneWardLaw" (17 : Nat) ({ cls := "TuneWardModel", name := "feed", desc := "(I)I" } : Jvm.MethodName) ∈ wT := wT_of (inTb_4 99 rfl) rfl
theorem w873 : Jvm.Cond.instanceMethod ({ cls := "TuneWardModel", name := "feed", desc := "(I)I" } : Jvm.MethodName) ∈ wT := wT_of (inTb_4 100 rfl) rfl
theorem w874 : Jvm.Cond.selects "TuneWardModel" ({ cls := "TuneWardModel", name := "feed", desc := "(I)I" } : Jvm.MethodName) ({ cls := "TuneWardModel", name := "feed", desc := "(I)I" } : Jvm.MethodName) ∈ wT := wT_of (inTb_4 101 rfl) rfl
theorem w875 : Jvm.Cond.code ({ cls := "TuneWardModel", name := "feed", desc := "(I)I" } : Jvm.MethodName) prog_7_method_4_code (2 : Nat) (Option.some Jvm.ClassFile.FieldType.int) ∈ wT := wT_of (inTb_4 102 rfl) rfl
theorem w876 : Jvm.Cond.constantLong "TuneWardModel" (59 : Nat) (127 : Int64) ∈ wT := wT_of (inTb_4 103 rfl) rfl
theorem w877 : Jvm.Cond.methodLink "TuneWardModel" (61 : Nat) ({ cls := "TuneWardModel", name := "in", desc := "(JJJ)Z" } : Jvm.MethodName) ∈ wT := wT_of (inTb_4 104 rfl) rfl
theorem w878 : Jvm.Cond.static ({ cls := "TuneWardModel", name := "in", desc := "(JJJ)Z" } : Jvm.MethodName) ∈ wT := wT_of (inTb_4 105 rfl) rfl
theorem w879 : Jvm.Cond.code ({ cls := "TuneWardModel", name := "in", desc := "(JJJ)Z" } : Jvm.MethodName) prog_7_method_3_code (6 : Nat) (Option.some Jvm.ClassFile.FieldType.boolean) ∈ wT := wT_of (inTb_4 106 rfl) rfl
theorem w880 : Jvm.Cond.methodLink "TuneWardLaw" (21 : Nat) ({ cls := "TuneWardModel", name := "end", desc := "(I)I" } : Jvm.MethodName) ∈ wT := wT_of (inTb_4 107 rfl) rfl
theorem w881 : Jvm.Cond.instanceMethod ({ cls := "TuneWardModel", name := "end", desc := "(I)I" } : Jvm.MethodName) ∈ wT := wT_of (inTb_4 108 rfl) rfl
theorem w882 : Jvm.Cond.selects "TuneWardModel" ({ cls := "TuneWardModel", name := "end", desc := "(I)I" } : Jvm.MethodName) ({ cls := "TuneWardModel", name := "end", desc := "(I)I" } : Jvm.MethodName) ∈ wT := wT_of (inTb_4 109 rfl) rfl
theorem w883 : Jvm.Cond.code ({ cls := "TuneWardModel", name := "end", desc := "(I)I" } : Jvm.MethodName) prog_7_method_5_code (3 : Nat) (Option.some Jvm.ClassFile.FieldType.int) ∈ wT := wT_of (inTb_4 110 rfl) rfl
theorem w884 : Jvm.Cond.methodLink "TuneWardLaw" (26 : Nat) ({ cls := "TuneWardModel", name := "text", desc := "()I" } : Jvm.MethodName) ∈ wT := wT_of (inTb_4 111 rfl) rfl
theorem w885 : Jvm.Cond.instanceMethod ({ cls := "TuneWardModel", name := "text", desc := "()I" } : Jvm.MethodName) ∈ wT := wT_of (inTb_4 112 rfl) rfl
theorem w886 : Jvm.Cond.selects "TuneWardModel" ({ cls := "TuneWardModel", name := "text", desc := "()I" } : Jvm.MethodName) ({ cls := "TuneWardModel", name := "text", desc := "()I" } : Jvm.MethodName) ∈ wT := wT_of (inTb_4 113 rfl) rfl
theorem w887 : Jvm.Cond.code ({ cls := "TuneWardModel", name := "text", desc := "()I" } : Jvm.MethodName) prog_7_method_15_code (3 : Nat) (Option.some Jvm.ClassFile.FieldType.int) ∈ wT := wT_of (inTb_4 114 rfl) rfl
theorem w888 : Jvm.Cond.methodLink "TuneWardModel" (103 : Nat) ({ cls := "TuneWardModel", name := "step", desc := "()V" } : Jvm.MethodName) ∈ wT := wT_of (inTb_4 115 rfl) rfl
theorem w890 : Jvm.Cond.instanceMethod ({ cls := "TuneWardModel", name := "step", desc := "()V" } : Jvm.MethodName) ∈ wT := wT_of (inTb_4 117 rfl) rfl
theorem w891 : Jvm.Cond.code ({ cls := "TuneWardModel", name := "step", desc := "()V" } : Jvm.MethodName) prog_7_method_9_code (2 : Nat) (Option.none : Option Jvm.ClassFile.FieldType) ∈ wT := wT_of (inTb_4 118 rfl) rfl
theorem w892 : Jvm.Cond.methodLink "TuneWardModel" (84 : Nat) ({ cls := "TuneWardModel", name := "byteAt", desc := "(I)I" } : Jvm.MethodName) ∈ wT := wT_of (inTb_4 119 rfl) rfl
theorem w894 : Jvm.Cond.instanceMethod ({ cls := "TuneWardModel", name := "byteAt", desc := "(I)I" } : Jvm.MethodName) ∈ wT := wT_of (inTb_4 121 rfl) rfl
theorem w895 : Jvm.Cond.code ({ cls := "TuneWardModel", name := "byteAt", desc := "(I)I" } : Jvm.MethodName) prog_7_method_6_code (2 : Nat) (Option.some Jvm.ClassFile.FieldType.int) ∈ wT := wT_of (inTb_4 122 rfl) rfl
theorem w896 : Jvm.Cond.constantLong "TuneWardModel" (91 : Nat) (97 : Int64) ∈ wT := wT_of (inTb_4 123 rfl) rfl
theorem w897 : Jvm.Cond.constantLong "TuneWardModel" (93 : Nat) (122 : Int64) ∈ wT := wT_of (inTb_4 124 rfl) rfl
theorem w898 : Jvm.Cond.constantLong "TuneWardModel" (95 : Nat) (48 : Int64) ∈ wT := wT_of (inTb_4 125 rfl) rfl
theorem w899 : Jvm.Cond.constantLong "TuneWardModel" (97 : Nat) (57 : Int64) ∈ wT := wT_of (inTb_4 126 rfl) rfl
theorem w900 : Jvm.Cond.methodLink "TuneWardModel" (99 : Nat) ({ cls := "TuneWardModel", name := "fails", desc := "(I)V" } : Jvm.MethodName) ∈ wT := wT_of (inTb_4 127 rfl) rfl
theorem w902 : Jvm.Cond.instanceMethod ({ cls := "TuneWardModel", name := "fails", desc := "(I)V" } : Jvm.MethodName) ∈ wT := wT_of (inTb_4 129 rfl) rfl
theorem w903 : Jvm.Cond.code ({ cls := "TuneWardModel", name := "fails", desc := "(I)V" } : Jvm.MethodName) prog_7_method_7_code (2 : Nat) (Option.none : Option Jvm.ClassFile.FieldType) ∈ wT := wT_of (inTb_4 130 rfl) rfl
theorem w904 : Jvm.Cond.methodLink "TuneWardModel" (137 : Nat) ({ cls := "TuneWardModel", name := "readLine", desc := "()V" } : Jvm.MethodName) ∈ wT := wT_of (inTb_4 131 rfl) rfl
theorem w906 : Jvm.Cond.instanceMethod ({ cls := "TuneWardModel", name := "readLine", desc := "()V" } : Jvm.MethodName) ∈ wT := wT_of (inTb_4 133 rfl) rfl
theorem w907 : Jvm.Cond.code ({ cls := "TuneWardModel", name := "readLine", desc := "()V" } : Jvm.MethodName) prog_7_method_14_code (2 : Nat) (Option.none : Option Jvm.ClassFile.FieldType) ∈ wT := wT_of (inTb_4 134 rfl) rfl
theorem w908 : Jvm.Cond.methodLink "TuneWardModel" (129 : Nat) ({ cls := "TuneWardModel", name := "nameHere", desc := "()I" } : Jvm.MethodName) ∈ wT := wT_of (inTb_4 135 rfl) rfl
theorem w910 : Jvm.Cond.instanceMethod ({ cls := "TuneWardModel", name := "nameHere", desc := "()I" } : Jvm.MethodName) ∈ wT := wT_of (inTb_4 137 rfl) rfl
theorem w911 : Jvm.Cond.code ({ cls := "TuneWardModel", name := "nameHere", desc := "()I" } : Jvm.MethodName) prog_7_method_8_code (4 : Nat) (Option.some Jvm.ClassFile.FieldType.int) ∈ wT := wT_of (inTb_4 138 rfl) rfl
theorem w912 : Jvm.Cond.constantLong "TuneWardModel" (132 : Nat) (5 : Int64) ∈ wT := wT_of (inTb_4 139 rfl) rfl
theorem w913 : Jvm.Cond.methodLink "TuneWardModel" (134 : Nat) ({ cls := "TuneWardModel", name := "readMore", desc := "(I)V" } : Jvm.MethodName) ∈ wT := wT_of (inTb_4 140 rfl) rfl
theorem w915 : Jvm.Cond.instanceMethod ({ cls := "TuneWardModel", name := "readMore", desc := "(I)V" } : Jvm.MethodName) ∈ wT := wT_of (inTb_4 142 rfl) rfl
theorem w916 : Jvm.Cond.code ({ cls := "TuneWardModel", name := "readMore", desc := "(I)V" } : Jvm.MethodName) prog_7_method_13_code (2 : Nat) (Option.none : Option Jvm.ClassFile.FieldType) ∈ wT := wT_of (inTb_4 143 rfl) rfl
theorem w917 : Jvm.Cond.methodLink "TuneWardModel" (116 : Nat) ({ cls := "TuneWardModel", name := "readTune", desc := "(I)V" } : Jvm.MethodName) ∈ wT := wT_of (inTb_4 144 rfl) rfl
theorem w919 : Jvm.Cond.instanceMethod ({ cls := "TuneWardModel", name := "readTune", desc := "(I)V" } : Jvm.MethodName) ∈ wT := wT_of (inTb_4 146 rfl) rfl
theorem w920 : Jvm.Cond.code ({ cls := "TuneWardModel", name := "readTune", desc := "(I)V" } : Jvm.MethodName) prog_7_method_12_code (4 : Nat) (Option.none : Option Jvm.ClassFile.FieldType) ∈ wT := wT_of (inTb_4 147 rfl) rfl
theorem w921 : Jvm.Cond.methodLink "TuneWardModel" (106 : Nat) ({ cls := "TuneWardModel", name := "number", desc := "(II)I" } : Jvm.MethodName) ∈ wT := wT_of (inTb_4 148 rfl) rfl
theorem w923 : Jvm.Cond.instanceMethod ({ cls := "TuneWardModel", name := "number", desc := "(II)I" } : Jvm.MethodName) ∈ wT := wT_of (inTb_4 150 rfl) rfl
theorem w924 : Jvm.Cond.code ({ cls := "TuneWardModel", name := "number", desc := "(II)I" } : Jvm.MethodName) prog_7_method_10_code (4 : Nat) (Option.some Jvm.ClassFile.FieldType.int) ∈ wT := wT_of (inTb_4 151 rfl) rfl
theorem w925 : Jvm.Cond.methodLink "TuneWardModel" (122 : Nat) ({ cls := "TuneWardModel", name := "tuneHere", desc := "()I" } : Jvm.MethodName) ∈ wT := wT_of (inTb_4 152 rfl) rfl
theorem w927 : Jvm.Cond.instanceMethod ({ cls := "TuneWardModel", name := "tuneHere", desc := "()I" } : Jvm.MethodName) ∈ wT := wT_of (inTb_4 154 rfl) rfl
theorem w928 : Jvm.Cond.code ({ cls := "TuneWardModel", name := "tuneHere", desc := "()I" } : Jvm.MethodName) prog_7_method_11_code (2 : Nat) (Option.some Jvm.ClassFile.FieldType.int) ∈ wT := wT_of (inTb_4 155 rfl) rfl
theorem w929 : Jvm.Cond.methodLink "TuneWardLaw" (30 : Nat) ({ cls := "TuneWardModel", name := "fault", desc := "()I" } : Jvm.MethodName) ∈ wT := wT_of (inTb_4 156 rfl) rfl
theorem w930 : Jvm.Cond.instanceMethod ({ cls := "TuneWardModel", name := "fault", desc := "()I" } : Jvm.MethodName) ∈ wT := wT_of (inTb_4 157 rfl) rfl
theorem w931 : Jvm.Cond.selects "TuneWardModel" ({ cls := "TuneWardModel", name := "fault", desc := "()I" } : Jvm.MethodName) ({ cls := "TuneWardModel", name := "fault", desc := "()I" } : Jvm.MethodName) ∈ wT := wT_of (inTb_4 158 rfl) rfl
theorem w932 : Jvm.Cond.code ({ cls := "TuneWardModel", name := "fault", desc := "()I" } : Jvm.MethodName) prog_7_method_16_code (1 : Nat) (Option.some Jvm.ClassFile.FieldType.int) ∈ wT := wT_of (inTb_4 159 rfl) rfl
theorem w933 : Jvm.Cond.methodLink "TuneWardLaw" (34 : Nat) ({ cls := "TuneWardModel", name := "rule", desc := "(I)I" } : Jvm.MethodName) ∈ wT := wT_of (inTb_4 160 rfl) rfl
theorem w934 : Jvm.Cond.instanceMethod ({ cls := "TuneWardModel", name := "rule", desc := "(I)I" } : Jvm.MethodName) ∈ wT := wT_of (inTb_4 161 rfl) rfl
theorem w935 : Jvm.Cond.selects "TuneWardModel" ({ cls := "TuneWardModel", name := "rule", desc := "(I)I" } : Jvm.MethodName) ({ cls := "TuneWardModel", name := "rule", desc := "(I)I" } : Jvm.MethodName) ∈ wT := wT_of (inTb_4 162 rfl) rfl
theorem w936 : Jvm.Cond.code ({ cls := "TuneWardModel", name := "rule", desc := "(I)I" } : Jvm.MethodName) prog_7_method_20_code (2 : Nat) (Option.some Jvm.ClassFile.FieldType.int) ∈ wT := wT_of (inTb_4 163 rfl) rfl
theorem w937 : Jvm.Cond.methodLink "TuneWardLaw" (39 : Nat) ({ cls := "TuneWardModel", name := "tune", desc := "(II)I" } : Jvm.MethodName) ∈ wT := wT_of (inTb_4 164 rfl) rfl
theorem w938 : Jvm.Cond.instanceMethod ({ cls := "TuneWardModel", name := "tune", desc := "(II)I" } : Jvm.MethodName) ∈ wT := wT_of (inTb_4 165 rfl) rfl
theorem w939 : Jvm.Cond.selects "TuneWardModel" ({ cls := "TuneWardModel", name := "tune", desc := "(II)I" } : Jvm.MethodName) ({ cls := "TuneWardModel", name := "tune", desc := "(II)I" } : Jvm.MethodName) ∈ wT := wT_of (inTb_4 166 rfl) rfl
theorem w940 : Jvm.Cond.code ({ cls := "TuneWardModel", name := "tune", desc := "(II)I" } : Jvm.MethodName) prog_7_method_26_code (3 : Nat) (Option.some Jvm.ClassFile.FieldType.int) ∈ wT := wT_of (inTb_4 167 rfl) rfl
theorem w941 : Jvm.Cond.methodLink "TuneWardModel" (161 : Nat) ({ cls := "TuneWardModel", name := "isTune", desc := "(I)Z" } : Jvm.MethodName) ∈ wT := wT_of (inTb_4 168 rfl) rfl
theorem w943 : Jvm.Cond.instanceMethod ({ cls := "TuneWardModel", name := "isTune", desc := "(I)Z" } : Jvm.MethodName) ∈ wT := wT_of (inTb_4 170 rfl) rfl
theorem w944 : Jvm.Cond.code ({ cls := "TuneWardModel", name := "isTune", desc := "(I)Z" } : Jvm.MethodName) prog_7_method_17_code (2 : Nat) (Option.some Jvm.ClassFile.FieldType.boolean) ∈ wT := wT_of (inTb_4 171 rfl) rfl
theorem w945 : Jvm.Cond.methodLink "TuneWardModel" (165 : Nat) ({ cls := "TuneWardModel", name := "lengthOf", desc := "(I)I" } : Jvm.MethodName) ∈ wT := wT_of (inTb_4 172 rfl) rfl
theorem w947 : Jvm.Cond.instanceMethod ({ cls := "TuneWardModel", name := "lengthOf", desc := "(I)I" } : Jvm.MethodName) ∈ wT := wT_of (inTb_4 174 rfl) rfl
theorem w948 : Jvm.Cond.code ({ cls := "TuneWardModel", name := "lengthOf", desc := "(I)I" } : Jvm.MethodName) prog_7_method_23_code (2 : Nat) (Option.some Jvm.ClassFile.FieldType.int) ∈ wT := wT_of (inTb_4 175 rfl) rfl
theorem w949 : Jvm.Cond.methodLink "TuneWardModel" (158 : Nat) ({ cls := "TuneWardModel", name := "lengthBy", desc := "(II)I" } : Jvm.MethodName) ∈ wT := wT_of (inTb_4 176 rfl) rfl
theorem w951 : Jvm.Cond.instanceMethod ({ cls := "TuneWardModel", name := "lengthBy", desc := "(II)I" } : Jvm.MethodName) ∈ wT := wT_of (inTb_4 178 rfl) rfl
theorem w952 : Jvm.Cond.code ({ cls := "TuneWardModel", name := "lengthBy", desc := "(II)I" } : Jvm.MethodName) prog_7_method_22_code (3 : Nat) (Option.some Jvm.ClassFile.FieldType.int) ∈ wT := wT_of (inTb_4 179 rfl) rfl
theorem w953 : Jvm.Cond.methodLink "TuneWardModel" (155 : Nat) ({ cls := "TuneWardModel", name := "rowOf", desc := "(II)I" } : Jvm.MethodName) ∈ wT := wT_of (inTb_4 180 rfl) rfl
theorem w954 : Jvm.Cond.static ({ cls := "TuneWardModel", name := "rowOf", desc := "(II)I" } : Jvm.MethodName) ∈ wT := wT_of (inTb_4 181 rfl) rfl
theorem w955 : Jvm.Cond.code ({ cls := "TuneWardModel", name := "rowOf", desc := "(II)I" } : Jvm.MethodName) prog_7_method_21_code (2 : Nat) (Option.some Jvm.ClassFile.FieldType.int) ∈ wT := wT_of (inTb_4 182 rfl) rfl
theorem w956 : Jvm.Cond.methodLink "TuneWardModel" (168 : Nat) ({ cls := "TuneWardModel", name := "boundTo", desc := "(I)I" } : Jvm.MethodName) ∈ wT := wT_of (inTb_4 183 rfl) rfl
theorem w958 : Jvm.Cond.instanceMethod ({ cls := "TuneWardModel", name := "boundTo", desc := "(I)I" } : Jvm.MethodName) ∈ wT := wT_of (inTb_4 185 rfl) rfl
theorem w959 : Jvm.Cond.code ({ cls := "TuneWardModel", name := "boundTo", desc := "(I)I" } : Jvm.MethodName) prog_7_method_25_code (4 : Nat) (Option.some Jvm.ClassFile.FieldType.int) ∈ wT := wT_of (inTb_4 186 rfl) rfl
theorem w960 : Jvm.Cond.methodLink "TuneWardLaw" (43 : Nat) ({ cls := "TuneWardModel", name := "note", desc := "(II)I" } : Jvm.MethodName) ∈ wT := wT_of (inTb_4 187 rfl) rfl
theorem w961 : Jvm.Cond.instanceMethod ({ cls := "TuneWardModel", name := "note", desc := "(II)I" } : Jvm.MethodName) ∈ wT := wT_of (inTb_4 188 rfl) rfl
theorem w962 : Jvm.Cond.selects "TuneWardModel" ({ cls := "TuneWardModel", name := "note", desc := "(II)I" } : Jvm.MethodName) ({ cls := "TuneWardModel", name := "note", desc := "(II)I" } : Jvm.MethodName) ∈ wT := wT_of (inTb_4 189 rfl) rfl
theorem w963 : Jvm.Cond.code ({ cls := "TuneWardModel", name := "note", desc := "(II)I" } : Jvm.MethodName) prog_7_method_28_code (3 : Nat) (Option.some Jvm.ClassFile.FieldType.int) ∈ wT := wT_of (inTb_4 190 rfl) rfl
theorem w964 : Jvm.Cond.methodLink "TuneWardModel" (171 : Nat) ({ cls := "TuneWardModel", name := "isNote", desc := "(II)Z" } : Jvm.MethodName) ∈ wT := wT_of (inTb_4 191 rfl) rfl
theorem w966 : Jvm.Cond.instanceMethod ({ cls := "TuneWardModel", name := "isNote", desc := "(II)Z" } : Jvm.MethodName) ∈ wT := wT_of (inTb_4 193 rfl) rfl
theorem w967 : Jvm.Cond.code ({ cls := "TuneWardModel", name := "isNote", desc := "(II)Z" } : Jvm.MethodName) prog_7_method_27_code (3 : Nat) (Option.some Jvm.ClassFile.FieldType.boolean) ∈ wT := wT_of (inTb_4 194 rfl) rfl
theorem w968 : Jvm.Cond.methodLink "TuneWardLaw" (47 : Nat) ({ cls := "TuneWardModel", name := "has", desc := "(II)I" } : Jvm.MethodName) ∈ wT := wT_of (inTb_4 195 rfl) rfl
theorem w969 : Jvm.Cond.instanceMethod ({ cls := "TuneWardModel", name := "has", desc := "(II)I" } : Jvm.MethodName) ∈ wT := wT_of (inTb_4 196 rfl) rfl
theorem w970 : Jvm.Cond.selects "TuneWardModel" ({ cls := "TuneWardModel", name := "has", desc := "(II)I" } : Jvm.MethodName) ({ cls := "TuneWardModel", name := "has", desc := "(II)I" } : Jvm.MethodName) ∈ wT := wT_of (inTb_4 197 rfl) rfl
theorem w971 : Jvm.Cond.code ({ cls := "TuneWardModel", name := "has", desc := "(II)I" } : Jvm.MethodName) prog_7_method_30_code (3 : Nat) (Option.some Jvm.ClassFile.FieldType.int) ∈ wT := wT_of (inTb_4 198 rfl) rfl
theorem w972 : Jvm.Cond.methodLink "TuneWardModel" (177 : Nat) ({ cls := "TuneWardModel", name := "isMinute", desc := "(I)Z" } : Jvm.MethodName) ∈ wT := wT_of (inTb_4 199 rfl) rfl
theorem w973 : Jvm.Cond.static ({ cls := "TuneWardModel", name := "isMinute", desc := "(I)Z" } : Jvm.MethodName) ∈ wT := wT_of (inTb_4 200 rfl) rfl
theorem w974 : Jvm.Cond.code ({ cls := "TuneWardModel", name := "isMinute", desc := "(I)Z" } : Jvm.MethodName) prog_7_method_29_code (1 : Nat) (Option.some Jvm.ClassFile.FieldType.boolean) ∈ wT := wT_of (inTb_4 201 rfl) rfl
theorem w975 : Jvm.Cond.constantLong "TuneWardModel" (175 : Nat) (159 : Int64) ∈ wT := wT_of (inTb_4 202 rfl) rfl
theorem w976 : Jvm.Cond.methodLink "TuneWardModel" (180 : Nat) ({ cls := "TuneWardModel", name := "noteBy", desc := "(III)I" } : Jvm.MethodName) ∈ wT := wT_of (inTb_4 203 rfl) rfl
theorem w978 : Jvm.Cond.instanceMethod ({ cls := "TuneWardModel", name := "noteBy", desc := "(III)I" } : Jvm.MethodName) ∈ wT := wT_of (inTb_4 205 rfl) rfl
theorem w979 : Jvm.Cond.code ({ cls := "TuneWardModel", name := "noteBy", desc := "(III)I" } : Jvm.MethodName) prog_7_method_24_code (8 : Nat) (Option.some Jvm.ClassFile.FieldType.int) ∈ wT := wT_of (inTb_4 206 rfl) rfl
theorem w980 : Jvm.Cond.methodLink "TuneWardLaw" (51 : Nat) ({ cls := "TuneWardModel", name := "player", desc := "(II)I" } : Jvm.MethodName) ∈ wT := wT_of (inTb_4 207 rfl) rfl
theorem w981 : Jvm.Cond.instanceMethod ({ cls := "TuneWardModel", name := "player", desc := "(II)I" } : Jvm.MethodName) ∈ wT := wT_of (inTb_4 208 rfl) rfl
theorem w982 : Jvm.Cond.selects "TuneWardModel" ({ cls := "TuneWardModel", name := "player", desc := "(II)I" } : Jvm.MethodName) ({ cls := "TuneWardModel", name := "player", desc := "(II)I" } : Jvm.MethodName) ∈ wT := wT_of (inTb_4 209 rfl) rfl
theorem w983 : Jvm.Cond.code ({ cls := "TuneWardModel", name := "player", desc := "(II)I" } : Jvm.MethodName) prog_7_method_31_code (3 : Nat) (Option.some Jvm.ClassFile.FieldType.int) ∈ wT := wT_of (inTb_4 210 rfl) rfl
theorem w984 : Jvm.Cond.methodLink "TuneWardModel" (184 : Nat) ({ cls := "TuneWardModel", name := "isPlayer", desc := "(I)Z" } : Jvm.MethodName) ∈ wT := wT_of (inTb_4 211 rfl) rfl
theorem w986 : Jvm.Cond.instanceMethod ({ cls := "TuneWardModel", name := "isPlayer", desc := "(I)Z" } : Jvm.MethodName) ∈ wT := wT_of (inTb_4 213 rfl) rfl
theorem w987 : Jvm.Cond.code ({ cls := "TuneWardModel", name := "isPlayer", desc := "(I)Z" } : Jvm.MethodName) prog_7_method_18_code (2 : Nat) (Option.some Jvm.ClassFile.FieldType.boolean) ∈ wT := wT_of (inTb_4 214 rfl) rfl
theorem w988 : Jvm.Cond.constantLong "TuneWardModel" (187 : Nat) (3 : Int64) ∈ wT := wT_of (inTb_4 215 rfl) rfl
theorem w989 : Jvm.Cond.methodLink "TuneWardLaw" (55 : Nat) ({ cls := "TuneWardModel", name := "bound", desc := "(I)I" } : Jvm.MethodName) ∈ wT := wT_of (inTb_4 216 rfl) rfl
theorem w990 : Jvm.Cond.instanceMethod ({ cls := "TuneWardModel", name := "bound", desc := "(I)I" } : Jvm.MethodName) ∈ wT := wT_of (inTb_4 217 rfl) rfl
theorem w991 : Jvm.Cond.selects "TuneWardModel" ({ cls := "TuneWardModel", name := "bound", desc := "(I)I" } : Jvm.MethodName) ({ cls := "TuneWardModel", name := "bound", desc := "(I)I" } : Jvm.MethodName) ∈ wT := wT_of (inTb_4 218 rfl) rfl
theorem w992 : Jvm.Cond.code ({ cls := "TuneWardModel", name := "bound", desc := "(I)I" } : Jvm.MethodName) prog_7_method_32_code (2 : Nat) (Option.some Jvm.ClassFile.FieldType.int) ∈ wT := wT_of (inTb_4 219 rfl) rfl
theorem w993 : Jvm.Cond.methodLink "TuneWardModel" (189 : Nat) ({ cls := "TuneWardModel", name := "isBound", desc := "(I)Z" } : Jvm.MethodName) ∈ wT := wT_of (inTb_4 220 rfl) rfl
theorem w995 : Jvm.Cond.instanceMethod ({ cls := "TuneWardModel", name := "isBound", desc := "(I)Z" } : Jvm.MethodName) ∈ wT := wT_of (inTb_4 222 rfl) rfl
theorem w996 : Jvm.Cond.code ({ cls := "TuneWardModel", name := "isBound", desc := "(I)Z" } : Jvm.MethodName) prog_7_method_19_code (2 : Nat) (Option.some Jvm.ClassFile.FieldType.boolean) ∈ wT := wT_of (inTb_4 223 rfl) rfl
theorem w997 : Jvm.Cond.methodLink "TuneWardLaw" (60 : Nat) ({ cls := "TuneWardModel", name := "write", desc := "(III)I" } : Jvm.MethodName) ∈ wT := wT_of (inTb_4 224 rfl) rfl
theorem w998 : Jvm.Cond.instanceMethod ({ cls := "TuneWardModel", name := "write", desc := "(III)I" } : Jvm.MethodName) ∈ wT := wT_of (inTb_4 225 rfl) rfl
theorem w999 : Jvm.Cond.selects "TuneWardModel" ({ cls := "TuneWardModel", name := "write", desc := "(III)I" } : Jvm.MethodName) ({ cls := "TuneWardModel", name := "write", desc := "(III)I" } : Jvm.MethodName) ∈ wT := wT_of (inTb_4 226 rfl) rfl
theorem w1000 : Jvm.Cond.code ({ cls := "TuneWardModel", name := "write", desc := "(III)I" } : Jvm.MethodName) prog_7_method_34_code (4 : Nat) (Option.some Jvm.ClassFile.FieldType.int) ∈ wT := wT_of (inTb_4 227 rfl) rfl
theorem w1001 : Jvm.Cond.constantLong "TuneWardModel" (192 : Nat) (9 : Int64) ∈ wT := wT_of (inTb_4 228 rfl) rfl
theorem w1002 : Jvm.Cond.methodLink "TuneWardModel" (194 : Nat) ({ cls := "TuneWardModel", name := "puts", desc := "(ZII)I" } : Jvm.MethodName) ∈ wT := wT_of (inTb_4 229 rfl) rfl
theorem w1004 : Jvm.Cond.instanceMethod ({ cls := "TuneWardModel", name := "puts", desc := "(ZII)I" } : Jvm.MethodName) ∈ wT := wT_of (inTb_4 231 rfl) rfl
theorem w1005 : Jvm.Cond.code ({ cls := "TuneWardModel", name := "puts", desc := "(ZII)I" } : Jvm.MethodName) prog_7_method_33_code (5 : Nat) (Option.some Jvm.ClassFile.FieldType.int) ∈ wT := wT_of (inTb_4 232 rfl) rfl
theorem w1006 : Jvm.Cond.methodLink "TuneWardLaw" (64 : Nat) ({ cls := "TuneWardModel", name := "add", desc := "(II)I" } : Jvm.MethodName) ∈ wT := wT_of (inTb_4 233 rfl) rfl
theorem w1007 : Jvm.Cond.instanceMethod ({ cls := "TuneWardModel", name := "add", desc := "(II)I" } : Jvm.MethodName) ∈ wT := wT_of (inTb_4 234 rfl) rfl
theorem w1008 : Jvm.Cond.selects "TuneWardModel" ({ cls := "TuneWardModel", name := "add", desc := "(II)I" } : Jvm.MethodName) ({ cls := "TuneWardModel", name := "add", desc := "(II)I" } : Jvm.MethodName) ∈ wT := wT_of (inTb_4 235 rfl) rfl
theorem w1009 : Jvm.Cond.code ({ cls := "TuneWardModel", name := "add", desc := "(II)I" } : Jvm.MethodName) prog_7_method_35_code (3 : Nat) (Option.some Jvm.ClassFile.FieldType.int) ∈ wT := wT_of (inTb_4 236 rfl) rfl
theorem w1010 : Jvm.Cond.methodLink "TuneWardLaw" (68 : Nat) ({ cls := "TuneWardModel", name := "set", desc := "(III)I" } : Jvm.MethodName) ∈ wT := wT_of (inTb_4 237 rfl) rfl
theorem w1011 : Jvm.Cond.instanceMethod ({ cls := "TuneWardModel", name := "set", desc := "(III)I" } : Jvm.MethodName) ∈ wT := wT_of (inTb_4 238 rfl) rfl
theorem w1012 : Jvm.Cond.selects "TuneWardModel" ({ cls := "TuneWardModel", name := "set", desc := "(III)I" } : Jvm.MethodName) ({ cls := "TuneWardModel", name := "set", desc := "(III)I" } : Jvm.MethodName) ∈ wT := wT_of (inTb_4 239 rfl) rfl
theorem w1013 : Jvm.Cond.code ({ cls := "TuneWardModel", name := "set", desc := "(III)I" } : Jvm.MethodName) prog_7_method_36_code (5 : Nat) (Option.some Jvm.ClassFile.FieldType.int) ∈ wT := wT_of (inTb_5 0 rfl) rfl
theorem w1014 : Jvm.Cond.methodLink "TuneWardLaw" (72 : Nat) ({ cls := "TuneWardModel", name := "hire", desc := "(III)I" } : Jvm.MethodName) ∈ wT := wT_of (inTb_5 1 rfl) rfl
theorem w1015 : Jvm.Cond.instanceMethod ({ cls := "TuneWardModel", name := "hire", desc := "(III)I" } : Jvm.MethodName) ∈ wT := wT_of (inTb_5 2 rfl) rfl
theorem w1016 : Jvm.Cond.selects "TuneWardModel" ({ cls := "TuneWardModel", name := "hire", desc := "(III)I" } : Jvm.MethodName) ({ cls := "TuneWardModel", name := "hire", desc := "(III)I" } : Jvm.MethodName) ∈ wT := wT_of (inTb_5 3 rfl) rfl
theorem w1017 : Jvm.Cond.code ({ cls := "TuneWardModel", name := "hire", desc := "(III)I" } : Jvm.MethodName) prog_7_method_37_code (5 : Nat) (Option.some Jvm.ClassFile.FieldType.int) ∈ wT := wT_of (inTb_5 4 rfl) rfl
theorem w1018 : Jvm.Cond.constantLong "TuneWardModel" (198 : Nat) (99 : Int64) ∈ wT := wT_of (inTb_5 5 rfl) rfl
theorem w1019 : Jvm.Cond.methodLink "TuneWardLaw" (76 : Nat) ({ cls := "TuneWardModel", name := "bind", desc := "(II)I" } : Jvm.MethodName) ∈ wT := wT_of (inTb_5 6 rfl) rfl
theorem w1020 : Jvm.Cond.instanceMethod ({ cls := "TuneWardModel", name := "bind", desc := "(II)I" } : Jvm.MethodName) ∈ wT := wT_of (inTb_5 7 rfl) rfl
theorem w1021 : Jvm.Cond.selects "TuneWardModel" ({ cls := "TuneWardModel", name := "bind", desc := "(II)I" } : Jvm.MethodName) ({ cls := "TuneWardModel", name := "bind", desc := "(II)I" } : Jvm.MethodName) ∈ wT := wT_of (inTb_5 8 rfl) rfl
theorem w1022 : Jvm.Cond.code ({ cls := "TuneWardModel", name := "bind", desc := "(II)I" } : Jvm.MethodName) prog_7_method_39_code (3 : Nat) (Option.some Jvm.ClassFile.FieldType.int) ∈ wT := wT_of (inTb_5 9 rfl) rfl
theorem w1023 : Jvm.Cond.methodLink "TuneWardModel" (200 : Nat) ({ cls := "TuneWardModel", name := "binds", desc := "(II)I" } : Jvm.MethodName) ∈ wT := wT_of (inTb_5 10 rfl) rfl
theorem w1025 : Jvm.Cond.instanceMethod ({ cls := "TuneWardModel", name := "binds", desc := "(II)I" } : Jvm.MethodName) ∈ wT := wT_of (inTb_5 12 rfl) rfl
theorem w1026 : Jvm.Cond.code ({ cls := "TuneWardModel", name := "binds", desc := "(II)I" } : Jvm.MethodName) prog_7_method_38_code (3 : Nat) (Option.some Jvm.ClassFile.FieldType.int) ∈ wT := wT_of (inTb_5 13 rfl) rfl
theorem w1027 : Jvm.Cond.methodLink "TuneWardLaw" (80 : Nat) ({ cls := "TuneWardModel", name := "out", desc := "(II)I" } : Jvm.MethodName) ∈ wT := wT_of (inTb_5 14 rfl) rfl
theorem w1028 : Jvm.Cond.instanceMethod ({ cls := "TuneWardModel", name := "out", desc := "(II)I" } : Jvm.MethodName) ∈ wT := wT_of (inTb_5 15 rfl) rfl
theorem w1029 : Jvm.Cond.selects "TuneWardModel" ({ cls := "TuneWardModel", name := "out", desc := "(II)I" } : Jvm.MethodName) ({ cls := "TuneWardModel", name := "out", desc := "(II)I" } : Jvm.MethodName) ∈ wT := wT_of (inTb_5 16 rfl) rfl
theorem w1030 : Jvm.Cond.code ({ cls := "TuneWardModel", name := "out", desc := "(II)I" } : Jvm.MethodName) prog_7_method_49_code (4 : Nat) (Option.some Jvm.ClassFile.FieldType.int) ∈ wT := wT_of (inTb_5 17 rfl) rfl
theorem w1031 : Jvm.Cond.methodLink "TuneWardModel" (219 : Nat) ({ cls := "TuneWardModel", name := "playing", desc := "()V" } : Jvm.MethodName) ∈ wT := wT_of (inTb_5 18 rfl) rfl
theorem w1033 : Jvm.Cond.instanceMethod ({ cls := "TuneWardModel", name := "playing", desc := "()V" } : Jvm.MethodName) ∈ wT := wT_of (inTb_5 20 rfl) rfl
theorem w1034 : Jvm.Cond.code ({ cls := "TuneWardModel", name := "playing", desc := "()V" } : Jvm.MethodName) prog_7_method_44_code (3 : Nat) (Option.none : Option Jvm.ClassFile.FieldType) ∈ wT := wT_of (inTb_5 21 rfl) rfl
theorem w1035 : Jvm.Cond.methodLink "TuneWardModel" (213 : Nat) ({ cls := "TuneWardModel", name := "doesSound", desc := "(II)Z" } : Jvm.MethodName) ∈ wT := wT_of (inTb_5 22 rfl) rfl
theorem w1037 : Jvm.Cond.instanceMethod ({ cls := "TuneWardModel", name := "doesSound", desc := "(II)Z" } : Jvm.MethodName) ∈ wT := wT_of (inTb_5 24 rfl) rfl
theorem w1038 : Jvm.Cond.code ({ cls := "TuneWardModel", name := "doesSound", desc := "(II)Z" } : Jvm.MethodName) prog_7_method_42_code (4 : Nat) (Option.some Jvm.ClassFile.FieldType.boolean) ∈ wT := wT_of (inTb_5 25 rfl) rfl
theorem w1039 : Jvm.Cond.methodLink "TuneWardModel" (206 : Nat) ({ cls := "TuneWardModel", name := "ends", desc := "(III)V" } : Jvm.MethodName) ∈ wT := wT_of (inTb_5 26 rfl) rfl
theorem w1041 : Jvm.Cond.instanceMethod ({ cls := "TuneWardModel", name := "ends", desc := "(III)V" } : Jvm.MethodName) ∈ wT := wT_of (inTb_5 28 rfl) rfl
theorem w1042 : Jvm.Cond.code ({ cls := "TuneWardModel", name := "ends", desc := "(III)V" } : Jvm.MethodName) prog_7_method_41_code (4 : Nat) (Option.none : Option Jvm.ClassFile.FieldType) ∈ wT := wT_of (inTb_5 29 rfl) rfl
theorem w1043 : Jvm.Cond.methodLink "TuneWardModel" (210 : Nat) ({ cls := "TuneWardModel", name := "playerAt", desc := "(I)I" } : Jvm.MethodName) ∈ wT := wT_of (inTb_5 30 rfl) rfl
theorem w1045 : Jvm.Cond.instanceMethod ({ cls := "TuneWardModel", name := "playerAt", desc := "(I)I" } : Jvm.MethodName) ∈ wT := wT_of (inTb_5 32 rfl) rfl
theorem w1046 : Jvm.Cond.code ({ cls := "TuneWardModel", name := "playerAt", desc := "(I)I" } : Jvm.MethodName) prog_7_method_40_code (3 : Nat) (Option.some Jvm.ClassFile.FieldType.int) ∈ wT := wT_of (inTb_5 33 rfl) rfl
theorem w1047 : Jvm.Cond.methodLink "TuneWardModel" (216 : Nat) ({ cls := "TuneWardModel", name := "crosses", desc := "(I)V" } : Jvm.MethodName) ∈ wT := wT_of (inTb_5 34 rfl) rfl
theorem w1049 : Jvm.Cond.instanceMethod ({ cls := "TuneWardModel", name := "crosses", desc := "(I)V" } : Jvm.MethodName) ∈ wT := wT_of (inTb_5 36 rfl) rfl
theorem w1050 : Jvm.Cond.code ({ cls := "TuneWardModel", name := "crosses", desc := "(I)V" } : Jvm.MethodName) prog_7_method_43_code (6 : Nat) (Option.none : Option Jvm.ClassFile.FieldType) ∈ wT := wT_of (inTb_5 37 rfl) rfl
theorem w1051 : Jvm.Cond.methodLink "TuneWardLaw" (84 : Nat) ({ cls := "TuneWardModel", name := "over", desc := "(II)I" } : Jvm.MethodName) ∈ wT := wT_of (inTb_5 38 rfl) rfl
theorem w1052 : Jvm.Cond.instanceMethod ({ cls := "TuneWardModel", name := "over", desc := "(II)I" } : Jvm.MethodName) ∈ wT := wT_of (inTb_5 39 rfl) rfl
theorem w1053 : Jvm.Cond.selects "TuneWardModel" ({ cls := "TuneWardModel", name := "over", desc := "(II)I" } : Jvm.MethodName) ({ cls := "TuneWardModel", name := "over", desc := "(II)I" } : Jvm.MethodName) ∈ wT := wT_of (inTb_5 40 rfl) rfl
theorem w1054 : Jvm.Cond.code ({ cls := "TuneWardModel", name := "over", desc := "(II)I" } : Jvm.MethodName) prog_7_method_50_code (3 : Nat) (Option.some Jvm.ClassFile.FieldType.int) ∈ wT := wT_of (inTb_5 41 rfl) rfl
theorem w1055 : Jvm.Cond.constantLong "TuneWardModel" (228 : Nat) (2 : Int64) ∈ wT := wT_of (inTb_5 42 rfl) rfl
theorem w1056 : Jvm.Cond.methodLink "TuneWardLaw" (88 : Nat) ({ cls := "TuneWardModel", name := "plays", desc := "(I)I" } : Jvm.MethodName) ∈ wT := wT_of (inTb_5 43 rfl) rfl
theorem w1057 : Jvm.Cond.instanceMethod ({ cls := "TuneWardModel", name := "plays", desc := "(I)I" } : Jvm.MethodName) ∈ wT := wT_of (inTb_5 44 rfl) rfl
theorem w1058 : Jvm.Cond.selects "TuneWardModel" ({ cls := "TuneWardModel", name := "plays", desc := "(I)I" } : Jvm.MethodName) ({ cls := "TuneWardModel", name := "plays", desc := "(I)I" } : Jvm.MethodName) ∈ wT := wT_of (inTb_5 45 rfl) rfl
theorem w1059 : Jvm.Cond.code ({ cls := "TuneWardModel", name := "plays", desc := "(I)I" } : Jvm.MethodName) prog_7_method_51_code (2 : Nat) (Option.some Jvm.ClassFile.FieldType.int) ∈ wT := wT_of (inTb_5 46 rfl) rfl
theorem w1060 : Jvm.Cond.methodLink "TuneWardLaw" (92 : Nat) ({ cls := "TuneWardModel", name := "sounds", desc := "(I)I" } : Jvm.MethodName) ∈ wT := wT_of (inTb_5 47 rfl) rfl
theorem w1061 : Jvm.Cond.instanceMethod ({ cls := "TuneWardModel", name := "sounds", desc := "(I)I" } : Jvm.MethodName) ∈ wT := wT_of (inTb_5 48 rfl) rfl
theorem w1062 : Jvm.Cond.selects "TuneWardModel" ({ cls := "TuneWardModel", name := "sounds", desc := "(I)I" } : Jvm.MethodName) ({ cls := "TuneWardModel", name := "sounds", desc := "(I)I" } : Jvm.MethodName) ∈ wT := wT_of (inTb_5 49 rfl) rfl
theorem w1063 : Jvm.Cond.code ({ cls := "TuneWardModel", name := "sounds", desc := "(I)I" } : Jvm.MethodName) prog_7_method_52_code (2 : Nat) (Option.some Jvm.ClassFile.FieldType.int) ∈ wT := wT_of (inTb_5 50 rfl) rfl
theorem w1064 : Jvm.Cond.methodLink "TuneWardLaw" (96 : Nat) ({ cls := "TuneWardModel", name := "sum", desc := "(I)I" } : Jvm.MethodName) ∈ wT := wT_of (inTb_5 51 rfl) rfl
theorem w1065 : Jvm.Cond.instanceMethod ({ cls := "TuneWardModel", name := "sum", desc := "(I)I" } : Jvm.MethodName) ∈ wT := wT_of (inTb_5 52 rfl) rfl
theorem w1066 : Jvm.Cond.selects "TuneWardModel" ({ cls := "TuneWardModel", name := "sum", desc := "(I)I" } : Jvm.MethodName) ({ cls := "TuneWardModel", name := "sum", desc := "(I)I" } : Jvm.MethodName) ∈ wT := wT_of (inTb_5 53 rfl) rfl
theorem w1067 : Jvm.Cond.code ({ cls := "TuneWardModel", name := "sum", desc := "(I)I" } : Jvm.MethodName) prog_7_method_53_code (5 : Nat) (Option.some Jvm.ClassFile.FieldType.int) ∈ wT := wT_of (inTb_5 54 rfl) rfl
theorem w1068 : Jvm.Cond.methodLink "TuneWardModel" (222 : Nat) ({ cls := "TuneWardModel", name := "away", desc := "()I" } : Jvm.MethodName) ∈ wT := wT_of (inTb_5 55 rfl) rfl
theorem w1070 : Jvm.Cond.instanceMethod ({ cls := "TuneWardModel", name := "away", desc := "()I" } : Jvm.MethodName) ∈ wT := wT_of (inTb_5 57 rfl) rfl
theorem w1071 : Jvm.Cond.code ({ cls := "TuneWardModel", name := "away", desc := "()I" } : Jvm.MethodName) prog_7_method_45_code (3 : Nat) (Option.some Jvm.ClassFile.FieldType.int) ∈ wT := wT_of (inTb_5 58 rfl) rfl
theorem w1072 : Jvm.Cond.methodLink "TuneWardModel" (225 : Nat) ({ cls := "TuneWardModel", name := "bitsOf", desc := "(I)I" } : Jvm.MethodName) ∈ wT := wT_of (inTb_5 59 rfl) rfl
theorem w1073 : Jvm.Cond.static ({ cls := "TuneWardModel", name := "bitsOf", desc := "(I)I" } : Jvm.MethodName) ∈ wT := wT_of (inTb_5 60 rfl) rfl
theorem w1074 : Jvm.Cond.code ({ cls := "TuneWardModel", name := "bitsOf", desc := "(I)I" } : Jvm.MethodName) prog_7_method_46_code (3 : Nat) (Option.some Jvm.ClassFile.FieldType.int) ∈ wT := wT_of (inTb_5 61 rfl) rfl
theorem w1075 : Jvm.Cond.methodLink "TuneWardModel" (230 : Nat) ({ cls := "TuneWardModel", name := "cost", desc := "()I" } : Jvm.MethodName) ∈ wT := wT_of (inTb_5 62 rfl) rfl
theorem w1077 : Jvm.Cond.instanceMethod ({ cls := "TuneWardModel", name := "cost", desc := "()I" } : Jvm.MethodName) ∈ wT := wT_of (inTb_5 64 rfl) rfl
theorem w1078 : Jvm.Cond.code ({ cls := "TuneWardModel", name := "cost", desc := "()I" } : Jvm.MethodName) prog_7_method_48_code (3 : Nat) (Option.some Jvm.ClassFile.FieldType.int) ∈ wT := wT_of (inTb_5 65 rfl) rfl
theorem w1079 : Jvm.Cond.methodLink "TuneWardLaw" (100 : Nat) ({ cls := "TuneWardModel", name := "first", desc := "(I)I" } : Jvm.MethodName) ∈ wT := wT_of (inTb_5 66 rfl) rfl
theorem w1080 : Jvm.Cond.instanceMethod ({ cls := "TuneWardModel", name := "first", desc := "(I)I" } : Jvm.MethodName) ∈ wT := wT_of (inTb_5 67 rfl) rfl
theorem w1081 : Jvm.Cond.selects "TuneWardModel" ({ cls := "TuneWardModel", name := "first", desc := "(I)I" } : Jvm.MethodName) ({ cls := "TuneWardModel", name := "first", desc := "(I)I" } : Jvm.MethodName) ∈ wT := wT_of (inTb_5 68 rfl) rfl
theorem w1082 : Jvm.Cond.code ({ cls := "TuneWardModel", name := "first", desc := "(I)I" } : Jvm.MethodName) prog_7_method_54_code (7 : Nat) (Option.some Jvm.ClassFile.FieldType.int) ∈ wT := wT_of (inTb_5 69 rfl) rfl
theorem w1083 : Jvm.Cond.constant "TuneWardModel" (233 : Nat) (1000000 : Int32) ∈ wT := wT_of (inTb_5 70 rfl) rfl
theorem w1084 : Jvm.Cond.methodLink "TuneWardLaw" (104 : Nat) ({ cls := "TuneWardModel", name := "best", desc := "(I)I" } : Jvm.MethodName) ∈ wT := wT_of (inTb_5 71 rfl) rfl
theorem w1085 : Jvm.Cond.instanceMethod ({ cls := "TuneWardModel", name := "best", desc := "(I)I" } : Jvm.MethodName) ∈ wT := wT_of (inTb_5 72 rfl) rfl
theorem w1086 : Jvm.Cond.selects "TuneWardModel" ({ cls := "TuneWardModel", name := "best", desc := "(I)I" } : Jvm.MethodName) ({ cls := "TuneWardModel", name := "best", desc := "(I)I" } : Jvm.MethodName) ∈ wT := wT_of (inTb_5 73 rfl) rfl
theorem w1087 : Jvm.Cond.code ({ cls := "TuneWardModel", name := "best", desc := "(I)I" } : Jvm.MethodName) prog_7_method_58_code (8 : Nat) (Option.some Jvm.ClassFile.FieldType.int) ∈ wT := wT_of (inTb_5 74 rfl) rfl
theorem w1088 : Jvm.Cond.constantLong "TuneWardModel" (234 : Nat) (10 : Int64) ∈ wT := wT_of (inTb_5 75 rfl) rfl
theorem w1089 : Jvm.Cond.methodLink "TuneWardModel" (236 : Nat) ({ cls := "TuneWardModel", name := "copies", desc := "(II)V" } : Jvm.MethodName) ∈ wT := wT_of (inTb_5 76 rfl) rfl
theorem w1091 : Jvm.Cond.instanceMethod ({ cls := "TuneWardModel", name := "copies", desc := "(II)V" } : Jvm.MethodName) ∈ wT := wT_of (inTb_5 78 rfl) rfl
theorem w1092 : Jvm.Cond.code ({ cls := "TuneWardModel", name := "copies", desc := "(II)V" } : Jvm.MethodName) prog_7_method_55_code (4 : Nat) (Option.none : Option Jvm.ClassFile.FieldType) ∈ wT := wT_of (inTb_5 79 rfl) rfl
theorem w1093 : Jvm.Cond.methodLink "TuneWardModel" (240 : Nat) ({ cls := "TuneWardModel", name := "powerOf", desc := "(II)I" } : Jvm.MethodName) ∈ wT := wT_of (inTb_5 80 rfl) rfl
theorem w1094 : Jvm.Cond.static ({ cls := "TuneWardModel", name := "powerOf", desc := "(II)I" } : Jvm.MethodName) ∈ wT := wT_of (inTb_5 81 rfl) rfl
theorem w1095 : Jvm.Cond.code ({ cls := "TuneWardModel", name := "powerOf", desc := "(II)I" } : Jvm.MethodName) prog_7_method_57_code (4 : Nat) (Option.some Jvm.ClassFile.FieldType.int) ∈ wT := wT_of (inTb_5 82 rfl) rfl
theorem w1096 : Jvm.Cond.methodLink "TuneWardModel" (243 : Nat) ({ cls := "TuneWardModel", name := "laysFigures", desc := "(IIII)V" } : Jvm.MethodName) ∈ wT := wT_of (inTb_5 83 rfl) rfl
theorem w1098 : Jvm.Cond.instanceMethod ({ cls := "TuneWardModel", name := "laysFigures", desc := "(IIII)V" } : Jvm.MethodName) ∈ wT := wT_of (inTb_5 85 rfl) rfl
theorem w1099 : Jvm.Cond.code ({ cls := "TuneWardModel", name := "laysFigures", desc := "(IIII)V" } : Jvm.MethodName) prog_7_method_56_code (7 : Nat) (Option.none : Option Jvm.ClassFile.FieldType) ∈ wT := wT_of (inTb_5 86 rfl) rfl
theorem w1100 : Jvm.Cond.methodLink "TuneWardModel" (247 : Nat) ({ cls := "TuneWardModel", name := "awayMany", desc := "()I" } : Jvm.MethodName) ∈ wT := wT_of (inTb_5 87 rfl) rfl
theorem w1102 : Jvm.Cond.instanceMethod ({ cls := "TuneWardModel", name := "awayMany", desc := "()I" } : Jvm.MethodName) ∈ wT := wT_of (inTb_5 89 rfl) rfl
theorem w1103 : Jvm.Cond.code ({ cls := "TuneWardModel", name := "awayMany", desc := "()I" } : Jvm.MethodName) prog_7_method_47_code (1 : Nat) (Option.some Jvm.ClassFile.FieldType.int) ∈ wT := wT_of (inTb_5 90 rfl) rfl
theorem w1104 : Jvm.Cond.methodLink "TuneWardLaw" (108 : Nat) ({ cls := "TuneWardModel", name := "apart", desc := "(I)I" } : Jvm.MethodName) ∈ wT := wT_of (inTb_5 91 rfl) rfl
theorem w1105 : Jvm.Cond.instanceMethod ({ cls := "TuneWardModel", name := "apart", desc := "(I)I" } : Jvm.MethodName) ∈ wT := wT_of (inTb_5 92 rfl) rfl
theorem w1106 : Jvm.Cond.selects "TuneWardModel" ({ cls := "TuneWardModel", name := "apart", desc := "(I)I" } : Jvm.MethodName) ({ cls := "TuneWardModel", name := "apart", desc := "(I)I" } : Jvm.MethodName) ∈ wT := wT_of (inTb_5 93 rfl) rfl
theorem w1107 : Jvm.Cond.code ({ cls := "TuneWardModel", name := "apart", desc := "(I)I" } : Jvm.MethodName) prog_7_method_59_code (6 : Nat) (Option.some Jvm.ClassFile.FieldType.int) ∈ wT := wT_of (inTb_5 94 rfl) rfl
theorem w1108 : Jvm.Cond.methodLink "TuneWardLaw" (112 : Nat) ({ cls := "TuneWardModel", name := "compose", desc := "(II)I" } : Jvm.MethodName) ∈ wT := wT_of (inTb_5 95 rfl) rfl
theorem w1109 : Jvm.Cond.instanceMethod ({ cls := "TuneWardModel", name := "compose", desc := "(II)I" } : Jvm.MethodName) ∈ wT := wT_of (inTb_5 96 rfl) rfl
theorem w1110 : Jvm.Cond.selects "TuneWardModel" ({ cls := "TuneWardModel", name := "compose", desc := "(II)I" } : Jvm.MethodName) ({ cls := "TuneWardModel", name := "compose", desc := "(II)I" } : Jvm.MethodName) ∈ wT := wT_of (inTb_5 97 rfl) rfl
theorem w1111 : Jvm.Cond.code ({ cls := "TuneWardModel", name := "compose", desc := "(II)I" } : Jvm.MethodName) prog_7_method_60_code (6 : Nat) (Option.some Jvm.ClassFile.FieldType.int) ∈ wT := wT_of (inTb_5 98 rfl) rfl
theorem w1112 : Jvm.Cond.constantLong "TuneWardModel" (250 : Nat) (144 : Int64) ∈ wT := wT_of (inTb_5 99 rfl) rfl
theorem w1113 : Jvm.Cond.methodLink "TuneWardLaw" (116 : Nat) ({ cls := "TuneWardModel", name := "bribe", desc := "(III)I" } : Jvm.MethodName) ∈ wT := wT_of (inTb_5 100 rfl) rfl
theorem w1114 : Jvm.Cond.instanceMethod ({ cls := "TuneWardModel", name := "bribe", desc := "(III)I" } : Jvm.MethodName) ∈ wT := wT_of (inTb_5 101 rfl) rfl
theorem w1115 : Jvm.Cond.selects "TuneWardModel" ({ cls := "TuneWardModel", name := "bribe", desc := "(III)I" } : Jvm.MethodName) ({ cls := "TuneWardModel", name := "bribe", desc := "(III)I" } : Jvm.MethodName) ∈ wT := wT_of (inTb_5 102 rfl) rfl
theorem w1116 : Jvm.Cond.code ({ cls := "TuneWardModel", name := "bribe", desc := "(III)I" } : Jvm.MethodName) prog_7_method_61_code (8 : Nat) (Option.some Jvm.ClassFile.FieldType.int) ∈ wT := wT_of (inTb_5 103 rfl) rfl
theorem w1117 : Jvm.Cond.methodLink "TuneWardLaw" (120 : Nat) ({ cls := "TuneWardModel", name := "teach", desc := "(I)I" } : Jvm.MethodName) ∈ wT := wT_of (inTb_5 104 rfl) rfl
theorem w1118 : Jvm.Cond.instanceMethod ({ cls := "TuneWardModel", name := "teach", desc := "(I)I" } : Jvm.MethodName) ∈ wT := wT_of (inTb_5 105 rfl) rfl
theorem w1119 : Jvm.Cond.selects "TuneWardModel" ({ cls := "TuneWardModel", name := "teach", desc := "(I)I" } : Jvm.MethodName) ({ cls := "TuneWardModel", name := "teach", desc := "(I)I" } : Jvm.MethodName) ∈ wT := wT_of (inTb_5 106 rfl) rfl
theorem w1120 : Jvm.Cond.code ({ cls := "TuneWardModel", name := "teach", desc := "(I)I" } : Jvm.MethodName) prog_7_method_62_code (7 : Nat) (Option.some Jvm.ClassFile.FieldType.int) ∈ wT := wT_of (inTb_5 107 rfl) rfl
theorem w1121 : Jvm.Cond.methodLink "TuneWardLaw" (125 : Nat) ({ cls := "TuneWardModel", name := "mean", desc := "(II)J" } : Jvm.MethodName) ∈ wT := wT_of (inTb_5 108 rfl) rfl
theorem w1122 : Jvm.Cond.instanceMethod ({ cls := "TuneWardModel", name := "mean", desc := "(II)J" } : Jvm.MethodName) ∈ wT := wT_of (inTb_5 109 rfl) rfl
theorem w1123 : Jvm.Cond.selects "TuneWardModel" ({ cls := "TuneWardModel", name := "mean", desc := "(II)J" } : Jvm.MethodName) ({ cls := "TuneWardModel", name := "mean", desc := "(II)J" } : Jvm.MethodName) ∈ wT := wT_of (inTb_5 110 rfl) rfl
theorem w1124 : Jvm.Cond.code ({ cls := "TuneWardModel", name := "mean", desc := "(II)J" } : Jvm.MethodName) prog_7_method_65_code (3 : Nat) (Option.some Jvm.ClassFile.FieldType.long) ∈ wT := wT_of (inTb_5 111 rfl) rfl
theorem w1125 : Jvm.Cond.methodLink "TuneWardModel" (256 : Nat) ({ cls := "TuneWardModel", name := "byStrings", desc := "(III)J" } : Jvm.MethodName) ∈ wT := wT_of (inTb_5 112 rfl) rfl
theorem w1127 : Jvm.Cond.instanceMethod ({ cls := "TuneWardModel", name := "byStrings", desc := "(III)J" } : Jvm.MethodName) ∈ wT := wT_of (inTb_5 114 rfl) rfl
theorem w1128 : Jvm.Cond.code ({ cls := "TuneWardModel", name := "byStrings", desc := "(III)J" } : Jvm.MethodName) prog_7_method_64_code (12 : Nat) (Option.some Jvm.ClassFile.FieldType.long) ∈ wT := wT_of (inTb_5 115 rfl) rfl
theorem w1129 : Jvm.Cond.methodLink "TuneWardModel" (252 : Nat) ({ cls := "TuneWardModel", name := "lowest", desc := "(JJI)J" } : Jvm.MethodName) ∈ wT := wT_of (inTb_5 116 rfl) rfl
theorem w1130 : Jvm.Cond.static ({ cls := "TuneWardModel", name := "lowest", desc := "(JJI)J" } : Jvm.MethodName) ∈ wT := wT_of (inTb_5 117 rfl) rfl
theorem w1131 : Jvm.Cond.code ({ cls := "TuneWardModel", name := "lowest", desc := "(JJI)J" } : Jvm.MethodName) prog_7_method_63_code (11 : Nat) (Option.some Jvm.ClassFile.FieldType.long) ∈ wT := wT_of (inTb_5 118 rfl) rfl
theorem w1132 : Jvm.Cond.constantLong "TuneWardModel" (260 : Nat) (-1 : Int64) ∈ wT := wT_of (inTb_5 119 rfl) rfl
theorem w1133 : Jvm.Cond.methodLink "TuneWardLaw" (130 : Nat) ({ cls := "TuneWardModel", name := "luck", desc := "(III)J" } : Jvm.MethodName) ∈ wT := wT_of (inTb_5 120 rfl) rfl
theorem w1134 : Jvm.Cond.instanceMethod ({ cls := "TuneWardModel", name := "luck", desc := "(III)J" } : Jvm.MethodName) ∈ wT := wT_of (inTb_5 121 rfl) rfl
theorem w1135 : Jvm.Cond.selects "TuneWardModel" ({ cls := "TuneWardModel", name := "luck", desc := "(III)J" } : Jvm.MethodName) ({ cls := "TuneWardModel", name := "luck", desc := "(III)J" } : Jvm.MethodName) ∈ wT := wT_of (inTb_5 122 rfl) rfl
theorem w1136 : Jvm.Cond.code ({ cls := "TuneWardModel", name := "luck", desc := "(III)J" } : Jvm.MethodName) prog_7_method_66_code (4 : Nat) (Option.some Jvm.ClassFile.FieldType.long) ∈ wT := wT_of (inTb_5 123 rfl) rfl
theorem w1137 : Jvm.Cond.methodLink "TuneWardLaw" (134 : Nat) ({ cls := "TuneWardModel", name := "see", desc := "(III)I" } : Jvm.MethodName) ∈ wT := wT_of (inTb_5 124 rfl) rfl
theorem w1138 : Jvm.Cond.instanceMethod ({ cls := "TuneWardModel", name := "see", desc := "(III)I" } : Jvm.MethodName) ∈ wT := wT_of (inTb_5 125 rfl) rfl
theorem w1139 : Jvm.Cond.selects "TuneWardModel" ({ cls := "TuneWardModel", name := "see", desc := "(III)I" } : Jvm.MethodName) ({ cls := "TuneWardModel", name := "see", desc := "(III)I" } : Jvm.MethodName) ∈ wT := wT_of (inTb_5 126 rfl) rfl
theorem w1140 : Jvm.Cond.code ({ cls := "TuneWardModel", name := "see", desc := "(III)I" } : Jvm.MethodName) prog_7_method_67_code (4 : Nat) (Option.some Jvm.ClassFile.FieldType.int) ∈ wT := wT_of (inTb_5 127 rfl) rfl
theorem w1141 : Jvm.Cond.methodLink "TuneWardLaw" (138 : Nat) ({ cls := "TuneWardModel", name := "forget", desc := "(I)I" } : Jvm.MethodName) ∈ wT := wT_of (inTb_5 128 rfl) rfl
theorem w1142 : Jvm.Cond.instanceMethod ({ cls := "TuneWardModel", name := "forget", desc := "(I)I" } : Jvm.MethodName) ∈ wT := wT_of (inTb_5 129 rfl) rfl
theorem w1143 : Jvm.Cond.selects "TuneWardModel" ({ cls := "TuneWardModel", name := "forget", desc := "(I)I" } : Jvm.MethodName) ({ cls := "TuneWardModel", name := "forget", desc := "(I)I" } : Jvm.MethodName) ∈ wT := wT_of (inTb_5 130 rfl) rfl
theorem w1144 : Jvm.Cond.code ({ cls := "TuneWardModel", name := "forget", desc := "(I)I" } : Jvm.MethodName) prog_7_method_68_code (3 : Nat) (Option.some Jvm.ClassFile.FieldType.int) ∈ wT := wT_of (inTb_5 131 rfl) rfl
theorem w1145 : Jvm.Cond.methodLink "TuneWardLaw" (142 : Nat) ({ cls := "TuneWardModel", name := "fits", desc := "(I)I" } : Jvm.MethodName) ∈ wT := wT_of (inTb_5 132 rfl) rfl
theorem w1146 : Jvm.Cond.instanceMethod ({ cls := "TuneWardModel", name := "fits", desc := "(I)I" } : Jvm.MethodName) ∈ wT := wT_of (inTb_5 133 rfl) rfl
theorem w1147 : Jvm.Cond.selects "TuneWardModel" ({ cls := "TuneWardModel", name := "fits", desc := "(I)I" } : Jvm.MethodName) ({ cls := "TuneWardModel", name := "fits", desc := "(I)I" } : Jvm.MethodName) ∈ wT := wT_of (inTb_5 134 rfl) rfl
theorem w1148 : Jvm.Cond.code ({ cls := "TuneWardModel", name := "fits", desc := "(I)I" } : Jvm.MethodName) prog_7_method_70_code (2 : Nat) (Option.some Jvm.ClassFile.FieldType.int) ∈ wT := wT_of (inTb_5 135 rfl) rfl
theorem w1149 : Jvm.Cond.methodLink "TuneWardModel" (262 : Nat) ({ cls := "TuneWardModel", name := "kindsOf", desc := "(I)I" } : Jvm.MethodName) ∈ wT := wT_of (inTb_5 136 rfl) rfl
theorem w1151 : Jvm.Cond.instanceMethod ({ cls := "TuneWardModel", name := "kindsOf", desc := "(I)I" } : Jvm.MethodName) ∈ wT := wT_of (inTb_5 138 rfl) rfl
theorem w1152 : Jvm.Cond.code ({ cls := "TuneWardModel", name := "kindsOf", desc := "(I)I" } : Jvm.MethodName) prog_7_method_69_code (6 : Nat) (Option.some Jvm.ClassFile.FieldType.int) ∈ wT := wT_of (inTb_5 139 rfl) rfl
theorem w1153 : Jvm.Cond.methodLink "TuneWardLaw" (146 : Nat) ({ cls := "TuneWardModel", name := "listen", desc := "(II)I" } : Jvm.MethodName) ∈ wT := wT_of (inTb_5 140 rfl) rfl
theorem w1154 : Jvm.Cond.instanceMethod ({ cls := "TuneWardModel", name := "listen", desc := "(II)I" } : Jvm.MethodName) ∈ wT := wT_of (inTb_5 141 rfl) rfl
theorem w1155 : Jvm.Cond.selects "TuneWardModel" ({ cls := "TuneWardModel", name := "listen", desc := "(II)I" } : Jvm.MethodName) ({ cls := "TuneWardModel", name := "listen", desc := "(II)I" } : Jvm.MethodName) ∈ wT := wT_of (inTb_5 142 rfl) rfl
theorem w1156 : Jvm.Cond.code ({ cls := "TuneWardModel", name := "listen", desc := "(II)I" } : Jvm.MethodName) prog_7_method_71_code (11 : Nat) (Option.some Jvm.ClassFile.FieldType.int) ∈ wT := wT_of (inTb_5 143 rfl) rfl
theorem w1157 : Jvm.Cond.methodLink "TuneWardLaw" (150 : Nat) ({ cls := "TuneWardModel", name := "drift", desc := "(III)I" } : Jvm.MethodName) ∈ wT := wT_of (inTb_5 144 rfl) rfl
theorem w1158 : Jvm.Cond.instanceMethod ({ cls := "TuneWardModel", name := "drift", desc := "(III)I" } : Jvm.MethodName) ∈ wT := wT_of (inTb_5 145 rfl) rfl
theorem w1159 : Jvm.Cond.selects "TuneWardModel" ({ cls := "TuneWardModel", name := "drift", desc := "(III)I" } : Jvm.MethodName) ({ cls := "TuneWardModel", name := "drift", desc := "(III)I" } : Jvm.MethodName) ∈ wT := wT_of (inTb_5 146 rfl) rfl
theorem w1160 : Jvm.Cond.code ({ cls := "TuneWardModel", name := "drift", desc := "(III)I" } : Jvm.MethodName) prog_7_method_73_code (10 : Nat) (Option.some Jvm.ClassFile.FieldType.int) ∈ wT := wT_of (inTb_5 147 rfl) rfl
theorem w1161 : Jvm.Cond.constantLong "TuneWardModel" (269 : Nat) (20 : Int64) ∈ wT := wT_of (inTb_5 148 rfl) rfl
theorem w1162 : Jvm.Cond.methodLink "TuneWardModel" (271 : Nat) ({ cls := "TuneWardModel", name := "draws", desc := "()I" } : Jvm.MethodName) ∈ wT := wT_of (inTb_5 149 rfl) rfl
theorem w1164 : Jvm.Cond.instanceMethod ({ cls := "TuneWardModel", name := "draws", desc := "()I" } : Jvm.MethodName) ∈ wT := wT_of (inTb_5 151 rfl) rfl
theorem w1165 : Jvm.Cond.code ({ cls := "TuneWardModel", name := "draws", desc := "()I" } : Jvm.MethodName) prog_7_method_72_code (1 : Nat) (Option.some Jvm.ClassFile.FieldType.int) ∈ wT := wT_of (inTb_5 152 rfl) rfl
theorem w1166 : Jvm.Cond.constant "TuneWardModel" (268 : Nat) (1103515245 : Int32) ∈ wT := wT_of (inTb_5 153 rfl) rfl
theorem w1167 : Jvm.Cond.methodLink "TuneWardLaw" (154 : Nat) ({ cls := "TuneWardModel", name := "keep", desc := "(I)I" } : Jvm.MethodName) ∈ wT := wT_of (inTb_5 154 rfl) rfl
theorem w1168 : Jvm.Cond.instanceMethod ({ cls := "TuneWardModel", name := "keep", desc := "(I)I" } : Jvm.MethodName) ∈ wT := wT_of (inTb_5 155 rfl) rfl
theorem w1169 : Jvm.Cond.selects "TuneWardModel" ({ cls := "TuneWardModel", name := "keep", desc := "(I)I" } : Jvm.MethodName) ({ cls := "TuneWardModel", name := "keep", desc := "(I)I" } : Jvm.MethodName) ∈ wT := wT_of (inTb_5 156 rfl) rfl
theorem w1170 : Jvm.Cond.code ({ cls := "TuneWardModel", name := "keep", desc := "(I)I" } : Jvm.MethodName) prog_7_method_75_code (3 : Nat) (Option.some Jvm.ClassFile.FieldType.int) ∈ wT := wT_of (inTb_5 157 rfl) rfl
theorem w1171 : Jvm.Cond.methodLink "TuneWardLaw" (158 : Nat) ({ cls := "TuneWardModel", name := "back", desc := "(I)I" } : Jvm.MethodName) ∈ wT := wT_of (inTb_5 158 rfl) rfl
theorem w1172 : Jvm.Cond.instanceMethod ({ cls := "TuneWardModel", name := "back", desc := "(I)I" } : Jvm.MethodName) ∈ wT := wT_of (inTb_5 159 rfl) rfl
theorem w1173 : Jvm.Cond.selects "TuneWardModel" ({ cls := "TuneWardModel", name := "back", desc := "(I)I" } : Jvm.MethodName) ({ cls := "TuneWardModel", name := "back", desc := "(I)I" } : Jvm.MethodName) ∈ wT := wT_of (inTb_5 160 rfl) rfl
theorem w1174 : Jvm.Cond.code ({ cls := "TuneWardModel", name := "back", desc := "(I)I" } : Jvm.MethodName) prog_7_method_76_code (2 : Nat) (Option.some Jvm.ClassFile.FieldType.int) ∈ wT := wT_of (inTb_5 161 rfl) rfl
theorem w1175 : Jvm.Cond.methodLink "TuneWardModel" (274 : Nat) ({ cls := "TuneWardModel", name := "noteMany", desc := "()I" } : Jvm.MethodName) ∈ wT := wT_of (inTb_5 162 rfl) rfl
theorem w1177 : Jvm.Cond.instanceMethod ({ cls := "TuneWardModel", name := "noteMany", desc := "()I" } : Jvm.MethodName) ∈ wT := wT_of (inTb_5 164 rfl) rfl
theorem w1178 : Jvm.Cond.code ({ cls := "TuneWardModel", name := "noteMany", desc := "()I" } : Jvm.MethodName) prog_7_method_74_code (3 : Nat) (Option.some Jvm.ClassFile.FieldType.int) ∈ wT := wT_of (inTb_5 165 rfl) rfl
theorem w1179 : Jvm.Cond.methodLink "TuneWardLaw" (162 : Nat) ({ cls := "TuneWardModel", name := "sheet", desc := "(III)I" } : Jvm.MethodName) ∈ wT := wT_of (inTb_5 166 rfl) rfl
theorem w1180 : Jvm.Cond.instanceMethod ({ cls := "TuneWardModel", name := "sheet", desc := "(III)I" } : Jvm.MethodName) ∈ wT := wT_of (inTb_5 167 rfl) rfl
theorem w1181 : Jvm.Cond.selects "TuneWardModel" ({ cls := "TuneWardModel", name := "sheet", desc := "(III)I" } : Jvm.MethodName) ({ cls := "TuneWardModel", name := "sheet", desc := "(III)I" } : Jvm.MethodName) ∈ wT := wT_of (inTb_5 168 rfl) rfl
theorem w1182 : Jvm.Cond.code ({ cls := "TuneWardModel", name := "sheet", desc := "(III)I" } : Jvm.MethodName) prog_7_method_77_code (5 : Nat) (Option.some Jvm.ClassFile.FieldType.int) ∈ wT := wT_of (inTb_5 169 rfl) rfl
theorem w1183 : Jvm.Cond.methodLink "TuneWardLaw" (166 : Nat) ({ cls := "TuneWardModel", name := "lay", desc := "(III)I" } : Jvm.MethodName) ∈ wT := wT_of (inTb_5 170 rfl) rfl
theorem w1184 : Jvm.Cond.instanceMethod ({ cls := "TuneWardModel", name := "lay", desc := "(III)I" } : Jvm.MethodName) ∈ wT := wT_of (inTb_5 171 rfl) rfl
theorem w1185 : Jvm.Cond.selects "TuneWardModel" ({ cls := "TuneWardModel", name := "lay", desc := "(III)I" } : Jvm.MethodName) ({ cls := "TuneWardModel", name := "lay", desc := "(III)I" } : Jvm.MethodName) ∈ wT := wT_of (inTb_5 172 rfl) rfl
theorem w1186 : Jvm.Cond.code ({ cls := "TuneWardModel", name := "lay", desc := "(III)I" } : Jvm.MethodName) prog_7_method_78_code (4 : Nat) (Option.some Jvm.ClassFile.FieldType.int) ∈ wT := wT_of (inTb_5 173 rfl) rfl
theorem w1187 : Jvm.Cond.methodLink "TuneWardLaw" (171 : Nat) ({ cls := "TuneWardModel", name := "read", desc := "(IIII)I" } : Jvm.MethodName) ∈ wT := wT_of (inTb_5 174 rfl) rfl
theorem w1188 : Jvm.Cond.instanceMethod ({ cls := "TuneWardModel", name := "read", desc := "(IIII)I" } : Jvm.MethodName) ∈ wT := wT_of (inTb_5 175 rfl) rfl
theorem w1189 : Jvm.Cond.selects "TuneWardModel" ({ cls := "TuneWardModel", name := "read", desc := "(IIII)I" } : Jvm.MethodName) ({ cls := "TuneWardModel", name := "read", desc := "(IIII)I" } : Jvm.MethodName) ∈ wT := wT_of (inTb_5 176 rfl) rfl
theorem w1190 : Jvm.Cond.code ({ cls := "TuneWardModel", name := "read", desc := "(IIII)I" } : Jvm.MethodName) prog_7_method_79_code (9 : Nat) (Option.some Jvm.ClassFile.FieldType.int) ∈ wT := wT_of (inTb_5 177 rfl) rfl
theorem w1191 : Jvm.Cond.methodLink "TuneWardLaw" (175 : Nat) ({ cls := "TuneWardModel", name := "torn", desc := "()I" } : Jvm.MethodName) ∈ wT := wT_of (inTb_5 178 rfl) rfl
theorem w1192 : Jvm.Cond.instanceMethod ({ cls := "TuneWardModel", name := "torn", desc := "()I" } : Jvm.MethodName) ∈ wT := wT_of (inTb_5 179 rfl) rfl
theorem w1193 : Jvm.Cond.selects "TuneWardModel" ({ cls := "TuneWardModel", name := "torn", desc := "()I" } : Jvm.MethodName) ({ cls := "TuneWardModel", name := "torn", desc := "()I" } : Jvm.MethodName) ∈ wT := wT_of (inTb_5 180 rfl) rfl
theorem w1194 : Jvm.Cond.code ({ cls := "TuneWardModel", name := "torn", desc := "()I" } : Jvm.MethodName) prog_7_method_80_code (1 : Nat) (Option.some Jvm.ClassFile.FieldType.int) ∈ wT := wT_of (inTb_5 181 rfl) rfl
theorem w1195 : Jvm.Cond.methodLink "TuneWardLaw" (179 : Nat) ({ cls := "TuneWardModel", name := "count", desc := "(I)I" } : Jvm.MethodName) ∈ wT := wT_of (inTb_5 182 rfl) rfl
theorem w1196 : Jvm.Cond.instanceMethod ({ cls := "TuneWardModel", name := "count", desc := "(I)I" } : Jvm.MethodName) ∈ wT := wT_of (inTb_5 183 rfl) rfl
theorem w1197 : Jvm.Cond.selects "TuneWardModel" ({ cls := "TuneWardModel", name := "count", desc := "(I)I" } : Jvm.MethodName) ({ cls := "TuneWardModel", name := "count", desc := "(I)I" } : Jvm.MethodName) ∈ wT := wT_of (inTb_5 184 rfl) rfl
theorem w1198 : Jvm.Cond.code ({ cls := "TuneWardModel", name := "count", desc := "(I)I" } : Jvm.MethodName) prog_7_method_81_code (4 : Nat) (Option.some Jvm.ClassFile.FieldType.int) ∈ wT := wT_of (inTb_5 185 rfl) rfl
theorem w1199 : Jvm.Cond.fieldLink "java/lang/String" (9 : Nat) "java/lang/String" "value" "[B" ∈ wT := wT_of (inTb_5 186 rfl) rfl
theorem w1200 : Jvm.Cond.fieldLink "java/lang/String" (15 : Nat) "java/lang/String" "coder" "B" ∈ wT := wT_of (inTb_5 187 rfl) rfl
