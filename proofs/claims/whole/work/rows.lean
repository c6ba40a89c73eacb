section
/-- a private method of a class that the tables say can be made, by its rows of tables_1 -/
def lw_okq (q : MethodName × Nat) : Prop := (q.1.cls ≠ "java/lang/invoke/MethodHandle" ∧ q.1.cls ≠ "java/lang/invoke/VarHandle") ∧ Cond.instantiable q.1.cls q.2 ∈ tables_1 ∧ Cond.privateMethod q.1 ∈ tables_1 ∧ Cond.instanceMethod q.1 ∈ tables_1
theorem lw_p0 : lw_okq (⟨"NavyOfCats", "finding", "(I)I"⟩, 9) := ⟨⟨by decide +kernel, by decide +kernel⟩, List.mem_of_getElem? (i := 16) (by decide +kernel), List.mem_of_getElem? (i := 206) (by decide +kernel), List.mem_of_getElem? (i := 207) (by decide +kernel)⟩
theorem lw_p1 : lw_okq (⟨"NavyOfCats", "isCat", "(I)Z"⟩, 9) := ⟨⟨by decide +kernel, by decide +kernel⟩, List.mem_of_getElem? (i := 16) (by decide +kernel), List.mem_of_getElem? (i := 219) (by decide +kernel), List.mem_of_getElem? (i := 220) (by decide +kernel)⟩
theorem lw_p2 : lw_okq (⟨"NavyOfCats", "isSetOfCats", "(I)Z"⟩, 9) := ⟨⟨by decide +kernel, by decide +kernel⟩, List.mem_of_getElem? (i := 16) (by decide +kernel), List.mem_of_getElem? (i := 292) (by decide +kernel), List.mem_of_getElem? (i := 293) (by decide +kernel)⟩
theorem lw_p3 : lw_okq (⟨"NavyOfCats", "movesPlaces", "(I)Z"⟩, 9) := ⟨⟨by decide +kernel, by decide +kernel⟩, List.mem_of_getElem? (i := 16) (by decide +kernel), List.mem_of_getElem? (i := 379) (by decide +kernel), List.mem_of_getElem? (i := 380) (by decide +kernel)⟩
theorem lw_p4 : lw_okq (⟨"NavyOfCats", "quickestOrder", "(I)I"⟩, 9) := ⟨⟨by decide +kernel, by decide +kernel⟩, List.mem_of_getElem? (i := 16) (by decide +kernel), List.mem_of_getElem? (i := 391) (by decide +kernel), List.mem_of_getElem? (i := 392) (by decide +kernel)⟩
theorem lw_p5 : lw_okq (⟨"NavyOfCats", "readAhead", "(II)V"⟩, 9) := ⟨⟨by decide +kernel, by decide +kernel⟩, List.mem_of_getElem? (i := 16) (by decide +kernel), List.mem_of_getElem? (i := 395) (by decide +kernel), List.mem_of_getElem? (i := 396) (by decide +kernel)⟩
theorem lw_p6 : lw_okq (⟨"NavyOfCats", "landsBehind", "(III)I"⟩, 9) := ⟨⟨by decide +kernel, by decide +kernel⟩, List.mem_of_getElem? (i := 16) (by decide +kernel), List.mem_of_getElem? (i := 399) (by decide +kernel), List.mem_of_getElem? (i := 400) (by decide +kernel)⟩
theorem lw_p7 : lw_okq (⟨"NavyOfCats", "endsAt", "(II)I"⟩, 9) := ⟨⟨by decide +kernel, by decide +kernel⟩, List.mem_of_getElem? (i := 16) (by decide +kernel), List.mem_of_getElem? (i := 412) (by decide +kernel), List.mem_of_getElem? (i := 413) (by decide +kernel)⟩
theorem lw_p8 : lw_okq (⟨"NavyOfCats", "surestOrder", "(I)I"⟩, 9) := ⟨⟨by decide +kernel, by decide +kernel⟩, List.mem_of_getElem? (i := 16) (by decide +kernel), List.mem_of_getElem? (i := 420) (by decide +kernel), List.mem_of_getElem? (i := 421) (by decide +kernel)⟩
theorem lw_p9 : lw_okq (⟨"NavyOfCats", "windsThatLand", "(II)I"⟩, 9) := ⟨⟨by decide +kernel, by decide +kernel⟩, List.mem_of_getElem? (i := 16) (by decide +kernel), List.mem_of_getElem? (i := 424) (by decide +kernel), List.mem_of_getElem? (i := 425) (by decide +kernel)⟩
theorem lw_p10 : lw_okq (⟨"NavyOfCats", "bestCrew", "(I)I"⟩, 9) := ⟨⟨by decide +kernel, by decide +kernel⟩, List.mem_of_getElem? (i := 16) (by decide +kernel), List.mem_of_getElem? (i := 440) (by decide +kernel), List.mem_of_getElem? (i := 441) (by decide +kernel)⟩
theorem lw_p11 : lw_okq (⟨"NavyOfCats", "wrongLog", "(IZ)I"⟩, 9) := ⟨⟨by decide +kernel, by decide +kernel⟩, List.mem_of_getElem? (i := 16) (by decide +kernel), List.mem_of_getElem? (i := 478) (by decide +kernel), List.mem_of_getElem? (i := 479) (by decide +kernel)⟩
theorem lw_p12 : lw_okq (⟨"NavyOfCats", "wrongSheet", "(I)I"⟩, 9) := ⟨⟨by decide +kernel, by decide +kernel⟩, List.mem_of_getElem? (i := 16) (by decide +kernel), List.mem_of_getElem? (i := 482) (by decide +kernel), List.mem_of_getElem? (i := 483) (by decide +kernel)⟩
theorem lw_p13 : lw_okq (⟨"NavyOfCats", "sitsAsTold", "(LNavyOfCats$Sheet;III)Z"⟩, 9) := ⟨⟨by decide +kernel, by decide +kernel⟩, List.mem_of_getElem? (i := 16) (by decide +kernel), List.mem_of_getElem? (i := 494) (by decide +kernel), List.mem_of_getElem? (i := 495) (by decide +kernel)⟩
theorem lw_p14 : lw_okq (⟨"NavyOfCats", "goesAsTold", "(LNavyOfCats$Sheet;II)Z"⟩, 9) := ⟨⟨by decide +kernel, by decide +kernel⟩, List.mem_of_getElem? (i := 16) (by decide +kernel), List.mem_of_getElem? (i := 507) (by decide +kernel), List.mem_of_getElem? (i := 508) (by decide +kernel)⟩
theorem lw_p15 : lw_okq (⟨"NavyOfCatsModel", "finding", "(I)I"⟩, 26) := ⟨⟨by decide +kernel, by decide +kernel⟩, List.mem_of_getElem? (i := 789) (by decide +kernel), List.mem_of_getElem? (i := 894) (by decide +kernel), List.mem_of_getElem? (i := 895) (by decide +kernel)⟩
def lw_privs_1 : List (MethodName × Nat) := [(⟨"NavyOfCats", "finding", "(I)I"⟩, 9), (⟨"NavyOfCats", "isCat", "(I)Z"⟩, 9), (⟨"NavyOfCats", "isSetOfCats", "(I)Z"⟩, 9), (⟨"NavyOfCats", "movesPlaces", "(I)Z"⟩, 9), (⟨"NavyOfCats", "quickestOrder", "(I)I"⟩, 9), (⟨"NavyOfCats", "readAhead", "(II)V"⟩, 9), (⟨"NavyOfCats", "landsBehind", "(III)I"⟩, 9), (⟨"NavyOfCats", "endsAt", "(II)I"⟩, 9), (⟨"NavyOfCats", "surestOrder", "(I)I"⟩, 9), (⟨"NavyOfCats", "windsThatLand", "(II)I"⟩, 9), (⟨"NavyOfCats", "bestCrew", "(I)I"⟩, 9), (⟨"NavyOfCats", "wrongLog", "(IZ)I"⟩, 9), (⟨"NavyOfCats", "wrongSheet", "(I)I"⟩, 9), (⟨"NavyOfCats", "sitsAsTold", "(LNavyOfCats$Sheet;III)Z"⟩, 9), (⟨"NavyOfCats", "goesAsTold", "(LNavyOfCats$Sheet;II)Z"⟩, 9), (⟨"NavyOfCatsModel", "finding", "(I)I"⟩, 26)]
theorem lw_r1 : ∀ q ∈ lw_privs_1, lw_okq q := List.forall_mem_cons.mpr ⟨lw_p0, List.forall_mem_cons.mpr ⟨lw_p1, List.forall_mem_cons.mpr ⟨lw_p2, List.forall_mem_cons.mpr ⟨lw_p3, List.forall_mem_cons.mpr ⟨lw_p4, List.forall_mem_cons.mpr ⟨lw_p5, List.forall_mem_cons.mpr ⟨lw_p6, List.forall_mem_cons.mpr ⟨lw_p7, List.forall_mem_cons.mpr ⟨lw_p8, List.forall_mem_cons.mpr ⟨lw_p9, List.forall_mem_cons.mpr ⟨lw_p10, List.forall_mem_cons.mpr ⟨lw_p11, List.forall_mem_cons.mpr ⟨lw_p12, List.forall_mem_cons.mpr ⟨lw_p13, List.forall_mem_cons.mpr ⟨lw_p14, List.forall_mem_cons.mpr ⟨lw_p15, fun _ h => absurd h List.not_mem_nil⟩⟩⟩⟩⟩⟩⟩⟩⟩⟩⟩⟩⟩⟩⟩⟩
theorem lw_p16 : lw_okq (⟨"NavyOfCatsModel", "comes", "(III)I"⟩, 26) := ⟨⟨by decide +kernel, by decide +kernel⟩, List.mem_of_getElem? (i := 789) (by decide +kernel), List.mem_of_getElem? (i := 899) (by decide +kernel), List.mem_of_getElem? (i := 900) (by decide +kernel)⟩
theorem lw_p17 : lw_okq (⟨"NavyOfCatsModel", "isCat", "(I)Z"⟩, 26) := ⟨⟨by decide +kernel, by decide +kernel⟩, List.mem_of_getElem? (i := 789) (by decide +kernel), List.mem_of_getElem? (i := 910) (by decide +kernel), List.mem_of_getElem? (i := 911) (by decide +kernel)⟩
theorem lw_p18 : lw_okq (⟨"NavyOfCatsModel", "catIs", "(II)I"⟩, 26) := ⟨⟨by decide +kernel, by decide +kernel⟩, List.mem_of_getElem? (i := 789) (by decide +kernel), List.mem_of_getElem? (i := 914) (by decide +kernel), List.mem_of_getElem? (i := 915) (by decide +kernel)⟩
theorem lw_p19 : lw_okq (⟨"NavyOfCatsModel", "errs", "(I)I"⟩, 26) := ⟨⟨by decide +kernel, by decide +kernel⟩, List.mem_of_getElem? (i := 789) (by decide +kernel), List.mem_of_getElem? (i := 918) (by decide +kernel), List.mem_of_getElem? (i := 919) (by decide +kernel)⟩
theorem lw_p20 : lw_okq (⟨"NavyOfCatsModel", "become", "(II)I"⟩, 26) := ⟨⟨by decide +kernel, by decide +kernel⟩, List.mem_of_getElem? (i := 789) (by decide +kernel), List.mem_of_getElem? (i := 929) (by decide +kernel), List.mem_of_getElem? (i := 930) (by decide +kernel)⟩
theorem lw_p21 : lw_okq (⟨"NavyOfCatsModel", "reads", "(I)I"⟩, 26) := ⟨⟨by decide +kernel, by decide +kernel⟩, List.mem_of_getElem? (i := 789) (by decide +kernel), List.mem_of_getElem? (i := 940) (by decide +kernel), List.mem_of_getElem? (i := 941) (by decide +kernel)⟩
theorem lw_p22 : lw_okq (⟨"NavyOfCatsModel", "shipIs", "(II)I"⟩, 26) := ⟨⟨by decide +kernel, by decide +kernel⟩, List.mem_of_getElem? (i := 789) (by decide +kernel), List.mem_of_getElem? (i := 944) (by decide +kernel), List.mem_of_getElem? (i := 945) (by decide +kernel)⟩
theorem lw_p23 : lw_okq (⟨"NavyOfCatsModel", "meanOf", "(I)I"⟩, 26) := ⟨⟨by decide +kernel, by decide +kernel⟩, List.mem_of_getElem? (i := 789) (by decide +kernel), List.mem_of_getElem? (i := 951) (by decide +kernel), List.mem_of_getElem? (i := 952) (by decide +kernel)⟩
theorem lw_p24 : lw_okq (⟨"NavyOfCatsModel", "course", "(I)I"⟩, 26) := ⟨⟨by decide +kernel, by decide +kernel⟩, List.mem_of_getElem? (i := 789) (by decide +kernel), List.mem_of_getElem? (i := 958) (by decide +kernel), List.mem_of_getElem? (i := 959) (by decide +kernel)⟩
theorem lw_p25 : lw_okq (⟨"NavyOfCatsModel", "goesTo", "(I)I"⟩, 26) := ⟨⟨by decide +kernel, by decide +kernel⟩, List.mem_of_getElem? (i := 789) (by decide +kernel), List.mem_of_getElem? (i := 962) (by decide +kernel), List.mem_of_getElem? (i := 963) (by decide +kernel)⟩
theorem lw_p26 : lw_okq (⟨"NavyOfCatsModel", "isLanded", "(I)Z"⟩, 26) := ⟨⟨by decide +kernel, by decide +kernel⟩, List.mem_of_getElem? (i := 789) (by decide +kernel), List.mem_of_getElem? (i := 966) (by decide +kernel), List.mem_of_getElem? (i := 967) (by decide +kernel)⟩
theorem lw_p27 : lw_okq (⟨"NavyOfCatsModel", "isIsland", "(I)Z"⟩, 26) := ⟨⟨by decide +kernel, by decide +kernel⟩, List.mem_of_getElem? (i := 789) (by decide +kernel), List.mem_of_getElem? (i := 970) (by decide +kernel), List.mem_of_getElem? (i := 971) (by decide +kernel)⟩
theorem lw_p28 : lw_okq (⟨"NavyOfCatsModel", "beside", "(II)I"⟩, 26) := ⟨⟨by decide +kernel, by decide +kernel⟩, List.mem_of_getElem? (i := 789) (by decide +kernel), List.mem_of_getElem? (i := 974) (by decide +kernel), List.mem_of_getElem? (i := 975) (by decide +kernel)⟩
theorem lw_p29 : lw_okq (⟨"NavyOfCatsModel", "areCats", "(I)Z"⟩, 26) := ⟨⟨by decide +kernel, by decide +kernel⟩, List.mem_of_getElem? (i := 789) (by decide +kernel), List.mem_of_getElem? (i := 985) (by decide +kernel), List.mem_of_getElem? (i := 986) (by decide +kernel)⟩
theorem lw_p30 : lw_okq (⟨"NavyOfCatsModel", "watches", "(I)V"⟩, 26) := ⟨⟨by decide +kernel, by decide +kernel⟩, List.mem_of_getElem? (i := 789) (by decide +kernel), List.mem_of_getElem? (i := 1012) (by decide +kernel), List.mem_of_getElem? (i := 1013) (by decide +kernel)⟩
theorem lw_p31 : lw_okq (⟨"NavyOfCatsModel", "watch", "()V"⟩, 26) := ⟨⟨by decide +kernel, by decide +kernel⟩, List.mem_of_getElem? (i := 789) (by decide +kernel), List.mem_of_getElem? (i := 1016) (by decide +kernel), List.mem_of_getElem? (i := 1017) (by decide +kernel)⟩
def lw_privs_2 : List (MethodName × Nat) := [(⟨"NavyOfCatsModel", "comes", "(III)I"⟩, 26), (⟨"NavyOfCatsModel", "isCat", "(I)Z"⟩, 26), (⟨"NavyOfCatsModel", "catIs", "(II)I"⟩, 26), (⟨"NavyOfCatsModel", "errs", "(I)I"⟩, 26), (⟨"NavyOfCatsModel", "become", "(II)I"⟩, 26), (⟨"NavyOfCatsModel", "reads", "(I)I"⟩, 26), (⟨"NavyOfCatsModel", "shipIs", "(II)I"⟩, 26), (⟨"NavyOfCatsModel", "meanOf", "(I)I"⟩, 26), (⟨"NavyOfCatsModel", "course", "(I)I"⟩, 26), (⟨"NavyOfCatsModel", "goesTo", "(I)I"⟩, 26), (⟨"NavyOfCatsModel", "isLanded", "(I)Z"⟩, 26), (⟨"NavyOfCatsModel", "isIsland", "(I)Z"⟩, 26), (⟨"NavyOfCatsModel", "beside", "(II)I"⟩, 26), (⟨"NavyOfCatsModel", "areCats", "(I)Z"⟩, 26), (⟨"NavyOfCatsModel", "watches", "(I)V"⟩, 26), (⟨"NavyOfCatsModel", "watch", "()V"⟩, 26)]
theorem lw_r2 : ∀ q ∈ lw_privs_2, lw_okq q := List.forall_mem_cons.mpr ⟨lw_p16, List.forall_mem_cons.mpr ⟨lw_p17, List.forall_mem_cons.mpr ⟨lw_p18, List.forall_mem_cons.mpr ⟨lw_p19, List.forall_mem_cons.mpr ⟨lw_p20, List.forall_mem_cons.mpr ⟨lw_p21, List.forall_mem_cons.mpr ⟨lw_p22, List.forall_mem_cons.mpr ⟨lw_p23, List.forall_mem_cons.mpr ⟨lw_p24, List.forall_mem_cons.mpr ⟨lw_p25, List.forall_mem_cons.mpr ⟨lw_p26, List.forall_mem_cons.mpr ⟨lw_p27, List.forall_mem_cons.mpr ⟨lw_p28, List.forall_mem_cons.mpr ⟨lw_p29, List.forall_mem_cons.mpr ⟨lw_p30, List.forall_mem_cons.mpr ⟨lw_p31, fun _ h => absurd h List.not_mem_nil⟩⟩⟩⟩⟩⟩⟩⟩⟩⟩⟩⟩⟩⟩⟩⟩
theorem lw_p32 : lw_okq (⟨"NavyOfCatsModel", "landed", "()I"⟩, 26) := ⟨⟨by decide +kernel, by decide +kernel⟩, List.mem_of_getElem? (i := 789) (by decide +kernel), List.mem_of_getElem? (i := 1021) (by decide +kernel), List.mem_of_getElem? (i := 1022) (by decide +kernel)⟩
theorem lw_p33 : lw_okq (⟨"NavyOfCatsModel", "hungriest", "()I"⟩, 26) := ⟨⟨by decide +kernel, by decide +kernel⟩, List.mem_of_getElem? (i := 789) (by decide +kernel), List.mem_of_getElem? (i := 1033) (by decide +kernel), List.mem_of_getElem? (i := 1034) (by decide +kernel)⟩
theorem lw_p34 : lw_okq (⟨"NavyOfCatsModel", "islands", "()I"⟩, 26) := ⟨⟨by decide +kernel, by decide +kernel⟩, List.mem_of_getElem? (i := 789) (by decide +kernel), List.mem_of_getElem? (i := 1038) (by decide +kernel), List.mem_of_getElem? (i := 1039) (by decide +kernel)⟩
theorem lw_p35 : lw_okq (⟨"NavyOfCatsModel", "aheadOf", "(II)I"⟩, 26) := ⟨⟨by decide +kernel, by decide +kernel⟩, List.mem_of_getElem? (i := 789) (by decide +kernel), List.mem_of_getElem? (i := 1046) (by decide +kernel), List.mem_of_getElem? (i := 1047) (by decide +kernel)⟩
theorem lw_p36 : lw_okq (⟨"NavyOfCatsModel", "putBack", "(I)I"⟩, 26) := ⟨⟨by decide +kernel, by decide +kernel⟩, List.mem_of_getElem? (i := 789) (by decide +kernel), List.mem_of_getElem? (i := 1053) (by decide +kernel), List.mem_of_getElem? (i := 1054) (by decide +kernel)⟩
theorem lw_p37 : lw_okq (⟨"NavyOfCatsModel", "landsIn", "(II)I"⟩, 26) := ⟨⟨by decide +kernel, by decide +kernel⟩, List.mem_of_getElem? (i := 789) (by decide +kernel), List.mem_of_getElem? (i := 1061) (by decide +kernel), List.mem_of_getElem? (i := 1062) (by decide +kernel)⟩
theorem lw_p38 : lw_okq (⟨"NavyOfCatsModel", "told", "(I)I"⟩, 26) := ⟨⟨by decide +kernel, by decide +kernel⟩, List.mem_of_getElem? (i := 789) (by decide +kernel), List.mem_of_getElem? (i := 1066) (by decide +kernel), List.mem_of_getElem? (i := 1067) (by decide +kernel)⟩
theorem lw_p39 : lw_okq (⟨"NavyOfCatsModel", "isStill", "()Z"⟩, 26) := ⟨⟨by decide +kernel, by decide +kernel⟩, List.mem_of_getElem? (i := 789) (by decide +kernel), List.mem_of_getElem? (i := 1079) (by decide +kernel), List.mem_of_getElem? (i := 1080) (by decide +kernel)⟩
theorem lw_p40 : lw_okq (⟨"NavyOfCatsModel", "satBehind", "(II)I"⟩, 26) := ⟨⟨by decide +kernel, by decide +kernel⟩, List.mem_of_getElem? (i := 789) (by decide +kernel), List.mem_of_getElem? (i := 1087) (by decide +kernel), List.mem_of_getElem? (i := 1088) (by decide +kernel)⟩
theorem lw_p41 : lw_okq (⟨"NavyOfCatsModel", "bestOrder", "(I)I"⟩, 26) := ⟨⟨by decide +kernel, by decide +kernel⟩, List.mem_of_getElem? (i := 789) (by decide +kernel), List.mem_of_getElem? (i := 1095) (by decide +kernel), List.mem_of_getElem? (i := 1096) (by decide +kernel)⟩
theorem lw_p42 : lw_okq (⟨"NavyOfCatsModel", "soonestWith", "(III)I"⟩, 26) := ⟨⟨by decide +kernel, by decide +kernel⟩, List.mem_of_getElem? (i := 789) (by decide +kernel), List.mem_of_getElem? (i := 1099) (by decide +kernel), List.mem_of_getElem? (i := 1100) (by decide +kernel)⟩
theorem lw_p43 : lw_okq (⟨"NavyOfCatsModel", "orNone", "(I)I"⟩, 26) := ⟨⟨by decide +kernel, by decide +kernel⟩, List.mem_of_getElem? (i := 789) (by decide +kernel), List.mem_of_getElem? (i := 1103) (by decide +kernel), List.mem_of_getElem? (i := 1104) (by decide +kernel)⟩
theorem lw_p44 : lw_okq (⟨"NavyOfCatsModel", "findSurest", "(I)I"⟩, 26) := ⟨⟨by decide +kernel, by decide +kernel⟩, List.mem_of_getElem? (i := 789) (by decide +kernel), List.mem_of_getElem? (i := 1119) (by decide +kernel), List.mem_of_getElem? (i := 1120) (by decide +kernel)⟩
theorem lw_p45 : lw_okq (⟨"NavyOfCatsModel", "findCrew", "(I)I"⟩, 26) := ⟨⟨by decide +kernel, by decide +kernel⟩, List.mem_of_getElem? (i := 789) (by decide +kernel), List.mem_of_getElem? (i := 1135) (by decide +kernel), List.mem_of_getElem? (i := 1136) (by decide +kernel)⟩
theorem lw_p46 : lw_okq (⟨"NavyOfCatsModel", "usedIn", "(II)I"⟩, 26) := ⟨⟨by decide +kernel, by decide +kernel⟩, List.mem_of_getElem? (i := 789) (by decide +kernel), List.mem_of_getElem? (i := 1159) (by decide +kernel), List.mem_of_getElem? (i := 1160) (by decide +kernel)⟩
theorem lw_p47 : lw_okq (⟨"NavyOfCatsModel", "lacks", "(I)I"⟩, 26) := ⟨⟨by decide +kernel, by decide +kernel⟩, List.mem_of_getElem? (i := 789) (by decide +kernel), List.mem_of_getElem? (i := 1171) (by decide +kernel), List.mem_of_getElem? (i := 1172) (by decide +kernel)⟩
def lw_privs_3 : List (MethodName × Nat) := [(⟨"NavyOfCatsModel", "landed", "()I"⟩, 26), (⟨"NavyOfCatsModel", "hungriest", "()I"⟩, 26), (⟨"NavyOfCatsModel", "islands", "()I"⟩, 26), (⟨"NavyOfCatsModel", "aheadOf", "(II)I"⟩, 26), (⟨"NavyOfCatsModel", "putBack", "(I)I"⟩, 26), (⟨"NavyOfCatsModel", "landsIn", "(II)I"⟩, 26), (⟨"NavyOfCatsModel", "told", "(I)I"⟩, 26), (⟨"NavyOfCatsModel", "isStill", "()Z"⟩, 26), (⟨"NavyOfCatsModel", "satBehind", "(II)I"⟩, 26), (⟨"NavyOfCatsModel", "bestOrder", "(I)I"⟩, 26), (⟨"NavyOfCatsModel", "soonestWith", "(III)I"⟩, 26), (⟨"NavyOfCatsModel", "orNone", "(I)I"⟩, 26), (⟨"NavyOfCatsModel", "findSurest", "(I)I"⟩, 26), (⟨"NavyOfCatsModel", "findCrew", "(I)I"⟩, 26), (⟨"NavyOfCatsModel", "usedIn", "(II)I"⟩, 26), (⟨"NavyOfCatsModel", "lacks", "(I)I"⟩, 26)]
theorem lw_r3 : ∀ q ∈ lw_privs_3, lw_okq q := List.forall_mem_cons.mpr ⟨lw_p32, List.forall_mem_cons.mpr ⟨lw_p33, List.forall_mem_cons.mpr ⟨lw_p34, List.forall_mem_cons.mpr ⟨lw_p35, List.forall_mem_cons.mpr ⟨lw_p36, List.forall_mem_cons.mpr ⟨lw_p37, List.forall_mem_cons.mpr ⟨lw_p38, List.forall_mem_cons.mpr ⟨lw_p39, List.forall_mem_cons.mpr ⟨lw_p40, List.forall_mem_cons.mpr ⟨lw_p41, List.forall_mem_cons.mpr ⟨lw_p42, List.forall_mem_cons.mpr ⟨lw_p43, List.forall_mem_cons.mpr ⟨lw_p44, List.forall_mem_cons.mpr ⟨lw_p45, List.forall_mem_cons.mpr ⟨lw_p46, List.forall_mem_cons.mpr ⟨lw_p47, fun _ h => absurd h List.not_mem_nil⟩⟩⟩⟩⟩⟩⟩⟩⟩⟩⟩⟩⟩⟩⟩⟩
theorem lw_p48 : lw_okq (⟨"NavyOfCatsModel", "fitting", "(IIIII)J"⟩, 26) := ⟨⟨by decide +kernel, by decide +kernel⟩, List.mem_of_getElem? (i := 789) (by decide +kernel), List.mem_of_getElem? (i := 1179) (by decide +kernel), List.mem_of_getElem? (i := 1180) (by decide +kernel)⟩
theorem lw_p49 : lw_okq (⟨"NavyOfCatsModel", "satSo", "(II)Z"⟩, 26) := ⟨⟨by decide +kernel, by decide +kernel⟩, List.mem_of_getElem? (i := 789) (by decide +kernel), List.mem_of_getElem? (i := 1183) (by decide +kernel), List.mem_of_getElem? (i := 1184) (by decide +kernel)⟩
theorem lw_p50 : lw_okq (⟨"NavyOfCatsModel", "findBegun", "(II)I"⟩, 26) := ⟨⟨by decide +kernel, by decide +kernel⟩, List.mem_of_getElem? (i := 789) (by decide +kernel), List.mem_of_getElem? (i := 1195) (by decide +kernel), List.mem_of_getElem? (i := 1196) (by decide +kernel)⟩
theorem lw_p51 : lw_okq (⟨"NavyOfCatsModel", "wentSo", "(II)Z"⟩, 26) := ⟨⟨by decide +kernel, by decide +kernel⟩, List.mem_of_getElem? (i := 789) (by decide +kernel), List.mem_of_getElem? (i := 1199) (by decide +kernel), List.mem_of_getElem? (i := 1200) (by decide +kernel)⟩
theorem lw_p52 : lw_okq (⟨"NavyOfCatsModel", "drawn", "(I)I"⟩, 26) := ⟨⟨by decide +kernel, by decide +kernel⟩, List.mem_of_getElem? (i := 789) (by decide +kernel), List.mem_of_getElem? (i := 1211) (by decide +kernel), List.mem_of_getElem? (i := 1212) (by decide +kernel)⟩
theorem lw_p53 : lw_okq (⟨"NavyOfCatsModel", "next", "()V"⟩, 26) := ⟨⟨by decide +kernel, by decide +kernel⟩, List.mem_of_getElem? (i := 789) (by decide +kernel), List.mem_of_getElem? (i := 1240) (by decide +kernel), List.mem_of_getElem? (i := 1241) (by decide +kernel)⟩
theorem lw_p54 : lw_okq (⟨"NavyOfCatsModel", "byteAt", "(I)I"⟩, 26) := ⟨⟨by decide +kernel, by decide +kernel⟩, List.mem_of_getElem? (i := 789) (by decide +kernel), List.mem_of_getElem? (i := 1244) (by decide +kernel), List.mem_of_getElem? (i := 1245) (by decide +kernel)⟩
theorem lw_p55 : lw_okq (⟨"NavyOfCatsModel", "readItem", "()V"⟩, 26) := ⟨⟨by decide +kernel, by decide +kernel⟩, List.mem_of_getElem? (i := 789) (by decide +kernel), List.mem_of_getElem? (i := 1249) (by decide +kernel), List.mem_of_getElem? (i := 1250) (by decide +kernel)⟩
theorem lw_p56 : lw_okq (⟨"NavyOfCatsModel", "kindTold", "()I"⟩, 26) := ⟨⟨by decide +kernel, by decide +kernel⟩, List.mem_of_getElem? (i := 789) (by decide +kernel), List.mem_of_getElem? (i := 1253) (by decide +kernel), List.mem_of_getElem? (i := 1254) (by decide +kernel)⟩
theorem lw_p57 : lw_okq (⟨"NavyOfCatsModel", "isWord", "(Ljava/lang/String;)Z"⟩, 26) := ⟨⟨by decide +kernel, by decide +kernel⟩, List.mem_of_getElem? (i := 789) (by decide +kernel), List.mem_of_getElem? (i := 1257) (by decide +kernel), List.mem_of_getElem? (i := 1258) (by decide +kernel)⟩
theorem lw_p58 : lw_okq (⟨"NavyOfCatsModel", "must", "(Z)V"⟩, 26) := ⟨⟨by decide +kernel, by decide +kernel⟩, List.mem_of_getElem? (i := 789) (by decide +kernel), List.mem_of_getElem? (i := 1263) (by decide +kernel), List.mem_of_getElem? (i := 1264) (by decide +kernel)⟩
theorem lw_p59 : lw_okq (⟨"NavyOfCatsModel", "isNext", "(Ljava/lang/String;)Z"⟩, 26) := ⟨⟨by decide +kernel, by decide +kernel⟩, List.mem_of_getElem? (i := 789) (by decide +kernel), List.mem_of_getElem? (i := 1268) (by decide +kernel), List.mem_of_getElem? (i := 1269) (by decide +kernel)⟩
theorem lw_p60 : lw_okq (⟨"NavyOfCatsModel", "number", "(II)I"⟩, 26) := ⟨⟨by decide +kernel, by decide +kernel⟩, List.mem_of_getElem? (i := 789) (by decide +kernel), List.mem_of_getElem? (i := 1272) (by decide +kernel), List.mem_of_getElem? (i := 1273) (by decide +kernel)⟩
theorem lw_p61 : lw_okq (⟨"NavyOfCatsModel", "habitTold", "()I"⟩, 26) := ⟨⟨by decide +kernel, by decide +kernel⟩, List.mem_of_getElem? (i := 789) (by decide +kernel), List.mem_of_getElem? (i := 1276) (by decide +kernel), List.mem_of_getElem? (i := 1277) (by decide +kernel)⟩
theorem lw_p62 : lw_okq (⟨"NavyOfCatsModel", "isMinus", "()Z"⟩, 26) := ⟨⟨by decide +kernel, by decide +kernel⟩, List.mem_of_getElem? (i := 789) (by decide +kernel), List.mem_of_getElem? (i := 1281) (by decide +kernel), List.mem_of_getElem? (i := 1282) (by decide +kernel)⟩
theorem lw_p63 : lw_okq (⟨"NavyOfCatsModel", "item", "(III)V"⟩, 26) := ⟨⟨by decide +kernel, by decide +kernel⟩, List.mem_of_getElem? (i := 789) (by decide +kernel), List.mem_of_getElem? (i := 1285) (by decide +kernel), List.mem_of_getElem? (i := 1286) (by decide +kernel)⟩
def lw_privs_4 : List (MethodName × Nat) := [(⟨"NavyOfCatsModel", "fitting", "(IIIII)J"⟩, 26), (⟨"NavyOfCatsModel", "satSo", "(II)Z"⟩, 26), (⟨"NavyOfCatsModel", "findBegun", "(II)I"⟩, 26), (⟨"NavyOfCatsModel", "wentSo", "(II)Z"⟩, 26), (⟨"NavyOfCatsModel", "drawn", "(I)I"⟩, 26), (⟨"NavyOfCatsModel", "next", "()V"⟩, 26), (⟨"NavyOfCatsModel", "byteAt", "(I)I"⟩, 26), (⟨"NavyOfCatsModel", "readItem", "()V"⟩, 26), (⟨"NavyOfCatsModel", "kindTold", "()I"⟩, 26), (⟨"NavyOfCatsModel", "isWord", "(Ljava/lang/String;)Z"⟩, 26), (⟨"NavyOfCatsModel", "must", "(Z)V"⟩, 26), (⟨"NavyOfCatsModel", "isNext", "(Ljava/lang/String;)Z"⟩, 26), (⟨"NavyOfCatsModel", "number", "(II)I"⟩, 26), (⟨"NavyOfCatsModel", "habitTold", "()I"⟩, 26), (⟨"NavyOfCatsModel", "isMinus", "()Z"⟩, 26), (⟨"NavyOfCatsModel", "item", "(III)V"⟩, 26)]
theorem lw_r4 : ∀ q ∈ lw_privs_4, lw_okq q := List.forall_mem_cons.mpr ⟨lw_p48, List.forall_mem_cons.mpr ⟨lw_p49, List.forall_mem_cons.mpr ⟨lw_p50, List.forall_mem_cons.mpr ⟨lw_p51, List.forall_mem_cons.mpr ⟨lw_p52, List.forall_mem_cons.mpr ⟨lw_p53, List.forall_mem_cons.mpr ⟨lw_p54, List.forall_mem_cons.mpr ⟨lw_p55, List.forall_mem_cons.mpr ⟨lw_p56, List.forall_mem_cons.mpr ⟨lw_p57, List.forall_mem_cons.mpr ⟨lw_p58, List.forall_mem_cons.mpr ⟨lw_p59, List.forall_mem_cons.mpr ⟨lw_p60, List.forall_mem_cons.mpr ⟨lw_p61, List.forall_mem_cons.mpr ⟨lw_p62, List.forall_mem_cons.mpr ⟨lw_p63, fun _ h => absurd h List.not_mem_nil⟩⟩⟩⟩⟩⟩⟩⟩⟩⟩⟩⟩⟩⟩⟩⟩
theorem lw_p64 : lw_okq (⟨"NavyOfCatsModel", "shipTold", "()V"⟩, 26) := ⟨⟨by decide +kernel, by decide +kernel⟩, List.mem_of_getElem? (i := 789) (by decide +kernel), List.mem_of_getElem? (i := 1291) (by decide +kernel), List.mem_of_getElem? (i := 1292) (by decide +kernel)⟩
theorem lw_p65 : lw_okq (⟨"NavyOfCatsModel", "isSo", "(I)I"⟩, 26) := ⟨⟨by decide +kernel, by decide +kernel⟩, List.mem_of_getElem? (i := 789) (by decide +kernel), List.mem_of_getElem? (i := 1301) (by decide +kernel), List.mem_of_getElem? (i := 1302) (by decide +kernel)⟩
def lw_privs_5 : List (MethodName × Nat) := [(⟨"NavyOfCatsModel", "shipTold", "()V"⟩, 26), (⟨"NavyOfCatsModel", "isSo", "(I)I"⟩, 26)]
theorem lw_r5 : ∀ q ∈ lw_privs_5, lw_okq q := List.forall_mem_cons.mpr ⟨lw_p64, List.forall_mem_cons.mpr ⟨lw_p65, fun _ h => absurd h List.not_mem_nil⟩⟩
def lw_privs : List (MethodName × Nat) := lw_privs_1 ++ (lw_privs_2 ++ (lw_privs_3 ++ (lw_privs_4 ++ (lw_privs_5))))
def lw_tbl : List Cond := k2_sels lw_privs ++ tables_1
theorem lw_privs_ok : ∀ q ∈ lw_privs, lw_okq q := by
  show ∀ q ∈ lw_privs_1 ++ (lw_privs_2 ++ (lw_privs_3 ++ (lw_privs_4 ++ (lw_privs_5)))), lw_okq q
  exact List.forall_mem_append.mpr ⟨lw_r1, List.forall_mem_append.mpr ⟨lw_r2, List.forall_mem_append.mpr ⟨lw_r3, List.forall_mem_append.mpr ⟨lw_r4, lw_r5⟩⟩⟩⟩
end
section
/-! ===== BEGIN words of one list among another's, by their places ===== -/
theorem goodIn_r {big : List Cond} (ws : List Cond) (ps : List Nat) (hp : ws = ps.filterMap (fun i => big[i]?)) (h : ws.all goodWord = true) : GoodIn big ws := by
  intro w hw
  have h1 := List.all_eq_true.mp h w hw
  rw [hp] at hw
  obtain ⟨i, -, hi⟩ := List.mem_filterMap.mp hw
  have hm : w ∈ big := by first | exact List.mem_of_getElem? hi | exact List.getElem?_mem hi
  exact ⟨hm, good_of_word h1⟩
theorem goodIn_app {big a b : List Cond} (ha : GoodIn big a) (hb : GoodIn big b) : GoodIn big (a ++ b) := fun w h => (List.mem_append.mp h).elim (ha w) (hb w)
theorem goodIn_ca {big a b : List Cond} {c : Cond} (ha : GoodIn big (c :: a)) (hb : GoodIn big b) : GoodIn big (c :: (a ++ b)) := fun w h => (List.mem_cons.mp h).elim (fun e => ha w (List.mem_cons.mpr (Or.inl e))) (fun h => (List.mem_append.mp h).elim (fun h => ha w (List.mem_cons.mpr (Or.inr h))) (hb w))
theorem goodIn_sub {big ws : List Cond} (hm : ∀ w ∈ ws, w ∈ big) (h : ws.all goodWord = true) : GoodIn big ws := fun w hw => ⟨hm w hw, good_of_word (List.all_eq_true.mp h w hw)⟩
/-! ===== END ===== -/

/-! ===== BEGIN printed: names, fields, word lists, decode rows ===== -/
def RX0 : String := "NavyOfCats$Navy"
def TX0 : u_T := fun k => match k with
  | 0 => ("NavyOfCats$Navy", "cats", "I", false)
  | 1 => ("NavyOfCats$Navy", "kindOf", "[I", true)
  | 2 => ("NavyOfCats$Navy", "hungerOf", "[I", true)
  | 3 => ("NavyOfCats$Navy", "habitOf", "[I", true)
  | 4 => ("NavyOfCats$Navy", "cellOf", "[I", true)
  | 5 => ("NavyOfCats$Navy", "orderOf", "[I", true)
  | 6 => ("NavyOfCats$Navy", "aboardOf", "[I", true)
  | 7 => ("NavyOfCats$Navy", "isIsland", "[Z", true)
  | 8 => ("NavyOfCats$Navy", "windNow", "I", false)
  | 9 => ("NavyOfCats$Navy", "fishWatches", "I", false)
  | 10 => ("NavyOfCats$Navy", "stored", "I", false)
  | 11 => ("NavyOfCats$Navy", "watch", "I", false)
  | 12 => ("NavyOfCats$Navy", "z", "I", false)
  | _ => ("NavyOfCats$Navy", "spots", "[I", true)
def tyX0 : Nat → FieldType := fun k => match k with
  | 0 => .int
  | 1 => .array .int
  | 2 => .array .int
  | 3 => .array .int
  | 4 => .array .int
  | 5 => .array .int
  | 6 => .array .int
  | 7 => .array .boolean
  | 8 => .int
  | 9 => .int
  | 10 => .int
  | 11 => .int
  | 12 => .int
  | _ => .array .int
abbrev wsX00 : List Cond := u_ws RX0 TX0 14
theorem nmX0 : ∀ a, a < 14 → ∀ b, b < 14 → a ≠ b → (TX0 a).2.1 ≠ (TX0 b).2.1 := by decide +kernel
theorem tyX0_ok : ∀ k, k < 14 → parseFieldDescriptor (TX0 k).2.2.1 = some (tyX0 k) := by decide +kernel
abbrev cX0_init : ByteArray := prog_2_method_1_code
def yX0_init : MethodName := ⟨RX0, "<init>", "()V"⟩
abbrev cX0_become : ByteArray := prog_2_method_2_code
def yX0_become : MethodName := ⟨RX0, "become", "(LNavyOfCats$Navy;)V"⟩
abbrev cX0_addCat : ByteArray := prog_2_method_3_code
def yX0_addCat : MethodName := ⟨RX0, "addCat", "(III)I"⟩
abbrev cX0_errsAs : ByteArray := prog_2_method_4_code
def yX0_errsAs : MethodName := ⟨RX0, "errsAs", "(IIII)I"⟩
abbrev cX0_errs : ByteArray := prog_2_method_5_code
def yX0_errs : MethodName := ⟨RX0, "errs", "(II)I"⟩
abbrev cX0_meanOf : ByteArray := prog_2_method_6_code
def yX0_meanOf : MethodName := ⟨RX0, "meanOf", "(II)I"⟩
abbrev cX0_nextOf : ByteArray := prog_2_method_7_code
def yX0_nextOf : MethodName := ⟨RX0, "nextOf", "(III)I"⟩
abbrev cX0_nextBy : ByteArray := prog_2_method_8_code
def yX0_nextBy : MethodName := ⟨RX0, "nextBy", "(III)I"⟩
abbrev cX0_cellBehind : ByteArray := prog_2_method_9_code
def yX0_cellBehind : MethodName := ⟨RX0, "cellBehind", "(II)I"⟩
abbrev cX0_passWatch : ByteArray := prog_2_method_10_code
def yX0_passWatch : MethodName := ⟨RX0, "passWatch", "()V"⟩
abbrev cX0_passStorm : ByteArray := prog_2_method_11_code
def yX0_passStorm : MethodName := ⟨RX0, "passStorm", "()V"⟩
abbrev cX0_draw : ByteArray := prog_2_method_12_code
def yX0_draw : MethodName := ⟨RX0, "draw", "()I"⟩
abbrev cX0_drivesThatLand : ByteArray := prog_2_method_13_code
def yX0_drivesThatLand : MethodName := ⟨RX0, "drivesThatLand", "(I)I"⟩
abbrev cX0_isLanded : ByteArray := prog_2_method_14_code
def yX0_isLanded : MethodName := ⟨RX0, "isLanded", "(I)Z"⟩
abbrev cX0_landedShips : ByteArray := prog_2_method_15_code
def yX0_landedShips : MethodName := ⟨RX0, "landedShips", "()I"⟩
abbrev cX0_fedIn : ByteArray := prog_2_method_16_code
def yX0_fedIn : MethodName := ⟨RX0, "fedIn", "(II)I"⟩
abbrev cX0_greatestHunger : ByteArray := prog_2_method_17_code
def yX0_greatestHunger : MethodName := ⟨RX0, "greatestHunger", "()I"⟩
abbrev cX0_hungerOfAll : ByteArray := prog_2_method_18_code
def yX0_hungerOfAll : MethodName := ⟨RX0, "hungerOfAll", "()I"⟩
abbrev cX0_islands : ByteArray := prog_2_method_19_code
def yX0_islands : MethodName := ⟨RX0, "islands", "()I"⟩
abbrev cX0_spotsHeld : ByteArray := prog_2_method_20_code
def yX0_spotsHeld : MethodName := ⟨RX0, "spotsHeld", "()I"⟩
def RX1 : String := "NavyOfCats$Reader"
def TX1 : u_T := fun k => match k with
  | 0 => ("NavyOfCats$Reader", "tokens", "[I", true)
  | 1 => ("NavyOfCats$Reader", "begins", "[I", true)
  | 2 => ("NavyOfCats$Reader", "numbers", "[I", true)
  | 3 => ("NavyOfCats$Reader", "last", "I", false)
  | 4 => ("NavyOfCats$Reader", "place", "I", false)
  | 5 => ("NavyOfCats$Reader", "acts", "Z", false)
  | 6 => ("NavyOfCats$Reader", "isFaulty", "Z", false)
  | _ => ("NavyOfCats$Reader", "cats", "I", false)
def tyX1 : Nat → FieldType := fun k => match k with
  | 0 => .array .int
  | 1 => .array .int
  | 2 => .array .int
  | 3 => .int
  | 4 => .int
  | 5 => .boolean
  | 6 => .boolean
  | _ => .int
abbrev wsX10 : List Cond := u_ws RX1 TX1 8
theorem nmX1 : ∀ a, a < 8 → ∀ b, b < 8 → a ≠ b → (TX1 a).2.1 ≠ (TX1 b).2.1 := by decide +kernel
theorem tyX1_ok : ∀ k, k < 8 → parseFieldDescriptor (TX1 k).2.2.1 = some (tyX1 k) := by decide +kernel
abbrev cX1_init : ByteArray := prog_3_method_1_code
def yX1_init : MethodName := ⟨RX1, "<init>", "()V"⟩
abbrev cX1_scan : ByteArray := prog_3_method_2_code
def yX1_scan : MethodName := ⟨RX1, "scan", "(LNavyOfCats$Tape;)V"⟩
abbrev cX1_takeToken : ByteArray := prog_3_method_3_code
def yX1_takeToken : MethodName := ⟨RX1, "takeToken", "(LNavyOfCats$Tape;I)I"⟩
abbrev cX1_wordAt : ByteArray := prog_3_method_4_code
def yX1_wordAt : MethodName := ⟨RX1, "wordAt", "(LNavyOfCats$Tape;II)I"⟩
abbrev cX1_signOf : ByteArray := prog_3_method_5_code
def yX1_signOf : MethodName := ⟨RX1, "signOf", "(I)I"⟩
abbrev cX1_spelled : ByteArray := prog_3_method_6_code
def yX1_spelled : MethodName := ⟨RX1, "spelled", "(I)Ljava/lang/String;"⟩
abbrev cX1_read : ByteArray := prog_3_method_7_code
def yX1_read : MethodName := ⟨RX1, "read", "(LNavyOfCats$Navy;Z)I"⟩
abbrev cX1_advance : ByteArray := prog_3_method_8_code
def yX1_advance : MethodName := ⟨RX1, "advance", "()V"⟩
abbrev cX1_readItem : ByteArray := prog_3_method_9_code
def yX1_readItem : MethodName := ⟨RX1, "readItem", "(LNavyOfCats$Navy;)V"⟩
abbrev cX1_readCat : ByteArray := prog_3_method_10_code
def yX1_readCat : MethodName := ⟨RX1, "readCat", "(LNavyOfCats$Navy;I)V"⟩
abbrev cX1_readHabit : ByteArray := prog_3_method_11_code
def yX1_readHabit : MethodName := ⟨RX1, "readHabit", "()I"⟩
abbrev cX1_readIsland : ByteArray := prog_3_method_12_code
def yX1_readIsland : MethodName := ⟨RX1, "readIsland", "(LNavyOfCats$Navy;)V"⟩
abbrev cX1_readShip : ByteArray := prog_3_method_13_code
def yX1_readShip : MethodName := ⟨RX1, "readShip", "(LNavyOfCats$Navy;)V"⟩
abbrev cX1_readSetting : ByteArray := prog_3_method_14_code
def yX1_readSetting : MethodName := ⟨RX1, "readSetting", "(II)I"⟩
abbrev cX1_readPart : ByteArray := prog_3_method_15_code
def yX1_readPart : MethodName := ⟨RX1, "readPart", "(II)I"⟩
abbrev cX1_takeNumber : ByteArray := prog_3_method_16_code
def yX1_takeNumber : MethodName := ⟨RX1, "takeNumber", "(I)I"⟩
def RX2 : String := "NavyOfCats$Sheet"
def TX2 : u_T := fun k => match k with
  | 0 => ("NavyOfCats$Sheet", "bits", "I", false)
  | 1 => ("NavyOfCats$Sheet", "size", "I", false)
  | _ => ("NavyOfCats$Sheet", "numbers", "[I", true)
def tyX2 : Nat → FieldType := fun k => match k with
  | 0 => .int
  | 1 => .int
  | _ => .array .int
abbrev wsX20 : List Cond := u_ws RX2 TX2 3
theorem nmX2 : ∀ a, a < 3 → ∀ b, b < 3 → a ≠ b → (TX2 a).2.1 ≠ (TX2 b).2.1 := by decide +kernel
theorem tyX2_ok : ∀ k, k < 3 → parseFieldDescriptor (TX2 k).2.2.1 = some (tyX2 k) := by decide +kernel
abbrev cX2_init : ByteArray := prog_4_method_1_code
def yX2_init : MethodName := ⟨RX2, "<init>", "()V"⟩
abbrev cX2_begin : ByteArray := prog_4_method_2_code
def yX2_begin : MethodName := ⟨RX2, "begin", "(II)V"⟩
abbrev cX2_isMissing : ByteArray := prog_4_method_3_code
def yX2_isMissing : MethodName := ⟨RX2, "isMissing", "()Z"⟩
abbrev cX2_lowest : ByteArray := prog_4_method_4_code
def yX2_lowest : MethodName := ⟨RX2, "lowest", "(I)I"⟩
abbrev cX2_has : ByteArray := prog_4_method_5_code
def yX2_has : MethodName := ⟨RX2, "has", "(II)Z"⟩
def RX3 : String := "NavyOfCats$Tape"
def TX3 : u_T := fun k => match k with
  | 0 => ("NavyOfCats$Tape", "bytes", "[I", true)
  | _ => ("NavyOfCats$Tape", "length", "I", false)
def tyX3 : Nat → FieldType := fun k => match k with
  | 0 => .array .int
  | _ => .int
abbrev wsX30 : List Cond := u_ws RX3 TX3 2
theorem nmX3 : ∀ a, a < 2 → ∀ b, b < 2 → a ≠ b → (TX3 a).2.1 ≠ (TX3 b).2.1 := by decide +kernel
theorem tyX3_ok : ∀ k, k < 2 → parseFieldDescriptor (TX3 k).2.2.1 = some (tyX3 k) := by decide +kernel
abbrev cX3_init : ByteArray := prog_5_method_1_code
def yX3_init : MethodName := ⟨RX3, "<init>", "()V"⟩
abbrev cX3_add : ByteArray := prog_5_method_2_code
def yX3_add : MethodName := ⟨RX3, "add", "(I)V"⟩
abbrev cX3_runEnd : ByteArray := prog_5_method_3_code
def yX3_runEnd : MethodName := ⟨RX3, "runEnd", "(ICC)I"⟩
abbrev cX3_numberAt : ByteArray := prog_5_method_4_code
def yX3_numberAt : MethodName := ⟨RX3, "numberAt", "(II)I"⟩
abbrev cX3_isWordAt : ByteArray := prog_5_method_5_code
def yX3_isWordAt : MethodName := ⟨RX3, "isWordAt", "(IILjava/lang/String;)Z"⟩
def RX4 : String := "NavyOfCats"
def TX4 : u_T := fun k => match k with
  | 0 => ("NavyOfCats", "navy", "LNavyOfCats$Navy;", true)
  | 1 => ("NavyOfCats", "kept", "LNavyOfCats$Navy;", true)
  | 2 => ("NavyOfCats", "isKept", "Z", false)
  | 3 => ("NavyOfCats", "tape", "LNavyOfCats$Tape;", true)
  | 4 => ("NavyOfCats", "reader", "LNavyOfCats$Reader;", true)
  | 5 => ("NavyOfCats", "sheets", "[LNavyOfCats$Sheet;", true)
  | 6 => ("NavyOfCats", "found", "[I", true)
  | 7 => ("NavyOfCats", "reads", "[I", true)
  | _ => ("NavyOfCats", "places", "[I", true)
def tyX4 : Nat → FieldType := fun k => match k with
  | 0 => .object "NavyOfCats$Navy"
  | 1 => .object "NavyOfCats$Navy"
  | 2 => .boolean
  | 3 => .object "NavyOfCats$Tape"
  | 4 => .object "NavyOfCats$Reader"
  | 5 => .array (.object "NavyOfCats$Sheet")
  | 6 => .array .int
  | 7 => .array .int
  | _ => .array .int
abbrev wsX40 : List Cond := u_ws RX4 TX4 9
theorem nmX4 : ∀ a, a < 9 → ∀ b, b < 9 → a ≠ b → (TX4 a).2.1 ≠ (TX4 b).2.1 := by decide +kernel
theorem tyX4_ok : ∀ k, k < 9 → parseFieldDescriptor (TX4 k).2.2.1 = some (tyX4 k) := by decide +kernel
abbrev cX4_init : ByteArray := prog_1_method_1_code
def yX4_init : MethodName := ⟨RX4, "<init>", "()V"⟩
abbrev cX4_cat : ByteArray := prog_1_method_2_code
def yX4_cat : MethodName := ⟨RX4, "cat", "(I)I"⟩
abbrev cX4_of : ByteArray := prog_1_method_3_code
def yX4_of : MethodName := ⟨RX4, "of", "(II)I"⟩
abbrev cX4_change : ByteArray := prog_1_method_4_code
def yX4_change : MethodName := ⟨RX4, "change", "(III)I"⟩
abbrev cX4_ship : ByteArray := prog_1_method_5_code
def yX4_ship : MethodName := ⟨RX4, "ship", "(II)I"⟩
abbrev cX4_steer : ByteArray := prog_1_method_6_code
def yX4_steer : MethodName := ⟨RX4, "steer", "(III)I"⟩
abbrev cX4_island : ByteArray := prog_1_method_7_code
def yX4_island : MethodName := ⟨RX4, "island", "(II)I"⟩
abbrev cX4_wind : ByteArray := prog_1_method_8_code
def yX4_wind : MethodName := ⟨RX4, "wind", "(I)I"⟩
abbrev cX4_fish : ByteArray := prog_1_method_9_code
def yX4_fish : MethodName := ⟨RX4, "fish", "(I)I"⟩
abbrev cX4_store : ByteArray := prog_1_method_10_code
def yX4_store : MethodName := ⟨RX4, "store", "(I)I"⟩
abbrev cX4_go : ByteArray := prog_1_method_11_code
def yX4_go : MethodName := ⟨RX4, "go", "(I)I"⟩
abbrev cX4_feeds : ByteArray := prog_1_method_12_code
def yX4_feeds : MethodName := ⟨RX4, "feeds", "(I)I"⟩
abbrev cX4_now : ByteArray := prog_1_method_13_code
def yX4_now : MethodName := ⟨RX4, "now", "(I)I"⟩
abbrev cX4_ahead : ByteArray := prog_1_method_14_code
def yX4_ahead : MethodName := ⟨RX4, "ahead", "(II)I"⟩
abbrev cX4_lands : ByteArray := prog_1_method_15_code
def yX4_lands : MethodName := ⟨RX4, "lands", "(I)I"⟩
abbrev cX4_meets : ByteArray := prog_1_method_16_code
def yX4_meets : MethodName := ⟨RX4, "meets", "(II)I"⟩
abbrev cX4_still : ByteArray := prog_1_method_17_code
def yX4_still : MethodName := ⟨RX4, "still", "()I"⟩
abbrev cX4_movesPlaces : ByteArray := prog_1_method_18_code
def yX4_movesPlaces : MethodName := ⟨RX4, "movesPlaces", "(I)Z"⟩
abbrev cX4_sits : ByteArray := prog_1_method_19_code
def yX4_sits : MethodName := ⟨RX4, "sits", "(II)I"⟩
abbrev cX4_order : ByteArray := prog_1_method_20_code
def yX4_order : MethodName := ⟨RX4, "order", "(I)I"⟩
abbrev cX4_soonest : ByteArray := prog_1_method_21_code
def yX4_soonest : MethodName := ⟨RX4, "soonest", "(I)I"⟩
abbrev cX4_orders : ByteArray := prog_1_method_22_code
def yX4_orders : MethodName := ⟨RX4, "orders", "(II)J"⟩
abbrev cX4_surest : ByteArray := prog_1_method_23_code
def yX4_surest : MethodName := ⟨RX4, "surest", "(I)I"⟩
abbrev cX4_winds : ByteArray := prog_1_method_24_code
def yX4_winds : MethodName := ⟨RX4, "winds", "(I)I"⟩
abbrev cX4_windFor : ByteArray := prog_1_method_25_code
def yX4_windFor : MethodName := ⟨RX4, "windFor", "(I)I"⟩
abbrev cX4_quickestOrder : ByteArray := prog_1_method_26_code
def yX4_quickestOrder : MethodName := ⟨RX4, "quickestOrder", "(I)I"⟩
abbrev cX4_surestOrder : ByteArray := prog_1_method_27_code
def yX4_surestOrder : MethodName := ⟨RX4, "surestOrder", "(I)I"⟩
abbrev cX4_windsThatLand : ByteArray := prog_1_method_28_code
def yX4_windsThatLand : MethodName := ⟨RX4, "windsThatLand", "(II)I"⟩
abbrev cX4_readAhead : ByteArray := prog_1_method_29_code
def yX4_readAhead : MethodName := ⟨RX4, "readAhead", "(II)V"⟩
abbrev cX4_landsBehind : ByteArray := prog_1_method_30_code
def yX4_landsBehind : MethodName := ⟨RX4, "landsBehind", "(III)I"⟩
abbrev cX4_endsAt : ByteArray := prog_1_method_31_code
def yX4_endsAt : MethodName := ⟨RX4, "endsAt", "(II)I"⟩
abbrev cX4_crew : ByteArray := prog_1_method_32_code
def yX4_crew : MethodName := ⟨RX4, "crew", "(I)I"⟩
abbrev cX4_mean : ByteArray := prog_1_method_33_code
def yX4_mean : MethodName := ⟨RX4, "mean", "(I)I"⟩
abbrev cX4_bestCrew : ByteArray := prog_1_method_34_code
def yX4_bestCrew : MethodName := ⟨RX4, "bestCrew", "(I)I"⟩
abbrev cX4_better : ByteArray := prog_1_method_35_code
def yX4_better : MethodName := ⟨RX4, "better", "(I)I"⟩
abbrev cX4_spy : ByteArray := prog_1_method_36_code
def yX4_spy : MethodName := ⟨RX4, "spy", "(III)I"⟩
abbrev cX4_uses : ByteArray := prog_1_method_37_code
def yX4_uses : MethodName := ⟨RX4, "uses", "(II)I"⟩
abbrev cX4_hunger : ByteArray := prog_1_method_38_code
def yX4_hunger : MethodName := ⟨RX4, "hunger", "(I)I"⟩
abbrev cX4_kinds : ByteArray := prog_1_method_39_code
def yX4_kinds : MethodName := ⟨RX4, "kinds", "(II)I"⟩
abbrev cX4_habits : ByteArray := prog_1_method_40_code
def yX4_habits : MethodName := ⟨RX4, "habits", "(II)I"⟩
abbrev cX4_begun : ByteArray := prog_1_method_41_code
def yX4_begun : MethodName := ⟨RX4, "begun", "(II)I"⟩
abbrev cX4_from : ByteArray := prog_1_method_42_code
def yX4_from : MethodName := ⟨RX4, "from", "(II)I"⟩
abbrev cX4_wrongLog : ByteArray := prog_1_method_43_code
def yX4_wrongLog : MethodName := ⟨RX4, "wrongLog", "(IZ)I"⟩
abbrev cX4_sitsAsTold : ByteArray := prog_1_method_44_code
def yX4_sitsAsTold : MethodName := ⟨RX4, "sitsAsTold", "(LNavyOfCats$Sheet;III)Z"⟩
abbrev cX4_goesAsTold : ByteArray := prog_1_method_45_code
def yX4_goesAsTold : MethodName := ⟨RX4, "goesAsTold", "(LNavyOfCats$Sheet;II)Z"⟩
abbrev cX4_storms : ByteArray := prog_1_method_46_code
def yX4_storms : MethodName := ⟨RX4, "storms", "(I)I"⟩
abbrev cX4_odds : ByteArray := prog_1_method_47_code
def yX4_odds : MethodName := ⟨RX4, "odds", "(II)I"⟩
abbrev cX4_drives : ByteArray := prog_1_method_48_code
def yX4_drives : MethodName := ⟨RX4, "drives", "(I)J"⟩
abbrev cX4_seed : ByteArray := prog_1_method_49_code
def yX4_seed : MethodName := ⟨RX4, "seed", "(I)I"⟩
abbrev cX4_feed : ByteArray := prog_1_method_50_code
def yX4_feed : MethodName := ⟨RX4, "feed", "(II)I"⟩
abbrev cX4_wipe : ByteArray := prog_1_method_51_code
def yX4_wipe : MethodName := ⟨RX4, "wipe", "()I"⟩
abbrev cX4_text : ByteArray := prog_1_method_52_code
def yX4_text : MethodName := ⟨RX4, "text", "()I"⟩
abbrev cX4_hold : ByteArray := prog_1_method_53_code
def yX4_hold : MethodName := ⟨RX4, "hold", "(II)I"⟩
abbrev cX4_as : ByteArray := prog_1_method_54_code
def yX4_as : MethodName := ⟨RX4, "as", "(II)I"⟩
abbrev cX4_sheet : ByteArray := prog_1_method_55_code
def yX4_sheet : MethodName := ⟨RX4, "sheet", "(III)I"⟩
abbrev cX4_write : ByteArray := prog_1_method_56_code
def yX4_write : MethodName := ⟨RX4, "write", "(III)I"⟩
abbrev cX4_copy : ByteArray := prog_1_method_57_code
def yX4_copy : MethodName := ⟨RX4, "copy", "(IIIII)I"⟩
abbrev cX4_load : ByteArray := prog_1_method_58_code
def yX4_load : MethodName := ⟨RX4, "load", "(I)I"⟩
abbrev cX4_judge : ByteArray := prog_1_method_59_code
def yX4_judge : MethodName := ⟨RX4, "judge", "(I)I"⟩
abbrev cX4_wrongSheet : ByteArray := prog_1_method_60_code
def yX4_wrongSheet : MethodName := ⟨RX4, "wrongSheet", "(I)I"⟩
abbrev cX4_image : ByteArray := prog_1_method_61_code
def yX4_image : MethodName := ⟨RX4, "image", "()I"⟩
abbrev cX4_undo : ByteArray := prog_1_method_62_code
def yX4_undo : MethodName := ⟨RX4, "undo", "()I"⟩
abbrev cX4_tear : ByteArray := prog_1_method_63_code
def yX4_tear : MethodName := ⟨RX4, "tear", "()I"⟩
abbrev cX4_count : ByteArray := prog_1_method_64_code
def yX4_count : MethodName := ⟨RX4, "count", "(I)I"⟩
abbrev cX4_status : ByteArray := prog_1_method_65_code
def yX4_status : MethodName := ⟨RX4, "status", "(I)I"⟩
abbrev cX4_finding : ByteArray := prog_1_method_66_code
def yX4_finding : MethodName := ⟨RX4, "finding", "(I)I"⟩
abbrev cX4_isCat : ByteArray := prog_1_method_67_code
def yX4_isCat : MethodName := ⟨RX4, "isCat", "(I)Z"⟩
abbrev cX4_isSetOfCats : ByteArray := prog_1_method_68_code
def yX4_isSetOfCats : MethodName := ⟨RX4, "isSetOfCats", "(I)Z"⟩
abbrev cX4_isShip : ByteArray := prog_1_method_69_code
def yX4_isShip : MethodName := ⟨RX4, "isShip", "(I)Z"⟩
abbrev cX4_isCell : ByteArray := prog_1_method_70_code
def yX4_isCell : MethodName := ⟨RX4, "isCell", "(I)Z"⟩
abbrev cX4_isKind : ByteArray := prog_1_method_71_code
def yX4_isKind : MethodName := ⟨RX4, "isKind", "(I)Z"⟩
abbrev cX4_isSpot : ByteArray := prog_1_method_72_code
def yX4_isSpot : MethodName := ⟨RX4, "isSpot", "(I)Z"⟩
abbrev cX4_isSheet : ByteArray := prog_1_method_73_code
def yX4_isSheet : MethodName := ⟨RX4, "isSheet", "(I)Z"⟩
abbrev cX4_isWithin : ByteArray := prog_1_method_74_code
def yX4_isWithin : MethodName := ⟨RX4, "isWithin", "(III)Z"⟩
abbrev cX4_isIn : ByteArray := prog_1_method_75_code
def yX4_isIn : MethodName := ⟨RX4, "isIn", "(II)Z"⟩
abbrev cX4_put : ByteArray := prog_1_method_76_code
def yX4_put : MethodName := ⟨RX4, "put", "([III)I"⟩
abbrev cX4_course : ByteArray := prog_1_method_77_code
def yX4_course : MethodName := ⟨RX4, "course", "(II)I"⟩
abbrev cX4_heading : ByteArray := prog_1_method_78_code
def yX4_heading : MethodName := ⟨RX4, "heading", "(I)I"⟩
abbrev cX4_beside : ByteArray := prog_1_method_79_code
def yX4_beside : MethodName := ⟨RX4, "beside", "(II)I"⟩
abbrev cX4_distance : ByteArray := prog_1_method_80_code
def yX4_distance : MethodName := ⟨RX4, "distance", "(II)I"⟩
abbrev cX4_isOrUnder : ByteArray := prog_1_method_81_code
def yX4_isOrUnder : MethodName := ⟨RX4, "isOrUnder", "(II)Z"⟩
def RX5 : String := "NavyOfCatsModel"
def TX5 : u_T := fun k => match k with
  | 0 => ("NavyOfCatsModel", "now", "[I", true)
  | 1 => ("NavyOfCatsModel", "kept", "[I", true)
  | 2 => ("NavyOfCatsModel", "aside", "[I", true)
  | 3 => ("NavyOfCatsModel", "isKept", "Z", false)
  | 4 => ("NavyOfCatsModel", "found", "[I", true)
  | 5 => ("NavyOfCatsModel", "down", "[I", true)
  | 6 => ("NavyOfCatsModel", "right", "[I", true)
  | 7 => ("NavyOfCatsModel", "soonestFound", "I", false)
  | 8 => ("NavyOfCatsModel", "windsFound", "I", false)
  | 9 => ("NavyOfCatsModel", "begunFound", "I", false)
  | 10 => ("NavyOfCatsModel", "tape", "[I", true)
  | 11 => ("NavyOfCatsModel", "taped", "I", false)
  | 12 => ("NavyOfCatsModel", "begins", "I", false)
  | 13 => ("NavyOfCatsModel", "ends", "I", false)
  | 14 => ("NavyOfCatsModel", "sort", "I", false)
  | 15 => ("NavyOfCatsModel", "value", "I", false)
  | 16 => ("NavyOfCatsModel", "isWrong", "Z", false)
  | 17 => ("NavyOfCatsModel", "kindNames", "[Ljava/lang/String;", true)
  | 18 => ("NavyOfCatsModel", "items", "[I", true)
  | 19 => ("NavyOfCatsModel", "itemMany", "I", false)
  | 20 => ("NavyOfCatsModel", "done", "I", false)
  | 21 => ("NavyOfCatsModel", "catThen", "I", false)
  | 22 => ("NavyOfCatsModel", "widths", "[I", true)
  | 23 => ("NavyOfCatsModel", "sizes", "[I", true)
  | 24 => ("NavyOfCatsModel", "numbers", "[I", true)
  | _ => ("NavyOfCatsModel", "moved", "[I", true)
def tyX5 : Nat → FieldType := fun k => match k with
  | 0 => .array .int
  | 1 => .array .int
  | 2 => .array .int
  | 3 => .boolean
  | 4 => .array .int
  | 5 => .array .int
  | 6 => .array .int
  | 7 => .int
  | 8 => .int
  | 9 => .int
  | 10 => .array .int
  | 11 => .int
  | 12 => .int
  | 13 => .int
  | 14 => .int
  | 15 => .int
  | 16 => .boolean
  | 17 => .array (.object "java/lang/String")
  | 18 => .array .int
  | 19 => .int
  | 20 => .int
  | 21 => .int
  | 22 => .array .int
  | 23 => .array .int
  | 24 => .array .int
  | _ => .array .int
abbrev wsX50 : List Cond := u_ws RX5 TX5 26
theorem nmX5 : ∀ a, a < 26 → ∀ b, b < 26 → a ≠ b → (TX5 a).2.1 ≠ (TX5 b).2.1 := by decide +kernel
theorem tyX5_ok : ∀ k, k < 26 → parseFieldDescriptor (TX5 k).2.2.1 = some (tyX5 k) := by decide +kernel
abbrev cX5_init : ByteArray := prog_7_method_1_code
def yX5_init : MethodName := ⟨RX5, "<init>", "()V"⟩
abbrev cX5_finding : ByteArray := prog_7_method_2_code
def yX5_finding : MethodName := ⟨RX5, "finding", "(I)I"⟩
abbrev cX5_within : ByteArray := prog_7_method_3_code
def yX5_within : MethodName := ⟨RX5, "within", "(III)Z"⟩
abbrev cX5_become : ByteArray := prog_7_method_4_code
def yX5_become : MethodName := ⟨RX5, "become", "(II)I"⟩
abbrev cX5_copyRow : ByteArray := prog_7_method_5_code
def yX5_copyRow : MethodName := ⟨RX5, "copyRow", "([I[I)V"⟩
abbrev cX5_putBack : ByteArray := prog_7_method_6_code
def yX5_putBack : MethodName := ⟨RX5, "putBack", "(I)I"⟩
abbrev cX5_has : ByteArray := prog_7_method_7_code
def yX5_has : MethodName := ⟨RX5, "has", "(II)Z"⟩
abbrev cX5_bits : ByteArray := prog_7_method_8_code
def yX5_bits : MethodName := ⟨RX5, "bits", "(I)I"⟩
abbrev cX5_isCat : ByteArray := prog_7_method_9_code
def yX5_isCat : MethodName := ⟨RX5, "isCat", "(I)Z"⟩
abbrev cX5_isShip : ByteArray := prog_7_method_10_code
def yX5_isShip : MethodName := ⟨RX5, "isShip", "(I)Z"⟩
abbrev cX5_isCell : ByteArray := prog_7_method_11_code
def yX5_isCell : MethodName := ⟨RX5, "isCell", "(I)Z"⟩
abbrev cX5_isKind : ByteArray := prog_7_method_12_code
def yX5_isKind : MethodName := ⟨RX5, "isKind", "(I)Z"⟩
abbrev cX5_areCats : ByteArray := prog_7_method_13_code
def yX5_areCats : MethodName := ⟨RX5, "areCats", "(I)Z"⟩
abbrev cX5_at : ByteArray := prog_7_method_14_code
def yX5_at : MethodName := ⟨RX5, "at", "(II)I"⟩
abbrev cX5_catIs : ByteArray := prog_7_method_15_code
def yX5_catIs : MethodName := ⟨RX5, "catIs", "(II)I"⟩
abbrev cX5_atShip : ByteArray := prog_7_method_16_code
def yX5_atShip : MethodName := ⟨RX5, "atShip", "(II)I"⟩
abbrev cX5_shipIs : ByteArray := prog_7_method_17_code
def yX5_shipIs : MethodName := ⟨RX5, "shipIs", "(II)I"⟩
abbrev cX5_comes : ByteArray := prog_7_method_18_code
def yX5_comes : MethodName := ⟨RX5, "comes", "(III)I"⟩
abbrev cX5_cat : ByteArray := prog_7_method_19_code
def yX5_cat : MethodName := ⟨RX5, "cat", "(I)I"⟩
abbrev cX5_above : ByteArray := prog_7_method_20_code
def yX5_above : MethodName := ⟨RX5, "above", "(I)I"⟩
abbrev cX5_isUnder : ByteArray := prog_7_method_21_code
def yX5_isUnder : MethodName := ⟨RX5, "isUnder", "(II)Z"⟩
abbrev cX5_errs : ByteArray := prog_7_method_22_code
def yX5_errs : MethodName := ⟨RX5, "errs", "(I)I"⟩
abbrev cX5_of : ByteArray := prog_7_method_23_code
def yX5_of : MethodName := ⟨RX5, "of", "(II)I"⟩
abbrev cX5_change : ByteArray := prog_7_method_24_code
def yX5_change : MethodName := ⟨RX5, "change", "(III)I"⟩
abbrev cX5_meanOf : ByteArray := prog_7_method_25_code
def yX5_meanOf : MethodName := ⟨RX5, "meanOf", "(I)I"⟩
abbrev cX5_reads : ByteArray := prog_7_method_26_code
def yX5_reads : MethodName := ⟨RX5, "reads", "(I)I"⟩
abbrev cX5_course : ByteArray := prog_7_method_27_code
def yX5_course : MethodName := ⟨RX5, "course", "(I)I"⟩
abbrev cX5_beside : ByteArray := prog_7_method_28_code
def yX5_beside : MethodName := ⟨RX5, "beside", "(II)I"⟩
abbrev cX5_isIsland : ByteArray := prog_7_method_29_code
def yX5_isIsland : MethodName := ⟨RX5, "isIsland", "(I)Z"⟩
abbrev cX5_isLanded : ByteArray := prog_7_method_30_code
def yX5_isLanded : MethodName := ⟨RX5, "isLanded", "(I)Z"⟩
abbrev cX5_goesTo : ByteArray := prog_7_method_31_code
def yX5_goesTo : MethodName := ⟨RX5, "goesTo", "(I)I"⟩
abbrev cX5_ship : ByteArray := prog_7_method_32_code
def yX5_ship : MethodName := ⟨RX5, "ship", "(II)I"⟩
abbrev cX5_steer : ByteArray := prog_7_method_33_code
def yX5_steer : MethodName := ⟨RX5, "steer", "(III)I"⟩
abbrev cX5_island : ByteArray := prog_7_method_34_code
def yX5_island : MethodName := ⟨RX5, "island", "(II)I"⟩
abbrev cX5_wind : ByteArray := prog_7_method_35_code
def yX5_wind : MethodName := ⟨RX5, "wind", "(I)I"⟩
abbrev cX5_fish : ByteArray := prog_7_method_36_code
def yX5_fish : MethodName := ⟨RX5, "fish", "(I)I"⟩
abbrev cX5_store : ByteArray := prog_7_method_37_code
def yX5_store : MethodName := ⟨RX5, "store", "(I)I"⟩
abbrev cX5_landed : ByteArray := prog_7_method_38_code
def yX5_landed : MethodName := ⟨RX5, "landed", "()I"⟩
abbrev cX5_watch : ByteArray := prog_7_method_39_code
def yX5_watch : MethodName := ⟨RX5, "watch", "()V"⟩
abbrev cX5_watches : ByteArray := prog_7_method_40_code
def yX5_watches : MethodName := ⟨RX5, "watches", "(I)V"⟩
abbrev cX5_go : ByteArray := prog_7_method_41_code
def yX5_go : MethodName := ⟨RX5, "go", "(I)I"⟩
abbrev cX5_feeds : ByteArray := prog_7_method_42_code
def yX5_feeds : MethodName := ⟨RX5, "feeds", "(I)I"⟩
abbrev cX5_islands : ByteArray := prog_7_method_43_code
def yX5_islands : MethodName := ⟨RX5, "islands", "()I"⟩
abbrev cX5_hungriest : ByteArray := prog_7_method_44_code
def yX5_hungriest : MethodName := ⟨RX5, "hungriest", "()I"⟩
abbrev cX5_now : ByteArray := prog_7_method_45_code
def yX5_now : MethodName := ⟨RX5, "now", "(I)I"⟩
abbrev cX5_aheadOf : ByteArray := prog_7_method_46_code
def yX5_aheadOf : MethodName := ⟨RX5, "aheadOf", "(II)I"⟩
abbrev cX5_ahead : ByteArray := prog_7_method_47_code
def yX5_ahead : MethodName := ⟨RX5, "ahead", "(II)I"⟩
abbrev cX5_landsIn : ByteArray := prog_7_method_48_code
def yX5_landsIn : MethodName := ⟨RX5, "landsIn", "(II)I"⟩
abbrev cX5_told : ByteArray := prog_7_method_49_code
def yX5_told : MethodName := ⟨RX5, "told", "(I)I"⟩
abbrev cX5_lands : ByteArray := prog_7_method_50_code
def yX5_lands : MethodName := ⟨RX5, "lands", "(I)I"⟩
abbrev cX5_meets : ByteArray := prog_7_method_51_code
def yX5_meets : MethodName := ⟨RX5, "meets", "(II)I"⟩
abbrev cX5_isStill : ByteArray := prog_7_method_52_code
def yX5_isStill : MethodName := ⟨RX5, "isStill", "()Z"⟩
abbrev cX5_still : ByteArray := prog_7_method_53_code
def yX5_still : MethodName := ⟨RX5, "still", "()I"⟩
abbrev cX5_satBehind : ByteArray := prog_7_method_54_code
def yX5_satBehind : MethodName := ⟨RX5, "satBehind", "(II)I"⟩
abbrev cX5_sits : ByteArray := prog_7_method_55_code
def yX5_sits : MethodName := ⟨RX5, "sits", "(II)I"⟩
abbrev cX5_soonestWith : ByteArray := prog_7_method_56_code
def yX5_soonestWith : MethodName := ⟨RX5, "soonestWith", "(III)I"⟩
abbrev cX5_bestOrder : ByteArray := prog_7_method_57_code
def yX5_bestOrder : MethodName := ⟨RX5, "bestOrder", "(I)I"⟩
abbrev cX5_orNone : ByteArray := prog_7_method_58_code
def yX5_orNone : MethodName := ⟨RX5, "orNone", "(I)I"⟩
abbrev cX5_order : ByteArray := prog_7_method_59_code
def yX5_order : MethodName := ⟨RX5, "order", "(I)I"⟩
abbrev cX5_soonest : ByteArray := prog_7_method_60_code
def yX5_soonest : MethodName := ⟨RX5, "soonest", "(I)I"⟩
abbrev cX5_orders : ByteArray := prog_7_method_61_code
def yX5_orders : MethodName := ⟨RX5, "orders", "(II)J"⟩
abbrev cX5_findSurest : ByteArray := prog_7_method_62_code
def yX5_findSurest : MethodName := ⟨RX5, "findSurest", "(I)I"⟩
abbrev cX5_surest : ByteArray := prog_7_method_63_code
def yX5_surest : MethodName := ⟨RX5, "surest", "(I)I"⟩
abbrev cX5_winds : ByteArray := prog_7_method_64_code
def yX5_winds : MethodName := ⟨RX5, "winds", "(I)I"⟩
abbrev cX5_windFor : ByteArray := prog_7_method_65_code
def yX5_windFor : MethodName := ⟨RX5, "windFor", "(I)I"⟩
abbrev cX5_findCrew : ByteArray := prog_7_method_66_code
def yX5_findCrew : MethodName := ⟨RX5, "findCrew", "(I)I"⟩
abbrev cX5_crew : ByteArray := prog_7_method_67_code
def yX5_crew : MethodName := ⟨RX5, "crew", "(I)I"⟩
abbrev cX5_mean : ByteArray := prog_7_method_68_code
def yX5_mean : MethodName := ⟨RX5, "mean", "(I)I"⟩
abbrev cX5_better : ByteArray := prog_7_method_69_code
def yX5_better : MethodName := ⟨RX5, "better", "(I)I"⟩
abbrev cX5_apart : ByteArray := prog_7_method_70_code
def yX5_apart : MethodName := ⟨RX5, "apart", "(II)I"⟩
abbrev cX5_spy : ByteArray := prog_7_method_71_code
def yX5_spy : MethodName := ⟨RX5, "spy", "(III)I"⟩
abbrev cX5_usedIn : ByteArray := prog_7_method_72_code
def yX5_usedIn : MethodName := ⟨RX5, "usedIn", "(II)I"⟩
abbrev cX5_uses : ByteArray := prog_7_method_73_code
def yX5_uses : MethodName := ⟨RX5, "uses", "(II)I"⟩
abbrev cX5_hunger : ByteArray := prog_7_method_74_code
def yX5_hunger : MethodName := ⟨RX5, "hunger", "(I)I"⟩
abbrev cX5_satSo : ByteArray := prog_7_method_75_code
def yX5_satSo : MethodName := ⟨RX5, "satSo", "(II)Z"⟩
abbrev cX5_fitting : ByteArray := prog_7_method_76_code
def yX5_fitting : MethodName := ⟨RX5, "fitting", "(IIIII)J"⟩
abbrev cX5_lacks : ByteArray := prog_7_method_77_code
def yX5_lacks : MethodName := ⟨RX5, "lacks", "(I)I"⟩
abbrev cX5_kinds : ByteArray := prog_7_method_78_code
def yX5_kinds : MethodName := ⟨RX5, "kinds", "(II)I"⟩
abbrev cX5_habits : ByteArray := prog_7_method_79_code
def yX5_habits : MethodName := ⟨RX5, "habits", "(II)I"⟩
abbrev cX5_wentSo : ByteArray := prog_7_method_80_code
def yX5_wentSo : MethodName := ⟨RX5, "wentSo", "(II)Z"⟩
abbrev cX5_findBegun : ByteArray := prog_7_method_81_code
def yX5_findBegun : MethodName := ⟨RX5, "findBegun", "(II)I"⟩
abbrev cX5_begun : ByteArray := prog_7_method_82_code
def yX5_begun : MethodName := ⟨RX5, "begun", "(II)I"⟩
abbrev cX5_from : ByteArray := prog_7_method_83_code
def yX5_from : MethodName := ⟨RX5, "from", "(II)I"⟩
abbrev cX5_drawn : ByteArray := prog_7_method_84_code
def yX5_drawn : MethodName := ⟨RX5, "drawn", "(I)I"⟩
abbrev cX5_storms : ByteArray := prog_7_method_85_code
def yX5_storms : MethodName := ⟨RX5, "storms", "(I)I"⟩
abbrev cX5_odds : ByteArray := prog_7_method_86_code
def yX5_odds : MethodName := ⟨RX5, "odds", "(II)I"⟩
abbrev cX5_drives : ByteArray := prog_7_method_87_code
def yX5_drives : MethodName := ⟨RX5, "drives", "(I)J"⟩
abbrev cX5_seed : ByteArray := prog_7_method_88_code
def yX5_seed : MethodName := ⟨RX5, "seed", "(I)I"⟩
abbrev cX5_feed : ByteArray := prog_7_method_89_code
def yX5_feed : MethodName := ⟨RX5, "feed", "(II)I"⟩
abbrev cX5_wipe : ByteArray := prog_7_method_90_code
def yX5_wipe : MethodName := ⟨RX5, "wipe", "()I"⟩
abbrev cX5_byteAt : ByteArray := prog_7_method_91_code
def yX5_byteAt : MethodName := ⟨RX5, "byteAt", "(I)I"⟩
abbrev cX5_next : ByteArray := prog_7_method_92_code
def yX5_next : MethodName := ⟨RX5, "next", "()V"⟩
abbrev cX5_isWord : ByteArray := prog_7_method_93_code
def yX5_isWord : MethodName := ⟨RX5, "isWord", "(Ljava/lang/String;)Z"⟩
abbrev cX5_must : ByteArray := prog_7_method_94_code
def yX5_must : MethodName := ⟨RX5, "must", "(Z)V"⟩
abbrev cX5_number : ByteArray := prog_7_method_95_code
def yX5_number : MethodName := ⟨RX5, "number", "(II)I"⟩
abbrev cX5_item : ByteArray := prog_7_method_96_code
def yX5_item : MethodName := ⟨RX5, "item", "(III)V"⟩
abbrev cX5_kindTold : ByteArray := prog_7_method_97_code
def yX5_kindTold : MethodName := ⟨RX5, "kindTold", "()I"⟩
abbrev cX5_isNext : ByteArray := prog_7_method_98_code
def yX5_isNext : MethodName := ⟨RX5, "isNext", "(Ljava/lang/String;)Z"⟩
abbrev cX5_isMinus : ByteArray := prog_7_method_99_code
def yX5_isMinus : MethodName := ⟨RX5, "isMinus", "()Z"⟩
abbrev cX5_habitTold : ByteArray := prog_7_method_100_code
def yX5_habitTold : MethodName := ⟨RX5, "habitTold", "()I"⟩
abbrev cX5_shipTold : ByteArray := prog_7_method_101_code
def yX5_shipTold : MethodName := ⟨RX5, "shipTold", "()V"⟩
abbrev cX5_readItem : ByteArray := prog_7_method_102_code
def yX5_readItem : MethodName := ⟨RX5, "readItem", "()V"⟩
abbrev cX5_isSo : ByteArray := prog_7_method_103_code
def yX5_isSo : MethodName := ⟨RX5, "isSo", "(I)I"⟩
abbrev cX5_text : ByteArray := prog_7_method_104_code
def yX5_text : MethodName := ⟨RX5, "text", "()I"⟩
abbrev cX5_isSpot : ByteArray := prog_7_method_105_code
def yX5_isSpot : MethodName := ⟨RX5, "isSpot", "(I)Z"⟩
abbrev cX5_hold : ByteArray := prog_7_method_106_code
def yX5_hold : MethodName := ⟨RX5, "hold", "(II)I"⟩
abbrev cX5_as : ByteArray := prog_7_method_107_code
def yX5_as : MethodName := ⟨RX5, "as", "(II)I"⟩
abbrev cX5_isSheet : ByteArray := prog_7_method_108_code
def yX5_isSheet : MethodName := ⟨RX5, "isSheet", "(I)Z"⟩
abbrev cX5_cutTo : ByteArray := prog_7_method_109_code
def yX5_cutTo : MethodName := ⟨RX5, "cutTo", "(II)I"⟩
abbrev cX5_sheet : ByteArray := prog_7_method_110_code
def yX5_sheet : MethodName := ⟨RX5, "sheet", "(III)I"⟩
abbrev cX5_write : ByteArray := prog_7_method_111_code
def yX5_write : MethodName := ⟨RX5, "write", "(III)I"⟩
abbrev cX5_copy : ByteArray := prog_7_method_112_code
def yX5_copy : MethodName := ⟨RX5, "copy", "(IIIII)I"⟩
abbrev cX5_load : ByteArray := prog_7_method_113_code
def yX5_load : MethodName := ⟨RX5, "load", "(I)I"⟩
abbrev cX5_judge : ByteArray := prog_7_method_114_code
def yX5_judge : MethodName := ⟨RX5, "judge", "(I)I"⟩
abbrev cX5_image : ByteArray := prog_7_method_115_code
def yX5_image : MethodName := ⟨RX5, "image", "()I"⟩
abbrev cX5_undo : ByteArray := prog_7_method_116_code
def yX5_undo : MethodName := ⟨RX5, "undo", "()I"⟩
abbrev cX5_tear : ByteArray := prog_7_method_117_code
def yX5_tear : MethodName := ⟨RX5, "tear", "()I"⟩
abbrev cX5_count : ByteArray := prog_7_method_118_code
def yX5_count : MethodName := ⟨RX5, "count", "(I)I"⟩
abbrev cX5_status : ByteArray := prog_7_method_119_code
def yX5_status : MethodName := ⟨RX5, "status", "(I)I"⟩
def RJx145de : String := "java/io/Serializable"
def TJx145de : u_T := fun k => match k with
  | _ => ("", "", "", false)
def tyJx145de : Nat → FieldType := fun k => match k with
  | _ => .int
abbrev wsJx145de0 : List Cond := u_ws RJx145de TJx145de 0
theorem nmJx145de : ∀ a, a < 0 → ∀ b, b < 0 → a ≠ b → (TJx145de a).2.1 ≠ (TJx145de b).2.1 := by decide +kernel
theorem tyJx145de_ok : ∀ k, k < 0 → parseFieldDescriptor (TJx145de k).2.2.1 = some (tyJx145de k) := by decide +kernel
def RJx9f9b0 : String := "java/lang/CharSequence"
def TJx9f9b0 : u_T := fun k => match k with
  | _ => ("", "", "", false)
def tyJx9f9b0 : Nat → FieldType := fun k => match k with
  | _ => .int
abbrev wsJx9f9b00 : List Cond := u_ws RJx9f9b0 TJx9f9b0 0
theorem nmJx9f9b0 : ∀ a, a < 0 → ∀ b, b < 0 → a ≠ b → (TJx9f9b0 a).2.1 ≠ (TJx9f9b0 b).2.1 := by decide +kernel
theorem tyJx9f9b0_ok : ∀ k, k < 0 → parseFieldDescriptor (TJx9f9b0 k).2.2.1 = some (tyJx9f9b0 k) := by decide +kernel
def RJxb160c : String := "java/lang/Comparable"
def TJxb160c : u_T := fun k => match k with
  | _ => ("", "", "", false)
def tyJxb160c : Nat → FieldType := fun k => match k with
  | _ => .int
abbrev wsJxb160c0 : List Cond := u_ws RJxb160c TJxb160c 0
theorem nmJxb160c : ∀ a, a < 0 → ∀ b, b < 0 → a ≠ b → (TJxb160c a).2.1 ≠ (TJxb160c b).2.1 := by decide +kernel
theorem tyJxb160c_ok : ∀ k, k < 0 → parseFieldDescriptor (TJxb160c k).2.2.1 = some (tyJxb160c k) := by decide +kernel
def RJ6 : String := "java/lang/Integer"
def TJ6 : u_T := fun k => match k with
  | _ => ("", "", "", false)
def tyJ6 : Nat → FieldType := fun k => match k with
  | _ => .int
abbrev wsJ60 : List Cond := u_ws RJ6 TJ6 0
theorem nmJ6 : ∀ a, a < 0 → ∀ b, b < 0 → a ≠ b → (TJ6 a).2.1 ≠ (TJ6 b).2.1 := by decide +kernel
theorem tyJ6_ok : ∀ k, k < 0 → parseFieldDescriptor (TJ6 k).2.2.1 = some (tyJ6 k) := by decide +kernel
abbrev cJ6_bitCount_0f7a4 : ByteArray := prog_8_method_49_code
def yJ6_bitCount_0f7a4 : MethodName := ⟨RJ6, "bitCount", "(I)I"⟩
def RJ9 : String := "java/lang/Math"
def TJ9 : u_T := fun k => match k with
  | _ => ("", "", "", false)
def tyJ9 : Nat → FieldType := fun k => match k with
  | _ => .int
abbrev wsJ90 : List Cond := u_ws RJ9 TJ9 0
theorem nmJ9 : ∀ a, a < 0 → ∀ b, b < 0 → a ≠ b → (TJ9 a).2.1 ≠ (TJ9 b).2.1 := by decide +kernel
theorem tyJ9_ok : ∀ k, k < 0 → parseFieldDescriptor (TJ9 k).2.2.1 = some (tyJ9 k) := by decide +kernel
abbrev cJ9_floorMod_7cf53 : ByteArray := prog_9_method_50_code
def yJ9_floorMod_7cf53 : MethodName := ⟨RJ9, "floorMod", "(II)I"⟩
abbrev cJ9_abs_0f7a4 : ByteArray := prog_9_method_59_code
def yJ9_abs_0f7a4 : MethodName := ⟨RJ9, "abs", "(I)I"⟩
abbrev cJ9_max_7cf53 : ByteArray := prog_9_method_65_code
def yJ9_max_7cf53 : MethodName := ⟨RJ9, "max", "(II)I"⟩
abbrev cJ9_min_7cf53 : ByteArray := prog_9_method_69_code
def yJ9_min_7cf53 : MethodName := ⟨RJ9, "min", "(II)I"⟩
def RJ0 : String := "java/lang/String"
def TJ0 : u_T := fun k => match k with
  | _ => ("", "", "", false)
def tyJ0 : Nat → FieldType := fun k => match k with
  | _ => .int
abbrev wsJ00 : List Cond := u_ws RJ0 TJ0 0
theorem nmJ0 : ∀ a, a < 0 → ∀ b, b < 0 → a ≠ b → (TJ0 a).2.1 ≠ (TJ0 b).2.1 := by decide +kernel
theorem tyJ0_ok : ∀ k, k < 0 → parseFieldDescriptor (TJ0 k).2.2.1 = some (tyJ0 k) := by decide +kernel
abbrev cJ0_length_8abf5 : ByteArray := prog_10_method_54_code
def yJ0_length_8abf5 : MethodName := ⟨RJ0, "length", "()I"⟩
abbrev cJ0_charAt_5068e : ByteArray := prog_10_method_56_code
def yJ0_charAt_5068e : MethodName := ⟨RJ0, "charAt", "(I)C"⟩
abbrev cJ0_coder_7d493 : ByteArray := prog_10_method_152_code
def yJ0_coder_7d493 : MethodName := ⟨RJ0, "coder", "()B"⟩
abbrev cJ0_isLatin1_aae02 : ByteArray := prog_10_method_154_code
def yJ0_isLatin1_aae02 : MethodName := ⟨RJ0, "isLatin1", "()Z"⟩
abbrev cJ0_checkIndex_df160 : ByteArray := prog_10_method_155_code
def yJ0_checkIndex_df160 : MethodName := ⟨RJ0, "checkIndex", "(II)V"⟩
def RJ1 : String := "java/lang/StringLatin1"
def TJ1 : u_T := fun k => match k with
  | _ => ("", "", "", false)
def tyJ1 : Nat → FieldType := fun k => match k with
  | _ => .int
abbrev wsJ10 : List Cond := u_ws RJ1 TJ1 0
theorem nmJ1 : ∀ a, a < 0 → ∀ b, b < 0 → a ≠ b → (TJ1 a).2.1 ≠ (TJ1 b).2.1 := by decide +kernel
theorem tyJ1_ok : ∀ k, k < 0 → parseFieldDescriptor (TJ1 k).2.2.1 = some (tyJ1 k) := by decide +kernel
abbrev cJ1_charAt_3b067 : ByteArray := prog_11_method_2_code
def yJ1_charAt_3b067 : MethodName := ⟨RJ1, "charAt", "([BI)C"⟩
def RJ2 : String := "java/lang/StringUTF16"
def TJ2 : u_T := fun k => match k with
  | _ => ("", "", "", false)
def tyJ2 : Nat → FieldType := fun k => match k with
  | _ => .int
abbrev wsJ20 : List Cond := u_ws RJ2 TJ2 0
theorem nmJ2 : ∀ a, a < 0 → ∀ b, b < 0 → a ≠ b → (TJ2 a).2.1 ≠ (TJ2 b).2.1 := by decide +kernel
theorem tyJ2_ok : ∀ k, k < 0 → parseFieldDescriptor (TJ2 k).2.2.1 = some (tyJ2 k) := by decide +kernel
abbrev cJ2_getChar_3b067 : ByteArray := prog_12_method_5_code
def yJ2_getChar_3b067 : MethodName := ⟨RJ2, "getChar", "([BI)C"⟩
abbrev cJ2_length_9d52b : ByteArray := prog_12_method_6_code
def yJ2_length_9d52b : MethodName := ⟨RJ2, "length", "([B)I"⟩
abbrev cJ2_charAt_3b067 : ByteArray := prog_12_method_83_code
def yJ2_charAt_3b067 : MethodName := ⟨RJ2, "charAt", "([BI)C"⟩
abbrev cJ2_checkIndex_2214a : ByteArray := prog_12_method_91_code
def yJ2_checkIndex_2214a : MethodName := ⟨RJ2, "checkIndex", "(I[B)V"⟩
def RJ10 : String := "java/lang/System"
def TJ10 : u_T := fun k => match k with
  | _ => ("", "", "", false)
def tyJ10 : Nat → FieldType := fun k => match k with
  | _ => .int
abbrev wsJ100 : List Cond := u_ws RJ10 TJ10 0
theorem nmJ10 : ∀ a, a < 0 → ∀ b, b < 0 → a ≠ b → (TJ10 a).2.1 ≠ (TJ10 b).2.1 := by decide +kernel
theorem tyJ10_ok : ∀ k, k < 0 → parseFieldDescriptor (TJ10 k).2.2.1 = some (tyJ10 k) := by decide +kernel
def RJxfd54e : String := "java/lang/constant/Constable"
def TJxfd54e : u_T := fun k => match k with
  | _ => ("", "", "", false)
def tyJxfd54e : Nat → FieldType := fun k => match k with
  | _ => .int
abbrev wsJxfd54e0 : List Cond := u_ws RJxfd54e TJxfd54e 0
theorem nmJxfd54e : ∀ a, a < 0 → ∀ b, b < 0 → a ≠ b → (TJxfd54e a).2.1 ≠ (TJxfd54e b).2.1 := by decide +kernel
theorem tyJxfd54e_ok : ∀ k, k < 0 → parseFieldDescriptor (TJxfd54e k).2.2.1 = some (tyJxfd54e k) := by decide +kernel
def RJx3cf43 : String := "java/lang/constant/ConstantDesc"
def TJx3cf43 : u_T := fun k => match k with
  | _ => ("", "", "", false)
def tyJx3cf43 : Nat → FieldType := fun k => match k with
  | _ => .int
abbrev wsJx3cf430 : List Cond := u_ws RJx3cf43 TJx3cf43 0
theorem nmJx3cf43 : ∀ a, a < 0 → ∀ b, b < 0 → a ≠ b → (TJx3cf43 a).2.1 ≠ (TJx3cf43 b).2.1 := by decide +kernel
theorem tyJx3cf43_ok : ∀ k, k < 0 → parseFieldDescriptor (TJx3cf43 k).2.2.1 = some (tyJx3cf43 k) := by decide +kernel
def RJ7 : String := "java/util/Arrays"
def TJ7 : u_T := fun k => match k with
  | _ => ("", "", "", false)
def tyJ7 : Nat → FieldType := fun k => match k with
  | _ => .int
abbrev wsJ70 : List Cond := u_ws RJ7 TJ7 0
theorem nmJ7 : ∀ a, a < 0 → ∀ b, b < 0 → a ≠ b → (TJ7 a).2.1 ≠ (TJ7 b).2.1 := by decide +kernel
theorem tyJ7_ok : ∀ k, k < 0 → parseFieldDescriptor (TJ7 k).2.2.1 = some (tyJ7 k) := by decide +kernel
abbrev cJ7_fill_53178 : ByteArray := prog_14_method_103_code
def yJ7_fill_53178 : MethodName := ⟨RJ7, "fill", "([II)V"⟩
def RJ3 : String := "jdk/internal/util/Preconditions"
def TJ3 : u_T := fun k => match k with
  | _ => ("", "", "", false)
def tyJ3 : Nat → FieldType := fun k => match k with
  | _ => .int
abbrev wsJ30 : List Cond := u_ws RJ3 TJ3 0
theorem nmJ3 : ∀ a, a < 0 → ∀ b, b < 0 → a ≠ b → (TJ3 a).2.1 ≠ (TJ3 b).2.1 := by decide +kernel
theorem tyJ3_ok : ∀ k, k < 0 → parseFieldDescriptor (TJ3 k).2.2.1 = some (tyJ3 k) := by decide +kernel
abbrev cJ3_checkIndex_8e157 : ByteArray := prog_15_method_11_code
def yJ3_checkIndex_8e157 : MethodName := ⟨RJ3, "checkIndex", "(IILjava/util/function/BiFunction;)I"⟩
def RL : String := "NavyOfCatsLaw"
abbrev cL_law : ByteArray := code
def yL_law : MethodName := ⟨RL, "law", "([I)Z"⟩
abbrev vwCl : List vw_C := [(RX0, TX0, 14), (RX1, TX1, 8), (RX2, TX2, 3), (RX3, TX3, 2), (RX4, TX4, 9), (RX5, TX5, 26)]
end
section
/-- the words of the tables that a call keeps -/
def TT : List Cond := lw_tbl.filter goodWord
theorem TT_self : GoodIn TT TT := fun w h => ⟨h, good_of_word (List.mem_filter.mp h).2⟩
theorem TT_in : GoodIn lw_tbl TT := fun w h => ⟨(List.mem_filter.mp h).1, good_of_word (List.mem_filter.mp h).2⟩
theorem TT_cons {w : Cond} (h : w ∈ TT) : GoodIn TT (w :: TT) := fun x hx => (List.mem_cons.mp hx).elim (fun e => by rw [e]; exact TT_self w h) (fun h => TT_self x h)
theorem TT_consL {w : Cond} (h : w ∈ TT) : GoodIn lw_tbl (w :: TT) := fun x hx => (List.mem_cons.mp hx).elim (fun e => by rw [e]; exact TT_in w h) (fun h => TT_in x h)
theorem tmb_1 {w : Cond} (h : w ∈ tables_1_1) (g : goodWord w = true) : w ∈ TT := List.mem_filter.mpr ⟨List.mem_append_right _ (show w ∈ tables_1 from List.mem_append_left _ h), g⟩
theorem tmb_2 {w : Cond} (h : w ∈ tables_1_2) (g : goodWord w = true) : w ∈ TT := List.mem_filter.mpr ⟨List.mem_append_right _ (show w ∈ tables_1 from List.mem_append_right _ (List.mem_append_left _ h)), g⟩
theorem tmb_3 {w : Cond} (h : w ∈ tables_1_3) (g : goodWord w = true) : w ∈ TT := List.mem_filter.mpr ⟨List.mem_append_right _ (show w ∈ tables_1 from List.mem_append_right _ (List.mem_append_right _ (List.mem_append_left _ h))), g⟩
theorem tmb_4 {w : Cond} (h : w ∈ tables_1_4) (g : goodWord w = true) : w ∈ TT := List.mem_filter.mpr ⟨List.mem_append_right _ (show w ∈ tables_1 from List.mem_append_right _ (List.mem_append_right _ (List.mem_append_right _ (List.mem_append_left _ h)))), g⟩
theorem tmb_5 {w : Cond} (h : w ∈ tables_1_5) (g : goodWord w = true) : w ∈ TT := List.mem_filter.mpr ⟨List.mem_append_right _ (show w ∈ tables_1 from List.mem_append_right _ (List.mem_append_right _ (List.mem_append_right _ (List.mem_append_right _ (List.mem_append_left _ h))))), g⟩
theorem tmb_6 {w : Cond} (h : w ∈ tables_1_6) (g : goodWord w = true) : w ∈ TT := List.mem_filter.mpr ⟨List.mem_append_right _ (show w ∈ tables_1 from List.mem_append_right _ (List.mem_append_right _ (List.mem_append_right _ (List.mem_append_right _ (List.mem_append_right _ (h)))))), g⟩
theorem tms_1 {q : MethodName × Nat} (h : q ∈ lw_privs_1) (g : goodWord (Cond.selects q.1.cls q.1 q.1) = true) : Cond.selects q.1.cls q.1 q.1 ∈ TT := List.mem_filter.mpr ⟨List.mem_append_left _ (List.mem_map.mpr ⟨q, show q ∈ lw_privs from List.mem_append_left _ h, rfl⟩), g⟩
theorem tms_2 {q : MethodName × Nat} (h : q ∈ lw_privs_2) (g : goodWord (Cond.selects q.1.cls q.1 q.1) = true) : Cond.selects q.1.cls q.1 q.1 ∈ TT := List.mem_filter.mpr ⟨List.mem_append_left _ (List.mem_map.mpr ⟨q, show q ∈ lw_privs from List.mem_append_right _ (List.mem_append_left _ h), rfl⟩), g⟩
theorem tms_3 {q : MethodName × Nat} (h : q ∈ lw_privs_3) (g : goodWord (Cond.selects q.1.cls q.1 q.1) = true) : Cond.selects q.1.cls q.1 q.1 ∈ TT := List.mem_filter.mpr ⟨List.mem_append_left _ (List.mem_map.mpr ⟨q, show q ∈ lw_privs from List.mem_append_right _ (List.mem_append_right _ (List.mem_append_left _ h)), rfl⟩), g⟩
theorem tms_4 {q : MethodName × Nat} (h : q ∈ lw_privs_4) (g : goodWord (Cond.selects q.1.cls q.1 q.1) = true) : Cond.selects q.1.cls q.1 q.1 ∈ TT := List.mem_filter.mpr ⟨List.mem_append_left _ (List.mem_map.mpr ⟨q, show q ∈ lw_privs from List.mem_append_right _ (List.mem_append_right _ (List.mem_append_right _ (List.mem_append_left _ h))), rfl⟩), g⟩
theorem tms_5 {q : MethodName × Nat} (h : q ∈ lw_privs_5) (g : goodWord (Cond.selects q.1.cls q.1 q.1) = true) : Cond.selects q.1.cls q.1 q.1 ∈ TT := List.mem_filter.mpr ⟨List.mem_append_left _ (List.mem_map.mpr ⟨q, show q ∈ lw_privs from List.mem_append_right _ (List.mem_append_right _ (List.mem_append_right _ (List.mem_append_right _ (h)))), rfl⟩), g⟩
theorem tw1_15 : Cond.classLink RL 7 RX4 ∈ TT := tmb_1 (List.mem_of_getElem? (i := 15) rfl) rfl
theorem tw1_16 : Cond.instantiable RX4 9 ∈ TT := tmb_1 (List.mem_of_getElem? (i := 16) rfl) rfl
theorem tw1_1 : Cond.initialized RX4 ∈ TT := tmb_1 (List.mem_of_getElem? (i := 1) rfl) rfl
theorem tw4_68 : Cond.classLink RL 10 RX5 ∈ TT := tmb_4 (List.mem_of_getElem? (i := 68) rfl) rfl
theorem tw4_69 : Cond.instantiable RX5 26 ∈ TT := tmb_4 (List.mem_of_getElem? (i := 69) rfl) rfl
theorem tw1_7 : Cond.initialized RX5 ∈ TT := tmb_1 (List.mem_of_getElem? (i := 7) rfl) rfl
theorem tw1_17 : Cond.methodLink RL 9 yX4_init ∈ TT := tmb_1 (List.mem_of_getElem? (i := 17) rfl) rfl
theorem tw1_18 : Cond.instanceMethod yX4_init ∈ TT := tmb_1 (List.mem_of_getElem? (i := 18) rfl) rfl
theorem tw1_19 : Cond.code yX4_init cX4_init 2 none ∈ TT := tmb_1 (List.mem_of_getElem? (i := 19) rfl) rfl
theorem tw1_20 : Cond.methodLink RX4 3 objectInit ∈ TT := tmb_1 (List.mem_of_getElem? (i := 20) rfl) rfl
theorem tw1_21 : Cond.instanceMethod objectInit ∈ TT := tmb_1 (List.mem_of_getElem? (i := 21) rfl) rfl
theorem tw1_22 : Cond.code objectInit ⟨#[0xb1]⟩ 1 none ∈ TT := tmb_1 (List.mem_of_getElem? (i := 22) rfl) rfl
theorem tw1_23 : Cond.classLink RX4 9 RX0 ∈ TT := tmb_1 (List.mem_of_getElem? (i := 23) rfl) rfl
theorem tw1_24 : Cond.instantiable RX0 14 ∈ TT := tmb_1 (List.mem_of_getElem? (i := 24) rfl) rfl
theorem tw1_2 : Cond.initialized RX0 ∈ TT := tmb_1 (List.mem_of_getElem? (i := 2) rfl) rfl
theorem tw1_166 : Cond.fieldLink RX4 12 "NavyOfCats" "navy" "LNavyOfCats$Navy;" ∈ TT := tmb_1 (List.mem_of_getElem? (i := 166) rfl) rfl
theorem tw1_167 : Cond.fieldLink RX4 16 "NavyOfCats" "kept" "LNavyOfCats$Navy;" ∈ TT := tmb_1 (List.mem_of_getElem? (i := 167) rfl) rfl
theorem tw1_99 : Cond.classLink RX4 19 RX3 ∈ TT := tmb_1 (List.mem_of_getElem? (i := 99) rfl) rfl
theorem tw1_100 : Cond.instantiable RX3 2 ∈ TT := tmb_1 (List.mem_of_getElem? (i := 100) rfl) rfl
theorem tw1_4 : Cond.initialized RX3 ∈ TT := tmb_1 (List.mem_of_getElem? (i := 4) rfl) rfl
theorem tw1_169 : Cond.fieldLink RX4 22 "NavyOfCats" "tape" "LNavyOfCats$Tape;" ∈ TT := tmb_1 (List.mem_of_getElem? (i := 169) rfl) rfl
theorem tw1_115 : Cond.classLink RX4 26 RX1 ∈ TT := tmb_1 (List.mem_of_getElem? (i := 115) rfl) rfl
theorem tw1_116 : Cond.instantiable RX1 8 ∈ TT := tmb_1 (List.mem_of_getElem? (i := 116) rfl) rfl
theorem tw1_5 : Cond.initialized RX1 ∈ TT := tmb_1 (List.mem_of_getElem? (i := 5) rfl) rfl
theorem tw1_170 : Cond.fieldLink RX4 29 "NavyOfCats" "reader" "LNavyOfCats$Reader;" ∈ TT := tmb_1 (List.mem_of_getElem? (i := 170) rfl) rfl
theorem tw1_146 : Cond.classLink RX4 33 RX2 ∈ TT := tmb_1 (List.mem_of_getElem? (i := 146) rfl) rfl
theorem tw1_171 : Cond.fieldLink RX4 35 "NavyOfCats" "sheets" "[LNavyOfCats$Sheet;" ∈ TT := tmb_1 (List.mem_of_getElem? (i := 171) rfl) rfl
theorem tw1_97 : Cond.arrayClass .int ∈ TT := tmb_1 (List.mem_of_getElem? (i := 97) rfl) rfl
theorem tw1_172 : Cond.fieldLink RX4 39 "NavyOfCats" "found" "[I" ∈ TT := tmb_1 (List.mem_of_getElem? (i := 172) rfl) rfl
theorem tw1_173 : Cond.fieldLink RX4 43 "NavyOfCats" "reads" "[I" ∈ TT := tmb_1 (List.mem_of_getElem? (i := 173) rfl) rfl
theorem tw1_174 : Cond.fieldLink RX4 46 "NavyOfCats" "places" "[I" ∈ TT := tmb_1 (List.mem_of_getElem? (i := 174) rfl) rfl
theorem tw1_148 : Cond.instantiable RX2 3 ∈ TT := tmb_1 (List.mem_of_getElem? (i := 148) rfl) rfl
theorem tw1_6 : Cond.initialized RX2 ∈ TT := tmb_1 (List.mem_of_getElem? (i := 6) rfl) rfl
theorem tw1_25 : Cond.methodLink RX4 11 yX0_init ∈ TT := tmb_1 (List.mem_of_getElem? (i := 25) rfl) rfl
theorem tw1_26 : Cond.instanceMethod yX0_init ∈ TT := tmb_1 (List.mem_of_getElem? (i := 26) rfl) rfl
theorem tw1_27 : Cond.code yX0_init cX0_init 1 none ∈ TT := tmb_1 (List.mem_of_getElem? (i := 27) rfl) rfl
theorem tw1_28 : Cond.methodLink RX0 3 objectInit ∈ TT := tmb_1 (List.mem_of_getElem? (i := 28) rfl) rfl
theorem tw1_35 : Cond.fieldLink RX0 9 "NavyOfCats$Navy" "kindOf" "[I" ∈ TT := tmb_1 (List.mem_of_getElem? (i := 35) rfl) rfl
theorem tw1_37 : Cond.fieldLink RX0 15 "NavyOfCats$Navy" "hungerOf" "[I" ∈ TT := tmb_1 (List.mem_of_getElem? (i := 37) rfl) rfl
theorem tw1_39 : Cond.fieldLink RX0 18 "NavyOfCats$Navy" "habitOf" "[I" ∈ TT := tmb_1 (List.mem_of_getElem? (i := 39) rfl) rfl
theorem tw1_41 : Cond.fieldLink RX0 21 "NavyOfCats$Navy" "cellOf" "[I" ∈ TT := tmb_1 (List.mem_of_getElem? (i := 41) rfl) rfl
theorem tw1_44 : Cond.fieldLink RX0 24 "NavyOfCats$Navy" "orderOf" "[I" ∈ TT := tmb_1 (List.mem_of_getElem? (i := 44) rfl) rfl
theorem tw1_47 : Cond.fieldLink RX0 27 "NavyOfCats$Navy" "aboardOf" "[I" ∈ TT := tmb_1 (List.mem_of_getElem? (i := 47) rfl) rfl
theorem tw1_98 : Cond.arrayClass .boolean ∈ TT := tmb_1 (List.mem_of_getElem? (i := 98) rfl) rfl
theorem tw1_50 : Cond.fieldLink RX0 30 "NavyOfCats$Navy" "isIsland" "[Z" ∈ TT := tmb_1 (List.mem_of_getElem? (i := 50) rfl) rfl
theorem tw1_59 : Cond.fieldLink RX0 34 "NavyOfCats$Navy" "stored" "I" ∈ TT := tmb_1 (List.mem_of_getElem? (i := 59) rfl) rfl
theorem tw1_64 : Cond.fieldLink RX0 38 "NavyOfCats$Navy" "z" "I" ∈ TT := tmb_1 (List.mem_of_getElem? (i := 64) rfl) rfl
theorem tw1_66 : Cond.fieldLink RX0 41 "NavyOfCats$Navy" "spots" "[I" ∈ TT := tmb_1 (List.mem_of_getElem? (i := 66) rfl) rfl
theorem tw1_29 : Cond.methodLink RX0 44 yJ7_fill_53178 ∈ TT := tmb_1 (List.mem_of_getElem? (i := 29) rfl) rfl
theorem tw1_30 : Cond.static yJ7_fill_53178 ∈ TT := tmb_1 (List.mem_of_getElem? (i := 30) rfl) rfl
theorem tw1_3 : Cond.initialized RJ7 ∈ TT := tmb_1 (List.mem_of_getElem? (i := 3) rfl) rfl
theorem tw1_31 : Cond.code yJ7_fill_53178 cJ7_fill_53178 4 none ∈ TT := tmb_1 (List.mem_of_getElem? (i := 31) rfl) rfl
theorem tw1_102 : Cond.instanceMethod yX3_init ∈ TT := tmb_1 (List.mem_of_getElem? (i := 102) rfl) rfl
theorem tw1_103 : Cond.code yX3_init cX3_init 1 none ∈ TT := tmb_1 (List.mem_of_getElem? (i := 103) rfl) rfl
theorem tw1_104 : Cond.methodLink RX3 3 objectInit ∈ TT := tmb_1 (List.mem_of_getElem? (i := 104) rfl) rfl
theorem tw1_105 : Cond.fieldLink RX3 9 "NavyOfCats$Tape" "bytes" "[I" ∈ TT := tmb_1 (List.mem_of_getElem? (i := 105) rfl) rfl
theorem tw1_118 : Cond.instanceMethod yX1_init ∈ TT := tmb_1 (List.mem_of_getElem? (i := 118) rfl) rfl
theorem tw1_119 : Cond.code yX1_init cX1_init 1 none ∈ TT := tmb_1 (List.mem_of_getElem? (i := 119) rfl) rfl
theorem tw1_120 : Cond.methodLink RX1 3 objectInit ∈ TT := tmb_1 (List.mem_of_getElem? (i := 120) rfl) rfl
theorem tw1_121 : Cond.fieldLink RX1 9 "NavyOfCats$Reader" "tokens" "[I" ∈ TT := tmb_1 (List.mem_of_getElem? (i := 121) rfl) rfl
theorem tw1_122 : Cond.fieldLink RX1 15 "NavyOfCats$Reader" "begins" "[I" ∈ TT := tmb_1 (List.mem_of_getElem? (i := 122) rfl) rfl
theorem tw1_123 : Cond.fieldLink RX1 18 "NavyOfCats$Reader" "numbers" "[I" ∈ TT := tmb_1 (List.mem_of_getElem? (i := 123) rfl) rfl
theorem tw1_150 : Cond.instanceMethod yX2_init ∈ TT := tmb_1 (List.mem_of_getElem? (i := 150) rfl) rfl
theorem tw1_151 : Cond.code yX2_init cX2_init 1 none ∈ TT := tmb_1 (List.mem_of_getElem? (i := 151) rfl) rfl
theorem tw1_152 : Cond.methodLink RX2 3 objectInit ∈ TT := tmb_1 (List.mem_of_getElem? (i := 152) rfl) rfl
theorem tw1_157 : Cond.fieldLink RX2 9 "NavyOfCats$Sheet" "numbers" "[I" ∈ TT := tmb_1 (List.mem_of_getElem? (i := 157) rfl) rfl
theorem tw4_70 : Cond.methodLink RL 12 yX5_init ∈ TT := tmb_4 (List.mem_of_getElem? (i := 70) rfl) rfl
theorem tw4_71 : Cond.instanceMethod yX5_init ∈ TT := tmb_4 (List.mem_of_getElem? (i := 71) rfl) rfl
theorem tw4_72 : Cond.code yX5_init cX5_init 2 none ∈ TT := tmb_4 (List.mem_of_getElem? (i := 72) rfl) rfl
theorem tw4_73 : Cond.methodLink RX5 1 objectInit ∈ TT := tmb_4 (List.mem_of_getElem? (i := 73) rfl) rfl
theorem tw4_83 : Cond.fieldLink RX5 9 "NavyOfCatsModel" "now" "[I" ∈ TT := tmb_4 (List.mem_of_getElem? (i := 83) rfl) rfl
theorem tw4_84 : Cond.fieldLink RX5 13 "NavyOfCatsModel" "kept" "[I" ∈ TT := tmb_4 (List.mem_of_getElem? (i := 84) rfl) rfl
theorem tw4_85 : Cond.fieldLink RX5 16 "NavyOfCatsModel" "aside" "[I" ∈ TT := tmb_4 (List.mem_of_getElem? (i := 85) rfl) rfl
theorem tw4_87 : Cond.fieldLink RX5 19 "NavyOfCatsModel" "found" "[I" ∈ TT := tmb_4 (List.mem_of_getElem? (i := 87) rfl) rfl
theorem tw4_88 : Cond.fieldLink RX5 22 "NavyOfCatsModel" "down" "[I" ∈ TT := tmb_4 (List.mem_of_getElem? (i := 88) rfl) rfl
theorem tw4_89 : Cond.fieldLink RX5 25 "NavyOfCatsModel" "right" "[I" ∈ TT := tmb_4 (List.mem_of_getElem? (i := 89) rfl) rfl
theorem tw4_93 : Cond.fieldLink RX5 28 "NavyOfCatsModel" "tape" "[I" ∈ TT := tmb_4 (List.mem_of_getElem? (i := 93) rfl) rfl
theorem tw4_74 : Cond.classLink RX5 31 RJ0 ∈ TT := tmb_4 (List.mem_of_getElem? (i := 74) rfl) rfl
theorem tw4_100 : Cond.fieldLink RX5 47 "NavyOfCatsModel" "kindNames" "[Ljava/lang/String;" ∈ TT := tmb_4 (List.mem_of_getElem? (i := 100) rfl) rfl
theorem tw4_101 : Cond.fieldLink RX5 51 "NavyOfCatsModel" "items" "[I" ∈ TT := tmb_4 (List.mem_of_getElem? (i := 101) rfl) rfl
theorem tw4_105 : Cond.fieldLink RX5 54 "NavyOfCatsModel" "widths" "[I" ∈ TT := tmb_4 (List.mem_of_getElem? (i := 105) rfl) rfl
theorem tw4_106 : Cond.fieldLink RX5 57 "NavyOfCatsModel" "sizes" "[I" ∈ TT := tmb_4 (List.mem_of_getElem? (i := 106) rfl) rfl
theorem tw4_107 : Cond.fieldLink RX5 60 "NavyOfCatsModel" "numbers" "[I" ∈ TT := tmb_4 (List.mem_of_getElem? (i := 107) rfl) rfl
theorem tw4_108 : Cond.fieldLink RX5 63 "NavyOfCatsModel" "moved" "[I" ∈ TT := tmb_4 (List.mem_of_getElem? (i := 108) rfl) rfl
theorem tw1_194 : Cond.methodLink RL 13 yX4_cat ∈ TT := tmb_1 (List.mem_of_getElem? (i := 194) rfl) rfl
theorem tw1_195 : Cond.instanceMethod yX4_cat ∈ TT := tmb_1 (List.mem_of_getElem? (i := 195) rfl) rfl
theorem tw1_196 : Cond.selects RX4 yX4_cat yX4_cat ∈ TT := tmb_1 (List.mem_of_getElem? (i := 196) rfl) rfl
theorem tw1_197 : Cond.code yX4_cat cX4_cat 2 (some .int) ∈ TT := tmb_1 (List.mem_of_getElem? (i := 197) rfl) rfl
theorem tw1_204 : Cond.constant RX4 54 (-1000001) ∈ TT := tmb_1 (List.mem_of_getElem? (i := 204) rfl) rfl
theorem tw1_33 : Cond.fieldLink RX4 59 "NavyOfCats$Navy" "cats" "I" ∈ TT := tmb_1 (List.mem_of_getElem? (i := 33) rfl) rfl
theorem tw1_209 : Cond.constant RX4 63 (-1000002) ∈ TT := tmb_1 (List.mem_of_getElem? (i := 209) rfl) rfl
theorem tw1_198 : Cond.methodLink RX4 50 yX4_isKind ∈ TT := tmb_1 (List.mem_of_getElem? (i := 198) rfl) rfl
theorem tw1_199 : Cond.static yX4_isKind ∈ TT := tmb_1 (List.mem_of_getElem? (i := 199) rfl) rfl
theorem tw1_200 : Cond.code yX4_isKind cX4_isKind 1 (some .boolean) ∈ TT := tmb_1 (List.mem_of_getElem? (i := 200) rfl) rfl
theorem tw1_201 : Cond.methodLink RX4 88 yX4_isWithin ∈ TT := tmb_1 (List.mem_of_getElem? (i := 201) rfl) rfl
theorem tw1_202 : Cond.static yX4_isWithin ∈ TT := tmb_1 (List.mem_of_getElem? (i := 202) rfl) rfl
theorem tw1_203 : Cond.code yX4_isWithin cX4_isWithin 3 (some .boolean) ∈ TT := tmb_1 (List.mem_of_getElem? (i := 203) rfl) rfl
theorem tw1_205 : Cond.methodLink RX4 55 yX4_finding ∈ TT := tmb_1 (List.mem_of_getElem? (i := 205) rfl) rfl
theorem tw1_207 : Cond.instanceMethod yX4_finding ∈ TT := tmb_1 (List.mem_of_getElem? (i := 207) rfl) rfl
theorem ts1_0 : Cond.selects RX4 yX4_finding yX4_finding ∈ TT := tms_1 (List.mem_of_getElem? (i := 0) rfl) rfl
theorem tw1_208 : Cond.code yX4_finding cX4_finding 3 (some .int) ∈ TT := tmb_1 (List.mem_of_getElem? (i := 208) rfl) rfl
theorem tw1_210 : Cond.methodLink RX4 64 yX0_addCat ∈ TT := tmb_1 (List.mem_of_getElem? (i := 210) rfl) rfl
theorem tw1_211 : Cond.instanceMethod yX0_addCat ∈ TT := tmb_1 (List.mem_of_getElem? (i := 211) rfl) rfl
theorem tw1_212 : Cond.selects RX0 yX0_addCat yX0_addCat ∈ TT := tmb_1 (List.mem_of_getElem? (i := 212) rfl) rfl
theorem tw1_213 : Cond.code yX0_addCat cX0_addCat 4 (some .int) ∈ TT := tmb_1 (List.mem_of_getElem? (i := 213) rfl) rfl
theorem tw1_32 : Cond.fieldLink RX0 50 "NavyOfCats$Navy" "cats" "I" ∈ TT := tmb_1 (List.mem_of_getElem? (i := 32) rfl) rfl
theorem tw4_162 : Cond.methodLink RL 17 yX5_cat ∈ TT := tmb_4 (List.mem_of_getElem? (i := 162) rfl) rfl
theorem tw4_163 : Cond.instanceMethod yX5_cat ∈ TT := tmb_4 (List.mem_of_getElem? (i := 163) rfl) rfl
theorem tw4_164 : Cond.selects RX5 yX5_cat yX5_cat ∈ TT := tmb_4 (List.mem_of_getElem? (i := 164) rfl) rfl
theorem tw4_165 : Cond.code yX5_cat cX5_cat 2 (some .int) ∈ TT := tmb_4 (List.mem_of_getElem? (i := 165) rfl) rfl
theorem tw4_172 : Cond.constant RX5 66 (-1000001) ∈ TT := tmb_4 (List.mem_of_getElem? (i := 172) rfl) rfl
theorem tw4_177 : Cond.constant RX5 90 (-1000002) ∈ TT := tmb_4 (List.mem_of_getElem? (i := 177) rfl) rfl
theorem tw4_166 : Cond.methodLink RX5 82 yX5_isKind ∈ TT := tmb_4 (List.mem_of_getElem? (i := 166) rfl) rfl
theorem tw4_167 : Cond.static yX5_isKind ∈ TT := tmb_4 (List.mem_of_getElem? (i := 167) rfl) rfl
theorem tw4_168 : Cond.code yX5_isKind cX5_isKind 1 (some .boolean) ∈ TT := tmb_4 (List.mem_of_getElem? (i := 168) rfl) rfl
theorem tw4_169 : Cond.methodLink RX5 71 yX5_within ∈ TT := tmb_4 (List.mem_of_getElem? (i := 169) rfl) rfl
theorem tw4_170 : Cond.static yX5_within ∈ TT := tmb_4 (List.mem_of_getElem? (i := 170) rfl) rfl
theorem tw4_171 : Cond.code yX5_within cX5_within 3 (some .boolean) ∈ TT := tmb_4 (List.mem_of_getElem? (i := 171) rfl) rfl
theorem tw4_173 : Cond.methodLink RX5 86 yX5_finding ∈ TT := tmb_4 (List.mem_of_getElem? (i := 173) rfl) rfl
theorem tw4_175 : Cond.instanceMethod yX5_finding ∈ TT := tmb_4 (List.mem_of_getElem? (i := 175) rfl) rfl
theorem ts1_15 : Cond.selects RX5 yX5_finding yX5_finding ∈ TT := tms_1 (List.mem_of_getElem? (i := 15) rfl) rfl
theorem tw4_176 : Cond.code yX5_finding cX5_finding 2 (some .int) ∈ TT := tmb_4 (List.mem_of_getElem? (i := 176) rfl) rfl
theorem tw4_178 : Cond.methodLink RX5 91 yX5_comes ∈ TT := tmb_4 (List.mem_of_getElem? (i := 178) rfl) rfl
theorem tw4_180 : Cond.instanceMethod yX5_comes ∈ TT := tmb_4 (List.mem_of_getElem? (i := 180) rfl) rfl
theorem ts2_0 : Cond.selects RX5 yX5_comes yX5_comes ∈ TT := tms_2 (List.mem_of_getElem? (i := 0) rfl) rfl
theorem tw4_181 : Cond.code yX5_comes cX5_comes 5 (some .int) ∈ TT := tmb_4 (List.mem_of_getElem? (i := 181) rfl) rfl
theorem tw4_182 : Cond.methodLink RX5 75 yX5_at ∈ TT := tmb_4 (List.mem_of_getElem? (i := 182) rfl) rfl
theorem tw4_183 : Cond.static yX5_at ∈ TT := tmb_4 (List.mem_of_getElem? (i := 183) rfl) rfl
theorem tw4_184 : Cond.code yX5_at cX5_at 2 (some .int) ∈ TT := tmb_4 (List.mem_of_getElem? (i := 184) rfl) rfl
theorem tw1_214 : Cond.methodLink RL 18 yX4_of ∈ TT := tmb_1 (List.mem_of_getElem? (i := 214) rfl) rfl
theorem tw1_215 : Cond.instanceMethod yX4_of ∈ TT := tmb_1 (List.mem_of_getElem? (i := 215) rfl) rfl
theorem tw1_216 : Cond.selects RX4 yX4_of yX4_of ∈ TT := tmb_1 (List.mem_of_getElem? (i := 216) rfl) rfl
theorem tw1_217 : Cond.code yX4_of cX4_of 3 (some .int) ∈ TT := tmb_1 (List.mem_of_getElem? (i := 217) rfl) rfl
theorem tw1_36 : Cond.fieldLink RX4 71 "NavyOfCats$Navy" "kindOf" "[I" ∈ TT := tmb_1 (List.mem_of_getElem? (i := 36) rfl) rfl
theorem tw1_38 : Cond.fieldLink RX4 74 "NavyOfCats$Navy" "hungerOf" "[I" ∈ TT := tmb_1 (List.mem_of_getElem? (i := 38) rfl) rfl
theorem tw1_40 : Cond.fieldLink RX4 77 "NavyOfCats$Navy" "habitOf" "[I" ∈ TT := tmb_1 (List.mem_of_getElem? (i := 40) rfl) rfl
theorem tw1_218 : Cond.methodLink RX4 68 yX4_isCat ∈ TT := tmb_1 (List.mem_of_getElem? (i := 218) rfl) rfl
theorem tw1_220 : Cond.instanceMethod yX4_isCat ∈ TT := tmb_1 (List.mem_of_getElem? (i := 220) rfl) rfl
theorem ts1_1 : Cond.selects RX4 yX4_isCat yX4_isCat ∈ TT := tms_1 (List.mem_of_getElem? (i := 1) rfl) rfl
theorem tw1_221 : Cond.code yX4_isCat cX4_isCat 2 (some .boolean) ∈ TT := tmb_1 (List.mem_of_getElem? (i := 221) rfl) rfl
theorem tw1_222 : Cond.methodLink RX4 80 yX0_errs ∈ TT := tmb_1 (List.mem_of_getElem? (i := 222) rfl) rfl
theorem tw1_223 : Cond.instanceMethod yX0_errs ∈ TT := tmb_1 (List.mem_of_getElem? (i := 223) rfl) rfl
theorem tw1_224 : Cond.selects RX0 yX0_errs yX0_errs ∈ TT := tmb_1 (List.mem_of_getElem? (i := 224) rfl) rfl
theorem tw1_225 : Cond.code yX0_errs cX0_errs 3 (some .int) ∈ TT := tmb_1 (List.mem_of_getElem? (i := 225) rfl) rfl
theorem tw1_226 : Cond.methodLink RX0 74 yX0_errsAs ∈ TT := tmb_1 (List.mem_of_getElem? (i := 226) rfl) rfl
theorem tw1_227 : Cond.instanceMethod yX0_errsAs ∈ TT := tmb_1 (List.mem_of_getElem? (i := 227) rfl) rfl
theorem tw1_228 : Cond.selects RX0 yX0_errsAs yX0_errsAs ∈ TT := tmb_1 (List.mem_of_getElem? (i := 228) rfl) rfl
theorem tw1_229 : Cond.code yX0_errsAs cX0_errsAs 11 (some .int) ∈ TT := tmb_1 (List.mem_of_getElem? (i := 229) rfl) rfl
theorem tw1_230 : Cond.methodLink RX0 68 Lib.Math.min.name ∈ TT := tmb_1 (List.mem_of_getElem? (i := 230) rfl) rfl
theorem tw1_231 : Cond.static Lib.Math.min.name ∈ TT := tmb_1 (List.mem_of_getElem? (i := 231) rfl) rfl
theorem tw1_8 : Cond.initialized "java/lang/Math" ∈ TT := tmb_1 (List.mem_of_getElem? (i := 8) rfl) rfl
theorem tw1_232 : Cond.code Lib.Math.min.name Lib.Math.min.code 2 (some .int) ∈ TT := tmb_1 (List.mem_of_getElem? (i := 232) rfl) rfl
theorem tw1_62 : Cond.fieldLink RX0 65 "NavyOfCats$Navy" "watch" "I" ∈ TT := tmb_1 (List.mem_of_getElem? (i := 62) rfl) rfl
theorem tw1_56 : Cond.fieldLink RX0 62 "NavyOfCats$Navy" "fishWatches" "I" ∈ TT := tmb_1 (List.mem_of_getElem? (i := 56) rfl) rfl
theorem tw4_185 : Cond.methodLink RL 22 yX5_of ∈ TT := tmb_4 (List.mem_of_getElem? (i := 185) rfl) rfl
theorem tw4_186 : Cond.instanceMethod yX5_of ∈ TT := tmb_4 (List.mem_of_getElem? (i := 186) rfl) rfl
theorem tw4_187 : Cond.selects RX5 yX5_of yX5_of ∈ TT := tmb_4 (List.mem_of_getElem? (i := 187) rfl) rfl
theorem tw4_188 : Cond.code yX5_of cX5_of 3 (some .int) ∈ TT := tmb_4 (List.mem_of_getElem? (i := 188) rfl) rfl
theorem tw4_189 : Cond.methodLink RX5 105 yX5_isCat ∈ TT := tmb_4 (List.mem_of_getElem? (i := 189) rfl) rfl
theorem tw4_191 : Cond.instanceMethod yX5_isCat ∈ TT := tmb_4 (List.mem_of_getElem? (i := 191) rfl) rfl
theorem ts2_1 : Cond.selects RX5 yX5_isCat yX5_isCat ∈ TT := tms_2 (List.mem_of_getElem? (i := 1) rfl) rfl
theorem tw4_192 : Cond.code yX5_isCat cX5_isCat 2 (some .boolean) ∈ TT := tmb_4 (List.mem_of_getElem? (i := 192) rfl) rfl
theorem tw4_193 : Cond.methodLink RX5 98 yX5_catIs ∈ TT := tmb_4 (List.mem_of_getElem? (i := 193) rfl) rfl
theorem tw4_195 : Cond.instanceMethod yX5_catIs ∈ TT := tmb_4 (List.mem_of_getElem? (i := 195) rfl) rfl
theorem ts2_2 : Cond.selects RX5 yX5_catIs yX5_catIs ∈ TT := tms_2 (List.mem_of_getElem? (i := 2) rfl) rfl
theorem tw4_196 : Cond.code yX5_catIs cX5_catIs 3 (some .int) ∈ TT := tmb_4 (List.mem_of_getElem? (i := 196) rfl) rfl
theorem tw4_197 : Cond.methodLink RX5 108 yX5_errs ∈ TT := tmb_4 (List.mem_of_getElem? (i := 197) rfl) rfl
theorem tw4_199 : Cond.instanceMethod yX5_errs ∈ TT := tmb_4 (List.mem_of_getElem? (i := 199) rfl) rfl
theorem ts2_3 : Cond.selects RX5 yX5_errs yX5_errs ∈ TT := tms_2 (List.mem_of_getElem? (i := 3) rfl) rfl
theorem tw4_200 : Cond.code yX5_errs cX5_errs 7 (some .int) ∈ TT := tmb_4 (List.mem_of_getElem? (i := 200) rfl) rfl
theorem tw4_201 : Cond.methodLink RX5 101 yX5_has ∈ TT := tmb_4 (List.mem_of_getElem? (i := 201) rfl) rfl
theorem tw4_202 : Cond.static yX5_has ∈ TT := tmb_4 (List.mem_of_getElem? (i := 202) rfl) rfl
theorem tw4_203 : Cond.code yX5_has cX5_has 2 (some .boolean) ∈ TT := tmb_4 (List.mem_of_getElem? (i := 203) rfl) rfl
theorem tw1_233 : Cond.methodLink RL 23 yX4_change ∈ TT := tmb_1 (List.mem_of_getElem? (i := 233) rfl) rfl
theorem tw1_234 : Cond.instanceMethod yX4_change ∈ TT := tmb_1 (List.mem_of_getElem? (i := 234) rfl) rfl
theorem tw1_235 : Cond.selects RX4 yX4_change yX4_change ∈ TT := tmb_1 (List.mem_of_getElem? (i := 235) rfl) rfl
theorem tw1_236 : Cond.code yX4_change cX4_change 4 (some .int) ∈ TT := tmb_1 (List.mem_of_getElem? (i := 236) rfl) rfl
theorem tw1_237 : Cond.methodLink RX4 84 yX4_put ∈ TT := tmb_1 (List.mem_of_getElem? (i := 237) rfl) rfl
theorem tw1_238 : Cond.static yX4_put ∈ TT := tmb_1 (List.mem_of_getElem? (i := 238) rfl) rfl
theorem tw1_239 : Cond.code yX4_put cX4_put 4 (some .int) ∈ TT := tmb_1 (List.mem_of_getElem? (i := 239) rfl) rfl
theorem tw4_204 : Cond.methodLink RL 27 yX5_change ∈ TT := tmb_4 (List.mem_of_getElem? (i := 204) rfl) rfl
theorem tw4_205 : Cond.instanceMethod yX5_change ∈ TT := tmb_4 (List.mem_of_getElem? (i := 205) rfl) rfl
theorem tw4_206 : Cond.selects RX5 yX5_change yX5_change ∈ TT := tmb_4 (List.mem_of_getElem? (i := 206) rfl) rfl
theorem tw4_207 : Cond.code yX5_change cX5_change 5 (some .int) ∈ TT := tmb_4 (List.mem_of_getElem? (i := 207) rfl) rfl
theorem tw4_208 : Cond.methodLink RX5 111 yX5_become ∈ TT := tmb_4 (List.mem_of_getElem? (i := 208) rfl) rfl
theorem tw4_210 : Cond.instanceMethod yX5_become ∈ TT := tmb_4 (List.mem_of_getElem? (i := 210) rfl) rfl
theorem ts2_4 : Cond.selects RX5 yX5_become yX5_become ∈ TT := tms_2 (List.mem_of_getElem? (i := 4) rfl) rfl
theorem tw4_211 : Cond.code yX5_become cX5_become 4 (some .int) ∈ TT := tmb_4 (List.mem_of_getElem? (i := 211) rfl) rfl
theorem tw2_0 : Cond.methodLink RL 28 yX4_ship ∈ TT := tmb_2 (List.mem_of_getElem? (i := 0) rfl) rfl
theorem tw2_1 : Cond.instanceMethod yX4_ship ∈ TT := tmb_2 (List.mem_of_getElem? (i := 1) rfl) rfl
theorem tw2_2 : Cond.selects RX4 yX4_ship yX4_ship ∈ TT := tmb_2 (List.mem_of_getElem? (i := 2) rfl) rfl
theorem tw2_3 : Cond.code yX4_ship cX4_ship 3 (some .int) ∈ TT := tmb_2 (List.mem_of_getElem? (i := 3) rfl) rfl
theorem tw1_42 : Cond.fieldLink RX4 95 "NavyOfCats$Navy" "cellOf" "[I" ∈ TT := tmb_1 (List.mem_of_getElem? (i := 42) rfl) rfl
theorem tw1_45 : Cond.fieldLink RX4 98 "NavyOfCats$Navy" "orderOf" "[I" ∈ TT := tmb_1 (List.mem_of_getElem? (i := 45) rfl) rfl
theorem tw1_48 : Cond.fieldLink RX4 101 "NavyOfCats$Navy" "aboardOf" "[I" ∈ TT := tmb_1 (List.mem_of_getElem? (i := 48) rfl) rfl
theorem tw2_4 : Cond.methodLink RX4 92 yX4_isShip ∈ TT := tmb_2 (List.mem_of_getElem? (i := 4) rfl) rfl
theorem tw2_5 : Cond.static yX4_isShip ∈ TT := tmb_2 (List.mem_of_getElem? (i := 5) rfl) rfl
theorem tw2_6 : Cond.code yX4_isShip cX4_isShip 1 (some .boolean) ∈ TT := tmb_2 (List.mem_of_getElem? (i := 6) rfl) rfl
theorem tw2_7 : Cond.methodLink RX4 104 yX0_meanOf ∈ TT := tmb_2 (List.mem_of_getElem? (i := 7) rfl) rfl
theorem tw2_8 : Cond.instanceMethod yX0_meanOf ∈ TT := tmb_2 (List.mem_of_getElem? (i := 8) rfl) rfl
theorem tw2_9 : Cond.selects RX0 yX0_meanOf yX0_meanOf ∈ TT := tmb_2 (List.mem_of_getElem? (i := 9) rfl) rfl
theorem tw2_10 : Cond.code yX0_meanOf cX0_meanOf 6 (some .int) ∈ TT := tmb_2 (List.mem_of_getElem? (i := 10) rfl) rfl
theorem tw2_12 : Cond.static yX4_isIn ∈ TT := tmb_2 (List.mem_of_getElem? (i := 12) rfl) rfl
theorem tw2_13 : Cond.code yX4_isIn cX4_isIn 2 (some .boolean) ∈ TT := tmb_2 (List.mem_of_getElem? (i := 13) rfl) rfl
theorem tw2_14 : Cond.methodLink RX4 107 yX4_course ∈ TT := tmb_2 (List.mem_of_getElem? (i := 14) rfl) rfl
theorem tw2_15 : Cond.static yX4_course ∈ TT := tmb_2 (List.mem_of_getElem? (i := 15) rfl) rfl
theorem tw2_16 : Cond.code yX4_course cX4_course 2 (some .int) ∈ TT := tmb_2 (List.mem_of_getElem? (i := 16) rfl) rfl
theorem tw2_17 : Cond.methodLink RX4 306 yJ9_floorMod_7cf53 ∈ TT := tmb_2 (List.mem_of_getElem? (i := 17) rfl) rfl
theorem tw2_18 : Cond.static yJ9_floorMod_7cf53 ∈ TT := tmb_2 (List.mem_of_getElem? (i := 18) rfl) rfl
theorem tw2_19 : Cond.code yJ9_floorMod_7cf53 cJ9_floorMod_7cf53 3 (some .int) ∈ TT := tmb_2 (List.mem_of_getElem? (i := 19) rfl) rfl
theorem tw2_20 : Cond.methodLink RX4 110 yX0_nextOf ∈ TT := tmb_2 (List.mem_of_getElem? (i := 20) rfl) rfl
theorem tw2_21 : Cond.instanceMethod yX0_nextOf ∈ TT := tmb_2 (List.mem_of_getElem? (i := 21) rfl) rfl
theorem tw2_22 : Cond.selects RX0 yX0_nextOf yX0_nextOf ∈ TT := tmb_2 (List.mem_of_getElem? (i := 22) rfl) rfl
theorem tw2_23 : Cond.code yX0_nextOf cX0_nextOf 4 (some .int) ∈ TT := tmb_2 (List.mem_of_getElem? (i := 23) rfl) rfl
theorem tw1_53 : Cond.fieldLink RX0 59 "NavyOfCats$Navy" "windNow" "I" ∈ TT := tmb_1 (List.mem_of_getElem? (i := 53) rfl) rfl
theorem tw2_24 : Cond.methodLink RX0 82 yX0_meanOf ∈ TT := tmb_2 (List.mem_of_getElem? (i := 24) rfl) rfl
theorem tw2_26 : Cond.methodLink RX0 88 yX0_nextBy ∈ TT := tmb_2 (List.mem_of_getElem? (i := 26) rfl) rfl
theorem tw2_27 : Cond.instanceMethod yX0_nextBy ∈ TT := tmb_2 (List.mem_of_getElem? (i := 27) rfl) rfl
theorem tw2_28 : Cond.selects RX0 yX0_nextBy yX0_nextBy ∈ TT := tmb_2 (List.mem_of_getElem? (i := 28) rfl) rfl
theorem tw2_29 : Cond.code yX0_nextBy cX0_nextBy 5 (some .int) ∈ TT := tmb_2 (List.mem_of_getElem? (i := 29) rfl) rfl
theorem tw2_31 : Cond.static yX4_heading ∈ TT := tmb_2 (List.mem_of_getElem? (i := 31) rfl) rfl
theorem tw2_32 : Cond.code yX4_heading cX4_heading 1 (some .int) ∈ TT := tmb_2 (List.mem_of_getElem? (i := 32) rfl) rfl
theorem tw2_34 : Cond.static yX4_beside ∈ TT := tmb_2 (List.mem_of_getElem? (i := 34) rfl) rfl
theorem tw2_35 : Cond.code yX4_beside cX4_beside 4 (some .int) ∈ TT := tmb_2 (List.mem_of_getElem? (i := 35) rfl) rfl
theorem tw2_36 : Cond.fieldLink RX4 309 "NavyOfCats" "ROWS_ON" "[I" ∈ TT := tmb_2 (List.mem_of_getElem? (i := 36) rfl) rfl
theorem tw2_38 : Cond.fieldLink RX4 312 "NavyOfCats" "COLUMNS_ON" "[I" ∈ TT := tmb_2 (List.mem_of_getElem? (i := 38) rfl) rfl
theorem tw2_40 : Cond.methodLink RX4 113 yX0_isLanded ∈ TT := tmb_2 (List.mem_of_getElem? (i := 40) rfl) rfl
theorem tw2_41 : Cond.instanceMethod yX0_isLanded ∈ TT := tmb_2 (List.mem_of_getElem? (i := 41) rfl) rfl
theorem tw2_42 : Cond.selects RX0 yX0_isLanded yX0_isLanded ∈ TT := tmb_2 (List.mem_of_getElem? (i := 42) rfl) rfl
theorem tw2_43 : Cond.code yX0_isLanded cX0_isLanded 2 (some .boolean) ∈ TT := tmb_2 (List.mem_of_getElem? (i := 43) rfl) rfl
theorem tw4_212 : Cond.methodLink RL 31 yX5_ship ∈ TT := tmb_4 (List.mem_of_getElem? (i := 212) rfl) rfl
theorem tw4_213 : Cond.instanceMethod yX5_ship ∈ TT := tmb_4 (List.mem_of_getElem? (i := 213) rfl) rfl
theorem tw4_214 : Cond.selects RX5 yX5_ship yX5_ship ∈ TT := tmb_4 (List.mem_of_getElem? (i := 214) rfl) rfl
theorem tw4_215 : Cond.code yX5_ship cX5_ship 3 (some .int) ∈ TT := tmb_4 (List.mem_of_getElem? (i := 215) rfl) rfl
theorem tw4_216 : Cond.methodLink RX5 138 yX5_isShip ∈ TT := tmb_4 (List.mem_of_getElem? (i := 216) rfl) rfl
theorem tw4_217 : Cond.static yX5_isShip ∈ TT := tmb_4 (List.mem_of_getElem? (i := 217) rfl) rfl
theorem tw4_218 : Cond.code yX5_isShip cX5_isShip 1 (some .boolean) ∈ TT := tmb_4 (List.mem_of_getElem? (i := 218) rfl) rfl
theorem tw4_219 : Cond.methodLink RX5 123 yX5_reads ∈ TT := tmb_4 (List.mem_of_getElem? (i := 219) rfl) rfl
theorem tw4_221 : Cond.instanceMethod yX5_reads ∈ TT := tmb_4 (List.mem_of_getElem? (i := 221) rfl) rfl
theorem ts2_5 : Cond.selects RX5 yX5_reads yX5_reads ∈ TT := tms_2 (List.mem_of_getElem? (i := 5) rfl) rfl
theorem tw4_222 : Cond.code yX5_reads cX5_reads 2 (some .int) ∈ TT := tmb_4 (List.mem_of_getElem? (i := 222) rfl) rfl
theorem tw4_223 : Cond.methodLink RX5 117 yX5_shipIs ∈ TT := tmb_4 (List.mem_of_getElem? (i := 223) rfl) rfl
theorem tw4_225 : Cond.instanceMethod yX5_shipIs ∈ TT := tmb_4 (List.mem_of_getElem? (i := 225) rfl) rfl
theorem ts2_6 : Cond.selects RX5 yX5_shipIs yX5_shipIs ∈ TT := tms_2 (List.mem_of_getElem? (i := 6) rfl) rfl
theorem tw4_226 : Cond.code yX5_shipIs cX5_shipIs 3 (some .int) ∈ TT := tmb_4 (List.mem_of_getElem? (i := 226) rfl) rfl
theorem tw4_227 : Cond.methodLink RX5 79 yX5_atShip ∈ TT := tmb_4 (List.mem_of_getElem? (i := 227) rfl) rfl
theorem tw4_228 : Cond.static yX5_atShip ∈ TT := tmb_4 (List.mem_of_getElem? (i := 228) rfl) rfl
theorem tw4_229 : Cond.code yX5_atShip cX5_atShip 2 (some .int) ∈ TT := tmb_4 (List.mem_of_getElem? (i := 229) rfl) rfl
theorem tw4_230 : Cond.methodLink RX5 120 yX5_meanOf ∈ TT := tmb_4 (List.mem_of_getElem? (i := 230) rfl) rfl
theorem tw4_232 : Cond.instanceMethod yX5_meanOf ∈ TT := tmb_4 (List.mem_of_getElem? (i := 232) rfl) rfl
theorem ts2_7 : Cond.selects RX5 yX5_meanOf yX5_meanOf ∈ TT := tms_2 (List.mem_of_getElem? (i := 7) rfl) rfl
theorem tw4_233 : Cond.code yX5_meanOf cX5_meanOf 4 (some .int) ∈ TT := tmb_4 (List.mem_of_getElem? (i := 233) rfl) rfl
theorem tw4_234 : Cond.methodLink RX5 114 yX5_bits ∈ TT := tmb_4 (List.mem_of_getElem? (i := 234) rfl) rfl
theorem tw4_235 : Cond.static yX5_bits ∈ TT := tmb_4 (List.mem_of_getElem? (i := 235) rfl) rfl
theorem tw4_236 : Cond.code yX5_bits cX5_bits 3 (some .int) ∈ TT := tmb_4 (List.mem_of_getElem? (i := 236) rfl) rfl
theorem tw4_237 : Cond.methodLink RX5 129 yX5_course ∈ TT := tmb_4 (List.mem_of_getElem? (i := 237) rfl) rfl
theorem tw4_239 : Cond.instanceMethod yX5_course ∈ TT := tmb_4 (List.mem_of_getElem? (i := 239) rfl) rfl
theorem ts2_8 : Cond.selects RX5 yX5_course yX5_course ∈ TT := tms_2 (List.mem_of_getElem? (i := 8) rfl) rfl
theorem tw5_0 : Cond.code yX5_course cX5_course 3 (some .int) ∈ TT := tmb_5 (List.mem_of_getElem? (i := 0) rfl) rfl
theorem tw5_1 : Cond.methodLink RX5 141 yX5_goesTo ∈ TT := tmb_5 (List.mem_of_getElem? (i := 1) rfl) rfl
theorem tw5_3 : Cond.instanceMethod yX5_goesTo ∈ TT := tmb_5 (List.mem_of_getElem? (i := 3) rfl) rfl
theorem ts2_9 : Cond.selects RX5 yX5_goesTo yX5_goesTo ∈ TT := tms_2 (List.mem_of_getElem? (i := 9) rfl) rfl
theorem tw5_4 : Cond.code yX5_goesTo cX5_goesTo 4 (some .int) ∈ TT := tmb_5 (List.mem_of_getElem? (i := 4) rfl) rfl
theorem tw5_5 : Cond.methodLink RX5 132 yX5_isLanded ∈ TT := tmb_5 (List.mem_of_getElem? (i := 5) rfl) rfl
theorem tw5_7 : Cond.instanceMethod yX5_isLanded ∈ TT := tmb_5 (List.mem_of_getElem? (i := 7) rfl) rfl
theorem ts2_10 : Cond.selects RX5 yX5_isLanded yX5_isLanded ∈ TT := tms_2 (List.mem_of_getElem? (i := 10) rfl) rfl
theorem tw5_8 : Cond.code yX5_isLanded cX5_isLanded 2 (some .boolean) ∈ TT := tmb_5 (List.mem_of_getElem? (i := 8) rfl) rfl
theorem tw5_9 : Cond.methodLink RX5 126 yX5_isIsland ∈ TT := tmb_5 (List.mem_of_getElem? (i := 9) rfl) rfl
theorem tw5_11 : Cond.instanceMethod yX5_isIsland ∈ TT := tmb_5 (List.mem_of_getElem? (i := 11) rfl) rfl
theorem ts2_11 : Cond.selects RX5 yX5_isIsland yX5_isIsland ∈ TT := tms_2 (List.mem_of_getElem? (i := 11) rfl) rfl
theorem tw5_12 : Cond.code yX5_isIsland cX5_isIsland 2 (some .boolean) ∈ TT := tmb_5 (List.mem_of_getElem? (i := 12) rfl) rfl
theorem tw5_13 : Cond.methodLink RX5 135 yX5_beside ∈ TT := tmb_5 (List.mem_of_getElem? (i := 13) rfl) rfl
theorem tw5_15 : Cond.instanceMethod yX5_beside ∈ TT := tmb_5 (List.mem_of_getElem? (i := 15) rfl) rfl
theorem ts2_12 : Cond.selects RX5 yX5_beside yX5_beside ∈ TT := tms_2 (List.mem_of_getElem? (i := 12) rfl) rfl
theorem tw5_16 : Cond.code yX5_beside cX5_beside 5 (some .int) ∈ TT := tmb_5 (List.mem_of_getElem? (i := 16) rfl) rfl
theorem tw2_44 : Cond.methodLink RL 32 yX4_steer ∈ TT := tmb_2 (List.mem_of_getElem? (i := 44) rfl) rfl
theorem tw2_45 : Cond.instanceMethod yX4_steer ∈ TT := tmb_2 (List.mem_of_getElem? (i := 45) rfl) rfl
theorem tw2_46 : Cond.selects RX4 yX4_steer yX4_steer ∈ TT := tmb_2 (List.mem_of_getElem? (i := 46) rfl) rfl
theorem tw2_47 : Cond.code yX4_steer cX4_steer 4 (some .int) ∈ TT := tmb_2 (List.mem_of_getElem? (i := 47) rfl) rfl
theorem tw2_48 : Cond.methodLink RX4 116 yX4_isCell ∈ TT := tmb_2 (List.mem_of_getElem? (i := 48) rfl) rfl
theorem tw2_49 : Cond.static yX4_isCell ∈ TT := tmb_2 (List.mem_of_getElem? (i := 49) rfl) rfl
theorem tw2_50 : Cond.code yX4_isCell cX4_isCell 1 (some .boolean) ∈ TT := tmb_2 (List.mem_of_getElem? (i := 50) rfl) rfl
theorem tw2_51 : Cond.methodLink RX4 119 yX4_isSetOfCats ∈ TT := tmb_2 (List.mem_of_getElem? (i := 51) rfl) rfl
theorem tw2_53 : Cond.instanceMethod yX4_isSetOfCats ∈ TT := tmb_2 (List.mem_of_getElem? (i := 53) rfl) rfl
theorem ts1_2 : Cond.selects RX4 yX4_isSetOfCats yX4_isSetOfCats ∈ TT := tms_1 (List.mem_of_getElem? (i := 2) rfl) rfl
theorem tw2_54 : Cond.code yX4_isSetOfCats cX4_isSetOfCats 2 (some .boolean) ∈ TT := tmb_2 (List.mem_of_getElem? (i := 54) rfl) rfl
theorem tw5_17 : Cond.methodLink RL 35 yX5_steer ∈ TT := tmb_5 (List.mem_of_getElem? (i := 17) rfl) rfl
theorem tw5_18 : Cond.instanceMethod yX5_steer ∈ TT := tmb_5 (List.mem_of_getElem? (i := 18) rfl) rfl
theorem tw5_19 : Cond.selects RX5 yX5_steer yX5_steer ∈ TT := tmb_5 (List.mem_of_getElem? (i := 19) rfl) rfl
theorem tw5_20 : Cond.code yX5_steer cX5_steer 5 (some .int) ∈ TT := tmb_5 (List.mem_of_getElem? (i := 20) rfl) rfl
theorem tw5_21 : Cond.methodLink RX5 144 yX5_isCell ∈ TT := tmb_5 (List.mem_of_getElem? (i := 21) rfl) rfl
theorem tw5_22 : Cond.static yX5_isCell ∈ TT := tmb_5 (List.mem_of_getElem? (i := 22) rfl) rfl
theorem tw5_23 : Cond.code yX5_isCell cX5_isCell 1 (some .boolean) ∈ TT := tmb_5 (List.mem_of_getElem? (i := 23) rfl) rfl
theorem tw5_24 : Cond.methodLink RX5 147 yX5_areCats ∈ TT := tmb_5 (List.mem_of_getElem? (i := 24) rfl) rfl
theorem tw5_26 : Cond.instanceMethod yX5_areCats ∈ TT := tmb_5 (List.mem_of_getElem? (i := 26) rfl) rfl
theorem ts2_13 : Cond.selects RX5 yX5_areCats yX5_areCats ∈ TT := tms_2 (List.mem_of_getElem? (i := 13) rfl) rfl
theorem tw5_27 : Cond.code yX5_areCats cX5_areCats 2 (some .boolean) ∈ TT := tmb_5 (List.mem_of_getElem? (i := 27) rfl) rfl
theorem tw2_55 : Cond.methodLink RL 36 yX4_island ∈ TT := tmb_2 (List.mem_of_getElem? (i := 55) rfl) rfl
theorem tw2_56 : Cond.instanceMethod yX4_island ∈ TT := tmb_2 (List.mem_of_getElem? (i := 56) rfl) rfl
theorem tw2_57 : Cond.selects RX4 yX4_island yX4_island ∈ TT := tmb_2 (List.mem_of_getElem? (i := 57) rfl) rfl
theorem tw2_58 : Cond.code yX4_island cX4_island 4 (some .int) ∈ TT := tmb_2 (List.mem_of_getElem? (i := 58) rfl) rfl
theorem tw1_51 : Cond.fieldLink RX4 122 "NavyOfCats$Navy" "isIsland" "[Z" ∈ TT := tmb_1 (List.mem_of_getElem? (i := 51) rfl) rfl
theorem tw5_28 : Cond.methodLink RL 39 yX5_island ∈ TT := tmb_5 (List.mem_of_getElem? (i := 28) rfl) rfl
theorem tw5_29 : Cond.instanceMethod yX5_island ∈ TT := tmb_5 (List.mem_of_getElem? (i := 29) rfl) rfl
theorem tw5_30 : Cond.selects RX5 yX5_island yX5_island ∈ TT := tmb_5 (List.mem_of_getElem? (i := 30) rfl) rfl
theorem tw5_31 : Cond.code yX5_island cX5_island 3 (some .int) ∈ TT := tmb_5 (List.mem_of_getElem? (i := 31) rfl) rfl
theorem tw2_59 : Cond.methodLink RL 40 yX4_wind ∈ TT := tmb_2 (List.mem_of_getElem? (i := 59) rfl) rfl
theorem tw2_60 : Cond.instanceMethod yX4_wind ∈ TT := tmb_2 (List.mem_of_getElem? (i := 60) rfl) rfl
theorem tw2_61 : Cond.selects RX4 yX4_wind yX4_wind ∈ TT := tmb_2 (List.mem_of_getElem? (i := 61) rfl) rfl
theorem tw2_62 : Cond.code yX4_wind cX4_wind 3 (some .int) ∈ TT := tmb_2 (List.mem_of_getElem? (i := 62) rfl) rfl
theorem tw1_54 : Cond.fieldLink RX4 126 "NavyOfCats$Navy" "windNow" "I" ∈ TT := tmb_1 (List.mem_of_getElem? (i := 54) rfl) rfl
theorem tw5_32 : Cond.methodLink RL 43 yX5_wind ∈ TT := tmb_5 (List.mem_of_getElem? (i := 32) rfl) rfl
theorem tw5_33 : Cond.instanceMethod yX5_wind ∈ TT := tmb_5 (List.mem_of_getElem? (i := 33) rfl) rfl
theorem tw5_34 : Cond.selects RX5 yX5_wind yX5_wind ∈ TT := tmb_5 (List.mem_of_getElem? (i := 34) rfl) rfl
theorem tw5_35 : Cond.code yX5_wind cX5_wind 2 (some .int) ∈ TT := tmb_5 (List.mem_of_getElem? (i := 35) rfl) rfl
theorem tw2_63 : Cond.methodLink RL 44 yX4_fish ∈ TT := tmb_2 (List.mem_of_getElem? (i := 63) rfl) rfl
theorem tw2_64 : Cond.instanceMethod yX4_fish ∈ TT := tmb_2 (List.mem_of_getElem? (i := 64) rfl) rfl
theorem tw2_65 : Cond.selects RX4 yX4_fish yX4_fish ∈ TT := tmb_2 (List.mem_of_getElem? (i := 65) rfl) rfl
theorem tw2_66 : Cond.code yX4_fish cX4_fish 3 (some .int) ∈ TT := tmb_2 (List.mem_of_getElem? (i := 66) rfl) rfl
theorem tw2_67 : Cond.constant RX4 129 (65535) ∈ TT := tmb_2 (List.mem_of_getElem? (i := 67) rfl) rfl
theorem tw1_57 : Cond.fieldLink RX4 130 "NavyOfCats$Navy" "fishWatches" "I" ∈ TT := tmb_1 (List.mem_of_getElem? (i := 57) rfl) rfl
theorem tw5_36 : Cond.methodLink RL 47 yX5_fish ∈ TT := tmb_5 (List.mem_of_getElem? (i := 36) rfl) rfl
theorem tw5_37 : Cond.instanceMethod yX5_fish ∈ TT := tmb_5 (List.mem_of_getElem? (i := 37) rfl) rfl
theorem tw5_38 : Cond.selects RX5 yX5_fish yX5_fish ∈ TT := tmb_5 (List.mem_of_getElem? (i := 38) rfl) rfl
theorem tw5_39 : Cond.code yX5_fish cX5_fish 2 (some .int) ∈ TT := tmb_5 (List.mem_of_getElem? (i := 39) rfl) rfl
theorem tw5_40 : Cond.constant RX5 150 (65535) ∈ TT := tmb_5 (List.mem_of_getElem? (i := 40) rfl) rfl
theorem tw2_68 : Cond.methodLink RL 48 yX4_store ∈ TT := tmb_2 (List.mem_of_getElem? (i := 68) rfl) rfl
theorem tw2_69 : Cond.instanceMethod yX4_store ∈ TT := tmb_2 (List.mem_of_getElem? (i := 69) rfl) rfl
theorem tw2_70 : Cond.selects RX4 yX4_store yX4_store ∈ TT := tmb_2 (List.mem_of_getElem? (i := 70) rfl) rfl
theorem tw2_71 : Cond.code yX4_store cX4_store 3 (some .int) ∈ TT := tmb_2 (List.mem_of_getElem? (i := 71) rfl) rfl
theorem tw1_61 : Cond.fieldLink RX4 133 "NavyOfCats$Navy" "stored" "I" ∈ TT := tmb_1 (List.mem_of_getElem? (i := 61) rfl) rfl
theorem tw5_41 : Cond.methodLink RL 51 yX5_store ∈ TT := tmb_5 (List.mem_of_getElem? (i := 41) rfl) rfl
theorem tw5_42 : Cond.instanceMethod yX5_store ∈ TT := tmb_5 (List.mem_of_getElem? (i := 42) rfl) rfl
theorem tw5_43 : Cond.selects RX5 yX5_store yX5_store ∈ TT := tmb_5 (List.mem_of_getElem? (i := 43) rfl) rfl
theorem tw5_44 : Cond.code yX5_store cX5_store 2 (some .int) ∈ TT := tmb_5 (List.mem_of_getElem? (i := 44) rfl) rfl
theorem tw2_72 : Cond.methodLink RL 52 yX4_go ∈ TT := tmb_2 (List.mem_of_getElem? (i := 72) rfl) rfl
theorem tw2_73 : Cond.instanceMethod yX4_go ∈ TT := tmb_2 (List.mem_of_getElem? (i := 73) rfl) rfl
theorem tw2_74 : Cond.selects RX4 yX4_go yX4_go ∈ TT := tmb_2 (List.mem_of_getElem? (i := 74) rfl) rfl
theorem tw2_75 : Cond.code yX4_go cX4_go 3 (some .int) ∈ TT := tmb_2 (List.mem_of_getElem? (i := 75) rfl) rfl
theorem tw1_63 : Cond.fieldLink RX4 136 "NavyOfCats$Navy" "watch" "I" ∈ TT := tmb_1 (List.mem_of_getElem? (i := 63) rfl) rfl
theorem tw2_76 : Cond.constant RX4 139 (99999) ∈ TT := tmb_2 (List.mem_of_getElem? (i := 76) rfl) rfl
theorem tw2_77 : Cond.constant RX4 140 (-1000005) ∈ TT := tmb_2 (List.mem_of_getElem? (i := 77) rfl) rfl
theorem tw2_78 : Cond.methodLink RX4 141 yX0_passWatch ∈ TT := tmb_2 (List.mem_of_getElem? (i := 78) rfl) rfl
theorem tw2_79 : Cond.instanceMethod yX0_passWatch ∈ TT := tmb_2 (List.mem_of_getElem? (i := 79) rfl) rfl
theorem tw2_80 : Cond.selects RX0 yX0_passWatch yX0_passWatch ∈ TT := tmb_2 (List.mem_of_getElem? (i := 80) rfl) rfl
theorem tw2_81 : Cond.code yX0_passWatch cX0_passWatch 2 none ∈ TT := tmb_2 (List.mem_of_getElem? (i := 81) rfl) rfl
theorem tw2_82 : Cond.methodLink RX0 99 yX0_nextOf ∈ TT := tmb_2 (List.mem_of_getElem? (i := 82) rfl) rfl
theorem tw2_83 : Cond.methodLink RX4 144 yX0_landedShips ∈ TT := tmb_2 (List.mem_of_getElem? (i := 83) rfl) rfl
theorem tw2_84 : Cond.instanceMethod yX0_landedShips ∈ TT := tmb_2 (List.mem_of_getElem? (i := 84) rfl) rfl
theorem tw2_85 : Cond.selects RX0 yX0_landedShips yX0_landedShips ∈ TT := tmb_2 (List.mem_of_getElem? (i := 85) rfl) rfl
theorem tw2_86 : Cond.code yX0_landedShips cX0_landedShips 3 (some .int) ∈ TT := tmb_2 (List.mem_of_getElem? (i := 86) rfl) rfl
theorem tw2_87 : Cond.methodLink RX0 102 yX0_isLanded ∈ TT := tmb_2 (List.mem_of_getElem? (i := 87) rfl) rfl
theorem tw2_88 : Cond.methodLink RX4 148 yJ6_bitCount_0f7a4 ∈ TT := tmb_2 (List.mem_of_getElem? (i := 88) rfl) rfl
theorem tw2_89 : Cond.static yJ6_bitCount_0f7a4 ∈ TT := tmb_2 (List.mem_of_getElem? (i := 89) rfl) rfl
theorem tw1_9 : Cond.initialized RJ6 ∈ TT := tmb_1 (List.mem_of_getElem? (i := 9) rfl) rfl
theorem tw2_90 : Cond.code yJ6_bitCount_0f7a4 cJ6_bitCount_0f7a4 1 (some .int) ∈ TT := tmb_2 (List.mem_of_getElem? (i := 90) rfl) rfl
theorem tw2_91 : Cond.constant RJ6 265 (1431655765) ∈ TT := tmb_2 (List.mem_of_getElem? (i := 91) rfl) rfl
theorem tw2_92 : Cond.constant RJ6 266 (858993459) ∈ TT := tmb_2 (List.mem_of_getElem? (i := 92) rfl) rfl
theorem tw2_93 : Cond.constant RJ6 267 (252645135) ∈ TT := tmb_2 (List.mem_of_getElem? (i := 93) rfl) rfl
theorem tw5_45 : Cond.methodLink RL 55 yX5_go ∈ TT := tmb_5 (List.mem_of_getElem? (i := 45) rfl) rfl
theorem tw5_46 : Cond.instanceMethod yX5_go ∈ TT := tmb_5 (List.mem_of_getElem? (i := 46) rfl) rfl
theorem tw5_47 : Cond.selects RX5 yX5_go yX5_go ∈ TT := tmb_5 (List.mem_of_getElem? (i := 47) rfl) rfl
theorem tw5_48 : Cond.code yX5_go cX5_go 2 (some .int) ∈ TT := tmb_5 (List.mem_of_getElem? (i := 48) rfl) rfl
theorem tw5_49 : Cond.constant RX5 159 (99999) ∈ TT := tmb_5 (List.mem_of_getElem? (i := 49) rfl) rfl
theorem tw5_50 : Cond.constant RX5 160 (-1000005) ∈ TT := tmb_5 (List.mem_of_getElem? (i := 50) rfl) rfl
theorem tw5_51 : Cond.methodLink RX5 161 yX5_watches ∈ TT := tmb_5 (List.mem_of_getElem? (i := 51) rfl) rfl
theorem tw5_53 : Cond.instanceMethod yX5_watches ∈ TT := tmb_5 (List.mem_of_getElem? (i := 53) rfl) rfl
theorem ts2_14 : Cond.selects RX5 yX5_watches yX5_watches ∈ TT := tms_2 (List.mem_of_getElem? (i := 14) rfl) rfl
theorem tw5_54 : Cond.code yX5_watches cX5_watches 3 none ∈ TT := tmb_5 (List.mem_of_getElem? (i := 54) rfl) rfl
theorem tw5_55 : Cond.methodLink RX5 156 yX5_watch ∈ TT := tmb_5 (List.mem_of_getElem? (i := 55) rfl) rfl
theorem tw5_57 : Cond.instanceMethod yX5_watch ∈ TT := tmb_5 (List.mem_of_getElem? (i := 57) rfl) rfl
theorem ts2_15 : Cond.selects RX5 yX5_watch yX5_watch ∈ TT := tms_2 (List.mem_of_getElem? (i := 15) rfl) rfl
theorem tw5_58 : Cond.code yX5_watch cX5_watch 2 none ∈ TT := tmb_5 (List.mem_of_getElem? (i := 58) rfl) rfl
theorem tw5_59 : Cond.methodLink RX5 151 Lib.Math.min.name ∈ TT := tmb_5 (List.mem_of_getElem? (i := 59) rfl) rfl
theorem tw5_60 : Cond.methodLink RX5 165 yX5_landed ∈ TT := tmb_5 (List.mem_of_getElem? (i := 60) rfl) rfl
theorem tw5_62 : Cond.instanceMethod yX5_landed ∈ TT := tmb_5 (List.mem_of_getElem? (i := 62) rfl) rfl
theorem ts3_0 : Cond.selects RX5 yX5_landed yX5_landed ∈ TT := tms_3 (List.mem_of_getElem? (i := 0) rfl) rfl
theorem tw5_63 : Cond.code yX5_landed cX5_landed 3 (some .int) ∈ TT := tmb_5 (List.mem_of_getElem? (i := 63) rfl) rfl
theorem tw2_94 : Cond.methodLink RL 56 yX4_feeds ∈ TT := tmb_2 (List.mem_of_getElem? (i := 94) rfl) rfl
theorem tw2_95 : Cond.instanceMethod yX4_feeds ∈ TT := tmb_2 (List.mem_of_getElem? (i := 95) rfl) rfl
theorem tw2_96 : Cond.selects RX4 yX4_feeds yX4_feeds ∈ TT := tmb_2 (List.mem_of_getElem? (i := 96) rfl) rfl
theorem tw2_97 : Cond.code yX4_feeds cX4_feeds 4 (some .int) ∈ TT := tmb_2 (List.mem_of_getElem? (i := 97) rfl) rfl
theorem tw2_98 : Cond.methodLink RX4 153 yX4_isIn ∈ TT := tmb_2 (List.mem_of_getElem? (i := 98) rfl) rfl
theorem tw5_64 : Cond.methodLink RL 59 yX5_feeds ∈ TT := tmb_5 (List.mem_of_getElem? (i := 64) rfl) rfl
theorem tw5_65 : Cond.instanceMethod yX5_feeds ∈ TT := tmb_5 (List.mem_of_getElem? (i := 65) rfl) rfl
theorem tw5_66 : Cond.selects RX5 yX5_feeds yX5_feeds ∈ TT := tmb_5 (List.mem_of_getElem? (i := 66) rfl) rfl
theorem tw5_67 : Cond.code yX5_feeds cX5_feeds 3 (some .int) ∈ TT := tmb_5 (List.mem_of_getElem? (i := 67) rfl) rfl
theorem tw2_99 : Cond.methodLink RL 60 yX4_now ∈ TT := tmb_2 (List.mem_of_getElem? (i := 99) rfl) rfl
theorem tw2_100 : Cond.instanceMethod yX4_now ∈ TT := tmb_2 (List.mem_of_getElem? (i := 100) rfl) rfl
theorem tw2_101 : Cond.selects RX4 yX4_now yX4_now ∈ TT := tmb_2 (List.mem_of_getElem? (i := 101) rfl) rfl
theorem tw2_102 : Cond.code yX4_now cX4_now 2 (some .int) ∈ TT := tmb_2 (List.mem_of_getElem? (i := 102) rfl) rfl
theorem tw2_103 : Cond.methodLink RX4 157 yX0_greatestHunger ∈ TT := tmb_2 (List.mem_of_getElem? (i := 103) rfl) rfl
theorem tw2_104 : Cond.instanceMethod yX0_greatestHunger ∈ TT := tmb_2 (List.mem_of_getElem? (i := 104) rfl) rfl
theorem tw2_105 : Cond.selects RX0 yX0_greatestHunger yX0_greatestHunger ∈ TT := tmb_2 (List.mem_of_getElem? (i := 105) rfl) rfl
theorem tw2_106 : Cond.code yX0_greatestHunger cX0_greatestHunger 3 (some .int) ∈ TT := tmb_2 (List.mem_of_getElem? (i := 106) rfl) rfl
theorem tw2_107 : Cond.methodLink RX0 114 Lib.Math.max.name ∈ TT := tmb_2 (List.mem_of_getElem? (i := 107) rfl) rfl
theorem tw2_108 : Cond.static Lib.Math.max.name ∈ TT := tmb_2 (List.mem_of_getElem? (i := 108) rfl) rfl
theorem tw2_109 : Cond.code Lib.Math.max.name Lib.Math.max.code 2 (some .int) ∈ TT := tmb_2 (List.mem_of_getElem? (i := 109) rfl) rfl
theorem tw2_110 : Cond.methodLink RX4 160 yX0_islands ∈ TT := tmb_2 (List.mem_of_getElem? (i := 110) rfl) rfl
theorem tw2_111 : Cond.instanceMethod yX0_islands ∈ TT := tmb_2 (List.mem_of_getElem? (i := 111) rfl) rfl
theorem tw2_112 : Cond.selects RX0 yX0_islands yX0_islands ∈ TT := tmb_2 (List.mem_of_getElem? (i := 112) rfl) rfl
theorem tw2_113 : Cond.code yX0_islands cX0_islands 3 (some .int) ∈ TT := tmb_2 (List.mem_of_getElem? (i := 113) rfl) rfl
theorem tw5_68 : Cond.methodLink RL 63 yX5_now ∈ TT := tmb_5 (List.mem_of_getElem? (i := 68) rfl) rfl
theorem tw5_69 : Cond.instanceMethod yX5_now ∈ TT := tmb_5 (List.mem_of_getElem? (i := 69) rfl) rfl
theorem tw5_70 : Cond.selects RX5 yX5_now yX5_now ∈ TT := tmb_5 (List.mem_of_getElem? (i := 70) rfl) rfl
theorem tw5_71 : Cond.code yX5_now cX5_now 2 (some .int) ∈ TT := tmb_5 (List.mem_of_getElem? (i := 71) rfl) rfl
theorem tw5_72 : Cond.methodLink RX5 172 yX5_hungriest ∈ TT := tmb_5 (List.mem_of_getElem? (i := 72) rfl) rfl
theorem tw5_74 : Cond.instanceMethod yX5_hungriest ∈ TT := tmb_5 (List.mem_of_getElem? (i := 74) rfl) rfl
theorem ts3_1 : Cond.selects RX5 yX5_hungriest yX5_hungriest ∈ TT := tms_3 (List.mem_of_getElem? (i := 1) rfl) rfl
theorem tw5_75 : Cond.code yX5_hungriest cX5_hungriest 3 (some .int) ∈ TT := tmb_5 (List.mem_of_getElem? (i := 75) rfl) rfl
theorem tw5_76 : Cond.methodLink RX5 169 Lib.Math.max.name ∈ TT := tmb_5 (List.mem_of_getElem? (i := 76) rfl) rfl
theorem tw5_77 : Cond.methodLink RX5 175 yX5_islands ∈ TT := tmb_5 (List.mem_of_getElem? (i := 77) rfl) rfl
theorem tw5_79 : Cond.instanceMethod yX5_islands ∈ TT := tmb_5 (List.mem_of_getElem? (i := 79) rfl) rfl
theorem ts3_2 : Cond.selects RX5 yX5_islands yX5_islands ∈ TT := tms_3 (List.mem_of_getElem? (i := 2) rfl) rfl
theorem tw5_80 : Cond.code yX5_islands cX5_islands 3 (some .int) ∈ TT := tmb_5 (List.mem_of_getElem? (i := 80) rfl) rfl
theorem tw2_114 : Cond.methodLink RL 64 yX4_ahead ∈ TT := tmb_2 (List.mem_of_getElem? (i := 114) rfl) rfl
theorem tw2_115 : Cond.instanceMethod yX4_ahead ∈ TT := tmb_2 (List.mem_of_getElem? (i := 115) rfl) rfl
theorem tw2_116 : Cond.selects RX4 yX4_ahead yX4_ahead ∈ TT := tmb_2 (List.mem_of_getElem? (i := 116) rfl) rfl
theorem tw2_117 : Cond.code yX4_ahead cX4_ahead 3 (some .int) ∈ TT := tmb_2 (List.mem_of_getElem? (i := 117) rfl) rfl
theorem tw2_118 : Cond.methodLink RX4 163 yX0_cellBehind ∈ TT := tmb_2 (List.mem_of_getElem? (i := 118) rfl) rfl
theorem tw2_119 : Cond.instanceMethod yX0_cellBehind ∈ TT := tmb_2 (List.mem_of_getElem? (i := 119) rfl) rfl
theorem tw2_120 : Cond.selects RX0 yX0_cellBehind yX0_cellBehind ∈ TT := tmb_2 (List.mem_of_getElem? (i := 120) rfl) rfl
theorem tw2_121 : Cond.code yX0_cellBehind cX0_cellBehind 5 (some .int) ∈ TT := tmb_2 (List.mem_of_getElem? (i := 121) rfl) rfl
theorem tw5_81 : Cond.methodLink RL 67 yX5_ahead ∈ TT := tmb_5 (List.mem_of_getElem? (i := 81) rfl) rfl
theorem tw5_82 : Cond.instanceMethod yX5_ahead ∈ TT := tmb_5 (List.mem_of_getElem? (i := 82) rfl) rfl
theorem tw5_83 : Cond.selects RX5 yX5_ahead yX5_ahead ∈ TT := tmb_5 (List.mem_of_getElem? (i := 83) rfl) rfl
theorem tw5_84 : Cond.code yX5_ahead cX5_ahead 3 (some .int) ∈ TT := tmb_5 (List.mem_of_getElem? (i := 84) rfl) rfl
theorem tw5_85 : Cond.methodLink RX5 181 yX5_aheadOf ∈ TT := tmb_5 (List.mem_of_getElem? (i := 85) rfl) rfl
theorem tw5_87 : Cond.instanceMethod yX5_aheadOf ∈ TT := tmb_5 (List.mem_of_getElem? (i := 87) rfl) rfl
theorem ts3_3 : Cond.selects RX5 yX5_aheadOf yX5_aheadOf ∈ TT := tms_3 (List.mem_of_getElem? (i := 3) rfl) rfl
theorem tw5_88 : Cond.code yX5_aheadOf cX5_aheadOf 3 (some .int) ∈ TT := tmb_5 (List.mem_of_getElem? (i := 88) rfl) rfl
theorem tw5_89 : Cond.methodLink RX5 67 yX5_copyRow ∈ TT := tmb_5 (List.mem_of_getElem? (i := 89) rfl) rfl
theorem tw5_90 : Cond.static yX5_copyRow ∈ TT := tmb_5 (List.mem_of_getElem? (i := 90) rfl) rfl
theorem tw5_91 : Cond.code yX5_copyRow cX5_copyRow 3 none ∈ TT := tmb_5 (List.mem_of_getElem? (i := 91) rfl) rfl
theorem tw5_92 : Cond.methodLink RX5 178 yX5_putBack ∈ TT := tmb_5 (List.mem_of_getElem? (i := 92) rfl) rfl
theorem tw5_94 : Cond.instanceMethod yX5_putBack ∈ TT := tmb_5 (List.mem_of_getElem? (i := 94) rfl) rfl
theorem ts3_4 : Cond.selects RX5 yX5_putBack yX5_putBack ∈ TT := tms_3 (List.mem_of_getElem? (i := 4) rfl) rfl
theorem tw5_95 : Cond.code yX5_putBack cX5_putBack 2 (some .int) ∈ TT := tmb_5 (List.mem_of_getElem? (i := 95) rfl) rfl
theorem tw2_122 : Cond.methodLink RL 68 yX4_lands ∈ TT := tmb_2 (List.mem_of_getElem? (i := 122) rfl) rfl
theorem tw2_123 : Cond.instanceMethod yX4_lands ∈ TT := tmb_2 (List.mem_of_getElem? (i := 123) rfl) rfl
theorem tw2_124 : Cond.selects RX4 yX4_lands yX4_lands ∈ TT := tmb_2 (List.mem_of_getElem? (i := 124) rfl) rfl
theorem tw2_125 : Cond.code yX4_lands cX4_lands 4 (some .int) ∈ TT := tmb_2 (List.mem_of_getElem? (i := 125) rfl) rfl
theorem tw2_126 : Cond.constant RX4 166 (-1000004) ∈ TT := tmb_2 (List.mem_of_getElem? (i := 126) rfl) rfl
theorem tw5_96 : Cond.methodLink RL 71 yX5_lands ∈ TT := tmb_5 (List.mem_of_getElem? (i := 96) rfl) rfl
theorem tw5_97 : Cond.instanceMethod yX5_lands ∈ TT := tmb_5 (List.mem_of_getElem? (i := 97) rfl) rfl
theorem tw5_98 : Cond.selects RX5 yX5_lands yX5_lands ∈ TT := tmb_5 (List.mem_of_getElem? (i := 98) rfl) rfl
theorem tw5_99 : Cond.code yX5_lands cX5_lands 2 (some .int) ∈ TT := tmb_5 (List.mem_of_getElem? (i := 99) rfl) rfl
theorem tw5_100 : Cond.methodLink RX5 186 yX5_landsIn ∈ TT := tmb_5 (List.mem_of_getElem? (i := 100) rfl) rfl
theorem tw5_102 : Cond.instanceMethod yX5_landsIn ∈ TT := tmb_5 (List.mem_of_getElem? (i := 102) rfl) rfl
theorem ts3_5 : Cond.selects RX5 yX5_landsIn yX5_landsIn ∈ TT := tms_3 (List.mem_of_getElem? (i := 5) rfl) rfl
theorem tw5_103 : Cond.code yX5_landsIn cX5_landsIn 4 (some .int) ∈ TT := tmb_5 (List.mem_of_getElem? (i := 103) rfl) rfl
theorem tw5_104 : Cond.constant RX5 184 (1000000) ∈ TT := tmb_5 (List.mem_of_getElem? (i := 104) rfl) rfl
theorem tw5_105 : Cond.methodLink RX5 189 yX5_told ∈ TT := tmb_5 (List.mem_of_getElem? (i := 105) rfl) rfl
theorem tw5_107 : Cond.instanceMethod yX5_told ∈ TT := tmb_5 (List.mem_of_getElem? (i := 107) rfl) rfl
theorem ts3_6 : Cond.selects RX5 yX5_told yX5_told ∈ TT := tms_3 (List.mem_of_getElem? (i := 6) rfl) rfl
theorem tw5_108 : Cond.code yX5_told cX5_told 2 (some .int) ∈ TT := tmb_5 (List.mem_of_getElem? (i := 108) rfl) rfl
theorem tw5_109 : Cond.constant RX5 185 (-1000004) ∈ TT := tmb_5 (List.mem_of_getElem? (i := 109) rfl) rfl
theorem tw2_127 : Cond.methodLink RL 72 yX4_meets ∈ TT := tmb_2 (List.mem_of_getElem? (i := 127) rfl) rfl
theorem tw2_128 : Cond.instanceMethod yX4_meets ∈ TT := tmb_2 (List.mem_of_getElem? (i := 128) rfl) rfl
theorem tw2_129 : Cond.selects RX4 yX4_meets yX4_meets ∈ TT := tmb_2 (List.mem_of_getElem? (i := 129) rfl) rfl
theorem tw2_130 : Cond.code yX4_meets cX4_meets 6 (some .int) ∈ TT := tmb_2 (List.mem_of_getElem? (i := 130) rfl) rfl
theorem tw5_110 : Cond.methodLink RL 75 yX5_meets ∈ TT := tmb_5 (List.mem_of_getElem? (i := 110) rfl) rfl
theorem tw5_111 : Cond.instanceMethod yX5_meets ∈ TT := tmb_5 (List.mem_of_getElem? (i := 111) rfl) rfl
theorem tw5_112 : Cond.selects RX5 yX5_meets yX5_meets ∈ TT := tmb_5 (List.mem_of_getElem? (i := 112) rfl) rfl
theorem tw5_113 : Cond.code yX5_meets cX5_meets 5 (some .int) ∈ TT := tmb_5 (List.mem_of_getElem? (i := 113) rfl) rfl
theorem tw2_131 : Cond.methodLink RL 76 yX4_still ∈ TT := tmb_2 (List.mem_of_getElem? (i := 131) rfl) rfl
theorem tw2_132 : Cond.instanceMethod yX4_still ∈ TT := tmb_2 (List.mem_of_getElem? (i := 132) rfl) rfl
theorem tw2_133 : Cond.selects RX4 yX4_still yX4_still ∈ TT := tmb_2 (List.mem_of_getElem? (i := 133) rfl) rfl
theorem tw2_134 : Cond.code yX4_still cX4_still 2 (some .int) ∈ TT := tmb_2 (List.mem_of_getElem? (i := 134) rfl) rfl
theorem tw2_135 : Cond.methodLink RX4 167 arraycopyName ∈ TT := tmb_2 (List.mem_of_getElem? (i := 135) rfl) rfl
theorem tw2_137 : Cond.native arraycopyName ∈ TT := tmb_2 (List.mem_of_getElem? (i := 137) rfl) rfl
theorem tw2_136 : Cond.static arraycopyName ∈ TT := tmb_2 (List.mem_of_getElem? (i := 136) rfl) rfl
theorem tw1_10 : Cond.initialized "java/lang/System" ∈ TT := tmb_1 (List.mem_of_getElem? (i := 10) rfl) rfl
theorem tw2_138 : Cond.methodLink RX4 173 yX4_movesPlaces ∈ TT := tmb_2 (List.mem_of_getElem? (i := 138) rfl) rfl
theorem tw2_140 : Cond.instanceMethod yX4_movesPlaces ∈ TT := tmb_2 (List.mem_of_getElem? (i := 140) rfl) rfl
theorem ts1_3 : Cond.selects RX4 yX4_movesPlaces yX4_movesPlaces ∈ TT := tms_1 (List.mem_of_getElem? (i := 3) rfl) rfl
theorem tw2_141 : Cond.code yX4_movesPlaces cX4_movesPlaces 5 (some .boolean) ∈ TT := tmb_2 (List.mem_of_getElem? (i := 141) rfl) rfl
theorem tw5_114 : Cond.methodLink RL 80 yX5_still ∈ TT := tmb_5 (List.mem_of_getElem? (i := 114) rfl) rfl
theorem tw5_115 : Cond.instanceMethod yX5_still ∈ TT := tmb_5 (List.mem_of_getElem? (i := 115) rfl) rfl
theorem tw5_116 : Cond.selects RX5 yX5_still yX5_still ∈ TT := tmb_5 (List.mem_of_getElem? (i := 116) rfl) rfl
theorem tw5_117 : Cond.code yX5_still cX5_still 2 (some .int) ∈ TT := tmb_5 (List.mem_of_getElem? (i := 117) rfl) rfl
theorem tw5_118 : Cond.methodLink RX5 192 yX5_isStill ∈ TT := tmb_5 (List.mem_of_getElem? (i := 118) rfl) rfl
theorem tw5_120 : Cond.instanceMethod yX5_isStill ∈ TT := tmb_5 (List.mem_of_getElem? (i := 120) rfl) rfl
theorem ts3_7 : Cond.selects RX5 yX5_isStill yX5_isStill ∈ TT := tms_3 (List.mem_of_getElem? (i := 7) rfl) rfl
theorem tw5_121 : Cond.code yX5_isStill cX5_isStill 3 (some .boolean) ∈ TT := tmb_5 (List.mem_of_getElem? (i := 121) rfl) rfl
theorem tw2_142 : Cond.methodLink RL 81 yX4_sits ∈ TT := tmb_2 (List.mem_of_getElem? (i := 142) rfl) rfl
theorem tw2_143 : Cond.instanceMethod yX4_sits ∈ TT := tmb_2 (List.mem_of_getElem? (i := 143) rfl) rfl
theorem tw2_144 : Cond.selects RX4 yX4_sits yX4_sits ∈ TT := tmb_2 (List.mem_of_getElem? (i := 144) rfl) rfl
theorem tw2_145 : Cond.code yX4_sits cX4_sits 3 (some .int) ∈ TT := tmb_2 (List.mem_of_getElem? (i := 145) rfl) rfl
theorem tw5_122 : Cond.methodLink RL 84 yX5_sits ∈ TT := tmb_5 (List.mem_of_getElem? (i := 122) rfl) rfl
theorem tw5_123 : Cond.instanceMethod yX5_sits ∈ TT := tmb_5 (List.mem_of_getElem? (i := 123) rfl) rfl
theorem tw5_124 : Cond.selects RX5 yX5_sits yX5_sits ∈ TT := tmb_5 (List.mem_of_getElem? (i := 124) rfl) rfl
theorem tw5_125 : Cond.code yX5_sits cX5_sits 3 (some .int) ∈ TT := tmb_5 (List.mem_of_getElem? (i := 125) rfl) rfl
theorem tw5_126 : Cond.methodLink RX5 196 yX5_satBehind ∈ TT := tmb_5 (List.mem_of_getElem? (i := 126) rfl) rfl
theorem tw5_128 : Cond.instanceMethod yX5_satBehind ∈ TT := tmb_5 (List.mem_of_getElem? (i := 128) rfl) rfl
theorem ts3_8 : Cond.selects RX5 yX5_satBehind yX5_satBehind ∈ TT := tms_3 (List.mem_of_getElem? (i := 8) rfl) rfl
theorem tw5_129 : Cond.code yX5_satBehind cX5_satBehind 3 (some .int) ∈ TT := tmb_5 (List.mem_of_getElem? (i := 129) rfl) rfl
theorem tw2_146 : Cond.methodLink RL 85 yX4_order ∈ TT := tmb_2 (List.mem_of_getElem? (i := 146) rfl) rfl
theorem tw2_147 : Cond.instanceMethod yX4_order ∈ TT := tmb_2 (List.mem_of_getElem? (i := 147) rfl) rfl
theorem tw2_148 : Cond.selects RX4 yX4_order yX4_order ∈ TT := tmb_2 (List.mem_of_getElem? (i := 148) rfl) rfl
theorem tw2_149 : Cond.code yX4_order cX4_order 3 (some .int) ∈ TT := tmb_2 (List.mem_of_getElem? (i := 149) rfl) rfl
theorem tw2_150 : Cond.methodLink RX4 176 yX4_quickestOrder ∈ TT := tmb_2 (List.mem_of_getElem? (i := 150) rfl) rfl
theorem tw2_152 : Cond.instanceMethod yX4_quickestOrder ∈ TT := tmb_2 (List.mem_of_getElem? (i := 152) rfl) rfl
theorem ts1_4 : Cond.selects RX4 yX4_quickestOrder yX4_quickestOrder ∈ TT := tms_1 (List.mem_of_getElem? (i := 4) rfl) rfl
theorem tw2_153 : Cond.code yX4_quickestOrder cX4_quickestOrder 6 (some .int) ∈ TT := tmb_2 (List.mem_of_getElem? (i := 153) rfl) rfl
theorem tw2_154 : Cond.methodLink RX4 182 yX4_readAhead ∈ TT := tmb_2 (List.mem_of_getElem? (i := 154) rfl) rfl
theorem tw2_156 : Cond.instanceMethod yX4_readAhead ∈ TT := tmb_2 (List.mem_of_getElem? (i := 156) rfl) rfl
theorem ts1_5 : Cond.selects RX4 yX4_readAhead yX4_readAhead ∈ TT := tms_1 (List.mem_of_getElem? (i := 5) rfl) rfl
theorem tw2_157 : Cond.code yX4_readAhead cX4_readAhead 4 none ∈ TT := tmb_2 (List.mem_of_getElem? (i := 157) rfl) rfl
theorem tw2_158 : Cond.methodLink RX4 179 yX4_landsBehind ∈ TT := tmb_2 (List.mem_of_getElem? (i := 158) rfl) rfl
theorem tw2_160 : Cond.instanceMethod yX4_landsBehind ∈ TT := tmb_2 (List.mem_of_getElem? (i := 160) rfl) rfl
theorem ts1_6 : Cond.selects RX4 yX4_landsBehind yX4_landsBehind ∈ TT := tms_1 (List.mem_of_getElem? (i := 6) rfl) rfl
theorem tw2_161 : Cond.code yX4_landsBehind cX4_landsBehind 6 (some .int) ∈ TT := tmb_2 (List.mem_of_getElem? (i := 161) rfl) rfl
theorem tw2_162 : Cond.methodLink RX4 195 yX0_nextBy ∈ TT := tmb_2 (List.mem_of_getElem? (i := 162) rfl) rfl
theorem tw5_130 : Cond.methodLink RL 88 yX5_order ∈ TT := tmb_5 (List.mem_of_getElem? (i := 130) rfl) rfl
theorem tw5_131 : Cond.instanceMethod yX5_order ∈ TT := tmb_5 (List.mem_of_getElem? (i := 131) rfl) rfl
theorem tw5_132 : Cond.selects RX5 yX5_order yX5_order ∈ TT := tmb_5 (List.mem_of_getElem? (i := 132) rfl) rfl
theorem tw5_133 : Cond.code yX5_order cX5_order 2 (some .int) ∈ TT := tmb_5 (List.mem_of_getElem? (i := 133) rfl) rfl
theorem tw5_134 : Cond.methodLink RX5 206 yX5_bestOrder ∈ TT := tmb_5 (List.mem_of_getElem? (i := 134) rfl) rfl
theorem tw5_136 : Cond.instanceMethod yX5_bestOrder ∈ TT := tmb_5 (List.mem_of_getElem? (i := 136) rfl) rfl
theorem ts3_9 : Cond.selects RX5 yX5_bestOrder yX5_bestOrder ∈ TT := tms_3 (List.mem_of_getElem? (i := 9) rfl) rfl
theorem tw5_137 : Cond.code yX5_bestOrder cX5_bestOrder 2 (some .int) ∈ TT := tmb_5 (List.mem_of_getElem? (i := 137) rfl) rfl
theorem tw5_138 : Cond.methodLink RX5 203 yX5_soonestWith ∈ TT := tmb_5 (List.mem_of_getElem? (i := 138) rfl) rfl
theorem tw5_140 : Cond.instanceMethod yX5_soonestWith ∈ TT := tmb_5 (List.mem_of_getElem? (i := 140) rfl) rfl
theorem ts3_10 : Cond.selects RX5 yX5_soonestWith yX5_soonestWith ∈ TT := tms_3 (List.mem_of_getElem? (i := 10) rfl) rfl
theorem tw5_141 : Cond.code yX5_soonestWith cX5_soonestWith 8 (some .int) ∈ TT := tmb_5 (List.mem_of_getElem? (i := 141) rfl) rfl
theorem tw4_90 : Cond.fieldLink RX5 199 "NavyOfCatsModel" "soonestFound" "I" ∈ TT := tmb_4 (List.mem_of_getElem? (i := 90) rfl) rfl
theorem tw5_142 : Cond.methodLink RX5 209 yX5_orNone ∈ TT := tmb_5 (List.mem_of_getElem? (i := 142) rfl) rfl
theorem tw5_144 : Cond.instanceMethod yX5_orNone ∈ TT := tmb_5 (List.mem_of_getElem? (i := 144) rfl) rfl
theorem ts3_11 : Cond.selects RX5 yX5_orNone yX5_orNone ∈ TT := tms_3 (List.mem_of_getElem? (i := 11) rfl) rfl
theorem tw5_145 : Cond.code yX5_orNone cX5_orNone 2 (some .int) ∈ TT := tmb_5 (List.mem_of_getElem? (i := 145) rfl) rfl
theorem tw2_163 : Cond.methodLink RL 89 yX4_soonest ∈ TT := tmb_2 (List.mem_of_getElem? (i := 163) rfl) rfl
theorem tw2_164 : Cond.instanceMethod yX4_soonest ∈ TT := tmb_2 (List.mem_of_getElem? (i := 164) rfl) rfl
theorem tw2_165 : Cond.selects RX4 yX4_soonest yX4_soonest ∈ TT := tmb_2 (List.mem_of_getElem? (i := 165) rfl) rfl
theorem tw2_166 : Cond.code yX4_soonest cX4_soonest 3 (some .int) ∈ TT := tmb_2 (List.mem_of_getElem? (i := 166) rfl) rfl
theorem tw5_146 : Cond.methodLink RL 92 yX5_soonest ∈ TT := tmb_5 (List.mem_of_getElem? (i := 146) rfl) rfl
theorem tw5_147 : Cond.instanceMethod yX5_soonest ∈ TT := tmb_5 (List.mem_of_getElem? (i := 147) rfl) rfl
theorem tw5_148 : Cond.selects RX5 yX5_soonest yX5_soonest ∈ TT := tmb_5 (List.mem_of_getElem? (i := 148) rfl) rfl
theorem tw5_149 : Cond.code yX5_soonest cX5_soonest 2 (some .int) ∈ TT := tmb_5 (List.mem_of_getElem? (i := 149) rfl) rfl
theorem tw2_167 : Cond.methodLink RL 93 yX4_orders ∈ TT := tmb_2 (List.mem_of_getElem? (i := 167) rfl) rfl
theorem tw2_168 : Cond.instanceMethod yX4_orders ∈ TT := tmb_2 (List.mem_of_getElem? (i := 168) rfl) rfl
theorem tw2_169 : Cond.selects RX4 yX4_orders yX4_orders ∈ TT := tmb_2 (List.mem_of_getElem? (i := 169) rfl) rfl
theorem tw2_170 : Cond.code yX4_orders cX4_orders 6 (some .long) ∈ TT := tmb_2 (List.mem_of_getElem? (i := 170) rfl) rfl
theorem tw2_171 : Cond.methodLink RX4 186 yX4_endsAt ∈ TT := tmb_2 (List.mem_of_getElem? (i := 171) rfl) rfl
theorem tw2_173 : Cond.instanceMethod yX4_endsAt ∈ TT := tmb_2 (List.mem_of_getElem? (i := 173) rfl) rfl
theorem ts1_7 : Cond.selects RX4 yX4_endsAt yX4_endsAt ∈ TT := tms_1 (List.mem_of_getElem? (i := 7) rfl) rfl
theorem tw2_174 : Cond.code yX4_endsAt cX4_endsAt 5 (some .int) ∈ TT := tmb_2 (List.mem_of_getElem? (i := 174) rfl) rfl
theorem tw5_150 : Cond.methodLink RL 97 yX5_orders ∈ TT := tmb_5 (List.mem_of_getElem? (i := 150) rfl) rfl
theorem tw5_151 : Cond.instanceMethod yX5_orders ∈ TT := tmb_5 (List.mem_of_getElem? (i := 151) rfl) rfl
theorem tw5_152 : Cond.selects RX5 yX5_orders yX5_orders ∈ TT := tmb_5 (List.mem_of_getElem? (i := 152) rfl) rfl
theorem tw5_153 : Cond.code yX5_orders cX5_orders 7 (some .long) ∈ TT := tmb_5 (List.mem_of_getElem? (i := 153) rfl) rfl
theorem tw2_175 : Cond.methodLink RL 98 yX4_surest ∈ TT := tmb_2 (List.mem_of_getElem? (i := 175) rfl) rfl
theorem tw2_176 : Cond.instanceMethod yX4_surest ∈ TT := tmb_2 (List.mem_of_getElem? (i := 176) rfl) rfl
theorem tw2_177 : Cond.selects RX4 yX4_surest yX4_surest ∈ TT := tmb_2 (List.mem_of_getElem? (i := 177) rfl) rfl
theorem tw2_178 : Cond.code yX4_surest cX4_surest 2 (some .int) ∈ TT := tmb_2 (List.mem_of_getElem? (i := 178) rfl) rfl
theorem tw2_179 : Cond.methodLink RX4 189 yX4_surestOrder ∈ TT := tmb_2 (List.mem_of_getElem? (i := 179) rfl) rfl
theorem tw2_181 : Cond.instanceMethod yX4_surestOrder ∈ TT := tmb_2 (List.mem_of_getElem? (i := 181) rfl) rfl
theorem ts1_8 : Cond.selects RX4 yX4_surestOrder yX4_surestOrder ∈ TT := tms_1 (List.mem_of_getElem? (i := 8) rfl) rfl
theorem tw2_182 : Cond.code yX4_surestOrder cX4_surestOrder 6 (some .int) ∈ TT := tmb_2 (List.mem_of_getElem? (i := 182) rfl) rfl
theorem tw2_183 : Cond.methodLink RX4 192 yX4_windsThatLand ∈ TT := tmb_2 (List.mem_of_getElem? (i := 183) rfl) rfl
theorem tw2_185 : Cond.instanceMethod yX4_windsThatLand ∈ TT := tmb_2 (List.mem_of_getElem? (i := 185) rfl) rfl
theorem ts1_9 : Cond.selects RX4 yX4_windsThatLand yX4_windsThatLand ∈ TT := tms_1 (List.mem_of_getElem? (i := 9) rfl) rfl
theorem tw2_186 : Cond.code yX4_windsThatLand cX4_windsThatLand 5 (some .int) ∈ TT := tmb_2 (List.mem_of_getElem? (i := 186) rfl) rfl
theorem tw5_154 : Cond.methodLink RL 101 yX5_surest ∈ TT := tmb_5 (List.mem_of_getElem? (i := 154) rfl) rfl
theorem tw5_155 : Cond.instanceMethod yX5_surest ∈ TT := tmb_5 (List.mem_of_getElem? (i := 155) rfl) rfl
theorem tw5_156 : Cond.selects RX5 yX5_surest yX5_surest ∈ TT := tmb_5 (List.mem_of_getElem? (i := 156) rfl) rfl
theorem tw5_157 : Cond.code yX5_surest cX5_surest 2 (some .int) ∈ TT := tmb_5 (List.mem_of_getElem? (i := 157) rfl) rfl
theorem tw5_158 : Cond.methodLink RX5 215 yX5_findSurest ∈ TT := tmb_5 (List.mem_of_getElem? (i := 158) rfl) rfl
theorem tw5_160 : Cond.instanceMethod yX5_findSurest ∈ TT := tmb_5 (List.mem_of_getElem? (i := 160) rfl) rfl
theorem ts3_12 : Cond.selects RX5 yX5_findSurest yX5_findSurest ∈ TT := tms_3 (List.mem_of_getElem? (i := 12) rfl) rfl
theorem tw5_161 : Cond.code yX5_findSurest cX5_findSurest 8 (some .int) ∈ TT := tmb_5 (List.mem_of_getElem? (i := 161) rfl) rfl
theorem tw4_91 : Cond.fieldLink RX5 212 "NavyOfCatsModel" "windsFound" "I" ∈ TT := tmb_4 (List.mem_of_getElem? (i := 91) rfl) rfl
theorem tw2_187 : Cond.methodLink RL 102 yX4_winds ∈ TT := tmb_2 (List.mem_of_getElem? (i := 187) rfl) rfl
theorem tw2_188 : Cond.instanceMethod yX4_winds ∈ TT := tmb_2 (List.mem_of_getElem? (i := 188) rfl) rfl
theorem tw2_189 : Cond.selects RX4 yX4_winds yX4_winds ∈ TT := tmb_2 (List.mem_of_getElem? (i := 189) rfl) rfl
theorem tw2_190 : Cond.code yX4_winds cX4_winds 2 (some .int) ∈ TT := tmb_2 (List.mem_of_getElem? (i := 190) rfl) rfl
theorem tw5_162 : Cond.methodLink RL 105 yX5_winds ∈ TT := tmb_5 (List.mem_of_getElem? (i := 162) rfl) rfl
theorem tw5_163 : Cond.instanceMethod yX5_winds ∈ TT := tmb_5 (List.mem_of_getElem? (i := 163) rfl) rfl
theorem tw5_164 : Cond.selects RX5 yX5_winds yX5_winds ∈ TT := tmb_5 (List.mem_of_getElem? (i := 164) rfl) rfl
theorem tw5_165 : Cond.code yX5_winds cX5_winds 2 (some .int) ∈ TT := tmb_5 (List.mem_of_getElem? (i := 165) rfl) rfl
theorem tw2_191 : Cond.methodLink RL 106 yX4_windFor ∈ TT := tmb_2 (List.mem_of_getElem? (i := 191) rfl) rfl
theorem tw2_192 : Cond.instanceMethod yX4_windFor ∈ TT := tmb_2 (List.mem_of_getElem? (i := 192) rfl) rfl
theorem tw2_193 : Cond.selects RX4 yX4_windFor yX4_windFor ∈ TT := tmb_2 (List.mem_of_getElem? (i := 193) rfl) rfl
theorem tw2_194 : Cond.code yX4_windFor cX4_windFor 6 (some .int) ∈ TT := tmb_2 (List.mem_of_getElem? (i := 194) rfl) rfl
theorem tw5_166 : Cond.methodLink RL 109 yX5_windFor ∈ TT := tmb_5 (List.mem_of_getElem? (i := 166) rfl) rfl
theorem tw5_167 : Cond.instanceMethod yX5_windFor ∈ TT := tmb_5 (List.mem_of_getElem? (i := 167) rfl) rfl
theorem tw5_168 : Cond.selects RX5 yX5_windFor yX5_windFor ∈ TT := tmb_5 (List.mem_of_getElem? (i := 168) rfl) rfl
theorem tw5_169 : Cond.code yX5_windFor cX5_windFor 2 (some .int) ∈ TT := tmb_5 (List.mem_of_getElem? (i := 169) rfl) rfl
theorem tw2_195 : Cond.methodLink RL 110 yX4_crew ∈ TT := tmb_2 (List.mem_of_getElem? (i := 195) rfl) rfl
theorem tw2_196 : Cond.instanceMethod yX4_crew ∈ TT := tmb_2 (List.mem_of_getElem? (i := 196) rfl) rfl
theorem tw2_197 : Cond.selects RX4 yX4_crew yX4_crew ∈ TT := tmb_2 (List.mem_of_getElem? (i := 197) rfl) rfl
theorem tw2_198 : Cond.code yX4_crew cX4_crew 2 (some .int) ∈ TT := tmb_2 (List.mem_of_getElem? (i := 198) rfl) rfl
theorem tw2_199 : Cond.methodLink RX4 198 yX4_bestCrew ∈ TT := tmb_2 (List.mem_of_getElem? (i := 199) rfl) rfl
theorem tw2_201 : Cond.instanceMethod yX4_bestCrew ∈ TT := tmb_2 (List.mem_of_getElem? (i := 201) rfl) rfl
theorem ts1_10 : Cond.selects RX4 yX4_bestCrew yX4_bestCrew ∈ TT := tms_1 (List.mem_of_getElem? (i := 10) rfl) rfl
theorem tw2_202 : Cond.code yX4_bestCrew cX4_bestCrew 6 (some .int) ∈ TT := tmb_2 (List.mem_of_getElem? (i := 202) rfl) rfl
theorem tw2_203 : Cond.methodLink RX4 201 Lib.Math.abs.name ∈ TT := tmb_2 (List.mem_of_getElem? (i := 203) rfl) rfl
theorem tw2_204 : Cond.static Lib.Math.abs.name ∈ TT := tmb_2 (List.mem_of_getElem? (i := 204) rfl) rfl
theorem tw2_205 : Cond.code Lib.Math.abs.name Lib.Math.abs.code 1 (some .int) ∈ TT := tmb_2 (List.mem_of_getElem? (i := 205) rfl) rfl
theorem tw5_170 : Cond.methodLink RL 113 yX5_crew ∈ TT := tmb_5 (List.mem_of_getElem? (i := 170) rfl) rfl
theorem tw5_171 : Cond.instanceMethod yX5_crew ∈ TT := tmb_5 (List.mem_of_getElem? (i := 171) rfl) rfl
theorem tw5_172 : Cond.selects RX5 yX5_crew yX5_crew ∈ TT := tmb_5 (List.mem_of_getElem? (i := 172) rfl) rfl
theorem tw5_173 : Cond.code yX5_crew cX5_crew 2 (some .int) ∈ TT := tmb_5 (List.mem_of_getElem? (i := 173) rfl) rfl
theorem tw5_174 : Cond.methodLink RX5 221 yX5_findCrew ∈ TT := tmb_5 (List.mem_of_getElem? (i := 174) rfl) rfl
theorem tw5_176 : Cond.instanceMethod yX5_findCrew ∈ TT := tmb_5 (List.mem_of_getElem? (i := 176) rfl) rfl
theorem ts3_13 : Cond.selects RX5 yX5_findCrew yX5_findCrew ∈ TT := tms_3 (List.mem_of_getElem? (i := 13) rfl) rfl
theorem tw5_177 : Cond.code yX5_findCrew cX5_findCrew 5 (some .int) ∈ TT := tmb_5 (List.mem_of_getElem? (i := 177) rfl) rfl
theorem tw5_178 : Cond.methodLink RX5 218 Lib.Math.abs.name ∈ TT := tmb_5 (List.mem_of_getElem? (i := 178) rfl) rfl
theorem tw2_206 : Cond.methodLink RL 114 yX4_mean ∈ TT := tmb_2 (List.mem_of_getElem? (i := 206) rfl) rfl
theorem tw2_207 : Cond.instanceMethod yX4_mean ∈ TT := tmb_2 (List.mem_of_getElem? (i := 207) rfl) rfl
theorem tw2_208 : Cond.selects RX4 yX4_mean yX4_mean ∈ TT := tmb_2 (List.mem_of_getElem? (i := 208) rfl) rfl
theorem tw2_209 : Cond.code yX4_mean cX4_mean 2 (some .int) ∈ TT := tmb_2 (List.mem_of_getElem? (i := 209) rfl) rfl
theorem tw5_179 : Cond.methodLink RL 117 yX5_mean ∈ TT := tmb_5 (List.mem_of_getElem? (i := 179) rfl) rfl
theorem tw5_180 : Cond.instanceMethod yX5_mean ∈ TT := tmb_5 (List.mem_of_getElem? (i := 180) rfl) rfl
theorem tw5_181 : Cond.selects RX5 yX5_mean yX5_mean ∈ TT := tmb_5 (List.mem_of_getElem? (i := 181) rfl) rfl
theorem tw5_182 : Cond.code yX5_mean cX5_mean 3 (some .int) ∈ TT := tmb_5 (List.mem_of_getElem? (i := 182) rfl) rfl
theorem tw2_210 : Cond.methodLink RL 118 yX4_better ∈ TT := tmb_2 (List.mem_of_getElem? (i := 210) rfl) rfl
theorem tw2_211 : Cond.instanceMethod yX4_better ∈ TT := tmb_2 (List.mem_of_getElem? (i := 211) rfl) rfl
theorem tw2_212 : Cond.selects RX4 yX4_better yX4_better ∈ TT := tmb_2 (List.mem_of_getElem? (i := 212) rfl) rfl
theorem tw2_213 : Cond.code yX4_better cX4_better 6 (some .int) ∈ TT := tmb_2 (List.mem_of_getElem? (i := 213) rfl) rfl
theorem tw5_183 : Cond.methodLink RL 121 yX5_better ∈ TT := tmb_5 (List.mem_of_getElem? (i := 183) rfl) rfl
theorem tw5_184 : Cond.instanceMethod yX5_better ∈ TT := tmb_5 (List.mem_of_getElem? (i := 184) rfl) rfl
theorem tw5_185 : Cond.selects RX5 yX5_better yX5_better ∈ TT := tmb_5 (List.mem_of_getElem? (i := 185) rfl) rfl
theorem tw5_186 : Cond.code yX5_better cX5_better 7 (some .int) ∈ TT := tmb_5 (List.mem_of_getElem? (i := 186) rfl) rfl
theorem tw2_214 : Cond.methodLink RL 122 yX4_spy ∈ TT := tmb_2 (List.mem_of_getElem? (i := 214) rfl) rfl
theorem tw2_215 : Cond.instanceMethod yX4_spy ∈ TT := tmb_2 (List.mem_of_getElem? (i := 215) rfl) rfl
theorem tw2_216 : Cond.selects RX4 yX4_spy yX4_spy ∈ TT := tmb_2 (List.mem_of_getElem? (i := 216) rfl) rfl
theorem tw2_217 : Cond.code yX4_spy cX4_spy 10 (some .int) ∈ TT := tmb_2 (List.mem_of_getElem? (i := 217) rfl) rfl
theorem tw2_218 : Cond.methodLink RX4 206 yX4_distance ∈ TT := tmb_2 (List.mem_of_getElem? (i := 218) rfl) rfl
theorem tw2_219 : Cond.static yX4_distance ∈ TT := tmb_2 (List.mem_of_getElem? (i := 219) rfl) rfl
theorem tw2_220 : Cond.code yX4_distance cX4_distance 2 (some .int) ∈ TT := tmb_2 (List.mem_of_getElem? (i := 220) rfl) rfl
theorem tw5_187 : Cond.methodLink RL 125 yX5_spy ∈ TT := tmb_5 (List.mem_of_getElem? (i := 187) rfl) rfl
theorem tw5_188 : Cond.instanceMethod yX5_spy ∈ TT := tmb_5 (List.mem_of_getElem? (i := 188) rfl) rfl
theorem tw5_189 : Cond.selects RX5 yX5_spy yX5_spy ∈ TT := tmb_5 (List.mem_of_getElem? (i := 189) rfl) rfl
theorem tw5_190 : Cond.code yX5_spy cX5_spy 10 (some .int) ∈ TT := tmb_5 (List.mem_of_getElem? (i := 190) rfl) rfl
theorem tw5_191 : Cond.methodLink RX5 224 yX5_apart ∈ TT := tmb_5 (List.mem_of_getElem? (i := 191) rfl) rfl
theorem tw5_192 : Cond.static yX5_apart ∈ TT := tmb_5 (List.mem_of_getElem? (i := 192) rfl) rfl
theorem tw5_193 : Cond.code yX5_apart cX5_apart 2 (some .int) ∈ TT := tmb_5 (List.mem_of_getElem? (i := 193) rfl) rfl
theorem tw2_221 : Cond.methodLink RL 126 yX4_uses ∈ TT := tmb_2 (List.mem_of_getElem? (i := 221) rfl) rfl
theorem tw2_222 : Cond.instanceMethod yX4_uses ∈ TT := tmb_2 (List.mem_of_getElem? (i := 222) rfl) rfl
theorem tw2_223 : Cond.selects RX4 yX4_uses yX4_uses ∈ TT := tmb_2 (List.mem_of_getElem? (i := 223) rfl) rfl
theorem tw2_224 : Cond.code yX4_uses cX4_uses 3 (some .int) ∈ TT := tmb_2 (List.mem_of_getElem? (i := 224) rfl) rfl
theorem tw2_225 : Cond.methodLink RX4 209 yX0_fedIn ∈ TT := tmb_2 (List.mem_of_getElem? (i := 225) rfl) rfl
theorem tw2_226 : Cond.instanceMethod yX0_fedIn ∈ TT := tmb_2 (List.mem_of_getElem? (i := 226) rfl) rfl
theorem tw2_227 : Cond.selects RX0 yX0_fedIn yX0_fedIn ∈ TT := tmb_2 (List.mem_of_getElem? (i := 227) rfl) rfl
theorem tw2_228 : Cond.code yX0_fedIn cX0_fedIn 6 (some .int) ∈ TT := tmb_2 (List.mem_of_getElem? (i := 228) rfl) rfl
theorem tw5_194 : Cond.methodLink RL 129 yX5_uses ∈ TT := tmb_5 (List.mem_of_getElem? (i := 194) rfl) rfl
theorem tw5_195 : Cond.instanceMethod yX5_uses ∈ TT := tmb_5 (List.mem_of_getElem? (i := 195) rfl) rfl
theorem tw5_196 : Cond.selects RX5 yX5_uses yX5_uses ∈ TT := tmb_5 (List.mem_of_getElem? (i := 196) rfl) rfl
theorem tw5_197 : Cond.code yX5_uses cX5_uses 3 (some .int) ∈ TT := tmb_5 (List.mem_of_getElem? (i := 197) rfl) rfl
theorem tw5_198 : Cond.methodLink RX5 227 yX5_usedIn ∈ TT := tmb_5 (List.mem_of_getElem? (i := 198) rfl) rfl
theorem tw5_200 : Cond.instanceMethod yX5_usedIn ∈ TT := tmb_5 (List.mem_of_getElem? (i := 200) rfl) rfl
theorem ts3_14 : Cond.selects RX5 yX5_usedIn yX5_usedIn ∈ TT := tms_3 (List.mem_of_getElem? (i := 14) rfl) rfl
theorem tw5_201 : Cond.code yX5_usedIn cX5_usedIn 6 (some .int) ∈ TT := tmb_5 (List.mem_of_getElem? (i := 201) rfl) rfl
theorem tw2_229 : Cond.methodLink RL 130 yX4_hunger ∈ TT := tmb_2 (List.mem_of_getElem? (i := 229) rfl) rfl
theorem tw2_230 : Cond.instanceMethod yX4_hunger ∈ TT := tmb_2 (List.mem_of_getElem? (i := 230) rfl) rfl
theorem tw2_231 : Cond.selects RX4 yX4_hunger yX4_hunger ∈ TT := tmb_2 (List.mem_of_getElem? (i := 231) rfl) rfl
theorem tw2_232 : Cond.code yX4_hunger cX4_hunger 3 (some .int) ∈ TT := tmb_2 (List.mem_of_getElem? (i := 232) rfl) rfl
theorem tw5_202 : Cond.methodLink RL 133 yX5_hunger ∈ TT := tmb_5 (List.mem_of_getElem? (i := 202) rfl) rfl
theorem tw5_203 : Cond.instanceMethod yX5_hunger ∈ TT := tmb_5 (List.mem_of_getElem? (i := 203) rfl) rfl
theorem tw5_204 : Cond.selects RX5 yX5_hunger yX5_hunger ∈ TT := tmb_5 (List.mem_of_getElem? (i := 204) rfl) rfl
theorem tw5_205 : Cond.code yX5_hunger cX5_hunger 3 (some .int) ∈ TT := tmb_5 (List.mem_of_getElem? (i := 205) rfl) rfl
theorem tw2_233 : Cond.methodLink RL 134 yX4_kinds ∈ TT := tmb_2 (List.mem_of_getElem? (i := 233) rfl) rfl
theorem tw2_234 : Cond.instanceMethod yX4_kinds ∈ TT := tmb_2 (List.mem_of_getElem? (i := 234) rfl) rfl
theorem tw2_235 : Cond.selects RX4 yX4_kinds yX4_kinds ∈ TT := tmb_2 (List.mem_of_getElem? (i := 235) rfl) rfl
theorem tw2_236 : Cond.code yX4_kinds cX4_kinds 6 (some .int) ∈ TT := tmb_2 (List.mem_of_getElem? (i := 236) rfl) rfl
theorem tw2_237 : Cond.methodLink RX4 212 yX4_wrongLog ∈ TT := tmb_2 (List.mem_of_getElem? (i := 237) rfl) rfl
theorem tw2_239 : Cond.instanceMethod yX4_wrongLog ∈ TT := tmb_2 (List.mem_of_getElem? (i := 239) rfl) rfl
theorem ts1_11 : Cond.selects RX4 yX4_wrongLog yX4_wrongLog ∈ TT := tms_1 (List.mem_of_getElem? (i := 11) rfl) rfl
theorem tw3_0 : Cond.code yX4_wrongLog cX4_wrongLog 4 (some .int) ∈ TT := tmb_3 (List.mem_of_getElem? (i := 0) rfl) rfl
theorem tw3_1 : Cond.methodLink RX4 227 yX4_wrongSheet ∈ TT := tmb_3 (List.mem_of_getElem? (i := 1) rfl) rfl
theorem tw3_3 : Cond.instanceMethod yX4_wrongSheet ∈ TT := tmb_3 (List.mem_of_getElem? (i := 3) rfl) rfl
theorem ts1_12 : Cond.selects RX4 yX4_wrongSheet yX4_wrongSheet ∈ TT := tms_1 (List.mem_of_getElem? (i := 12) rfl) rfl
theorem tw3_4 : Cond.code yX4_wrongSheet cX4_wrongSheet 2 (some .int) ∈ TT := tmb_3 (List.mem_of_getElem? (i := 4) rfl) rfl
theorem tw3_12 : Cond.constant RX4 267 (-1000006) ∈ TT := tmb_3 (List.mem_of_getElem? (i := 12) rfl) rfl
theorem tw3_5 : Cond.methodLink RX4 272 yX4_isSheet ∈ TT := tmb_3 (List.mem_of_getElem? (i := 5) rfl) rfl
theorem tw3_6 : Cond.static yX4_isSheet ∈ TT := tmb_3 (List.mem_of_getElem? (i := 6) rfl) rfl
theorem tw3_7 : Cond.code yX4_isSheet cX4_isSheet 1 (some .boolean) ∈ TT := tmb_3 (List.mem_of_getElem? (i := 7) rfl) rfl
theorem tw3_8 : Cond.methodLink RX4 282 yX2_isMissing ∈ TT := tmb_3 (List.mem_of_getElem? (i := 8) rfl) rfl
theorem tw3_9 : Cond.instanceMethod yX2_isMissing ∈ TT := tmb_3 (List.mem_of_getElem? (i := 9) rfl) rfl
theorem tw3_10 : Cond.selects RX2 yX2_isMissing yX2_isMissing ∈ TT := tmb_3 (List.mem_of_getElem? (i := 10) rfl) rfl
theorem tw3_11 : Cond.code yX2_isMissing cX2_isMissing 1 (some .boolean) ∈ TT := tmb_3 (List.mem_of_getElem? (i := 11) rfl) rfl
theorem tw1_153 : Cond.fieldLink RX2 15 "NavyOfCats$Sheet" "bits" "I" ∈ TT := tmb_1 (List.mem_of_getElem? (i := 153) rfl) rfl
theorem tw3_13 : Cond.methodLink RX4 216 yX4_sitsAsTold ∈ TT := tmb_3 (List.mem_of_getElem? (i := 13) rfl) rfl
theorem tw3_15 : Cond.instanceMethod yX4_sitsAsTold ∈ TT := tmb_3 (List.mem_of_getElem? (i := 15) rfl) rfl
theorem ts1_13 : Cond.selects RX4 yX4_sitsAsTold yX4_sitsAsTold ∈ TT := tms_1 (List.mem_of_getElem? (i := 13) rfl) rfl
theorem tw3_16 : Cond.code yX4_sitsAsTold cX4_sitsAsTold 6 (some .boolean) ∈ TT := tmb_3 (List.mem_of_getElem? (i := 16) rfl) rfl
theorem tw1_156 : Cond.fieldLink RX4 220 "NavyOfCats$Sheet" "size" "I" ∈ TT := tmb_1 (List.mem_of_getElem? (i := 156) rfl) rfl
theorem tw1_158 : Cond.fieldLink RX4 230 "NavyOfCats$Sheet" "numbers" "[I" ∈ TT := tmb_1 (List.mem_of_getElem? (i := 158) rfl) rfl
theorem tw3_17 : Cond.methodLink RX4 233 yX0_errsAs ∈ TT := tmb_3 (List.mem_of_getElem? (i := 17) rfl) rfl
theorem tw5_206 : Cond.methodLink RL 137 yX5_kinds ∈ TT := tmb_5 (List.mem_of_getElem? (i := 206) rfl) rfl
theorem tw5_207 : Cond.instanceMethod yX5_kinds ∈ TT := tmb_5 (List.mem_of_getElem? (i := 207) rfl) rfl
theorem tw5_208 : Cond.selects RX5 yX5_kinds yX5_kinds ∈ TT := tmb_5 (List.mem_of_getElem? (i := 208) rfl) rfl
theorem tw5_209 : Cond.code yX5_kinds cX5_kinds 3 (some .int) ∈ TT := tmb_5 (List.mem_of_getElem? (i := 209) rfl) rfl
theorem tw5_210 : Cond.methodLink RX5 237 yX5_lacks ∈ TT := tmb_5 (List.mem_of_getElem? (i := 210) rfl) rfl
theorem tw5_212 : Cond.instanceMethod yX5_lacks ∈ TT := tmb_5 (List.mem_of_getElem? (i := 212) rfl) rfl
theorem ts3_15 : Cond.selects RX5 yX5_lacks yX5_lacks ∈ TT := tms_3 (List.mem_of_getElem? (i := 15) rfl) rfl
theorem tw5_213 : Cond.code yX5_lacks cX5_lacks 2 (some .int) ∈ TT := tmb_5 (List.mem_of_getElem? (i := 213) rfl) rfl
theorem tw5_217 : Cond.constant RX5 236 (-1000006) ∈ TT := tmb_5 (List.mem_of_getElem? (i := 217) rfl) rfl
theorem tw5_214 : Cond.methodLink RX5 233 yX5_isSheet ∈ TT := tmb_5 (List.mem_of_getElem? (i := 214) rfl) rfl
theorem tw5_215 : Cond.static yX5_isSheet ∈ TT := tmb_5 (List.mem_of_getElem? (i := 215) rfl) rfl
theorem tw5_216 : Cond.code yX5_isSheet cX5_isSheet 1 (some .boolean) ∈ TT := tmb_5 (List.mem_of_getElem? (i := 216) rfl) rfl
theorem tw5_218 : Cond.methodLink RX5 240 yX5_fitting ∈ TT := tmb_5 (List.mem_of_getElem? (i := 218) rfl) rfl
theorem tw5_220 : Cond.instanceMethod yX5_fitting ∈ TT := tmb_5 (List.mem_of_getElem? (i := 220) rfl) rfl
theorem ts4_0 : Cond.selects RX5 yX5_fitting yX5_fitting ∈ TT := tms_4 (List.mem_of_getElem? (i := 0) rfl) rfl
theorem tw5_221 : Cond.code yX5_fitting cX5_fitting 10 (some .long) ∈ TT := tmb_5 (List.mem_of_getElem? (i := 221) rfl) rfl
theorem tw5_222 : Cond.methodLink RX5 230 yX5_satSo ∈ TT := tmb_5 (List.mem_of_getElem? (i := 222) rfl) rfl
theorem tw5_224 : Cond.instanceMethod yX5_satSo ∈ TT := tmb_5 (List.mem_of_getElem? (i := 224) rfl) rfl
theorem ts4_1 : Cond.selects RX5 yX5_satSo yX5_satSo ∈ TT := tms_4 (List.mem_of_getElem? (i := 1) rfl) rfl
theorem tw5_225 : Cond.code yX5_satSo cX5_satSo 5 (some .boolean) ∈ TT := tmb_5 (List.mem_of_getElem? (i := 225) rfl) rfl
theorem tw3_18 : Cond.methodLink RL 138 yX4_habits ∈ TT := tmb_3 (List.mem_of_getElem? (i := 18) rfl) rfl
theorem tw3_19 : Cond.instanceMethod yX4_habits ∈ TT := tmb_3 (List.mem_of_getElem? (i := 19) rfl) rfl
theorem tw3_20 : Cond.selects RX4 yX4_habits yX4_habits ∈ TT := tmb_3 (List.mem_of_getElem? (i := 20) rfl) rfl
theorem tw3_21 : Cond.code yX4_habits cX4_habits 6 (some .int) ∈ TT := tmb_3 (List.mem_of_getElem? (i := 21) rfl) rfl
theorem tw5_226 : Cond.methodLink RL 141 yX5_habits ∈ TT := tmb_5 (List.mem_of_getElem? (i := 226) rfl) rfl
theorem tw5_227 : Cond.instanceMethod yX5_habits ∈ TT := tmb_5 (List.mem_of_getElem? (i := 227) rfl) rfl
theorem tw5_228 : Cond.selects RX5 yX5_habits yX5_habits ∈ TT := tmb_5 (List.mem_of_getElem? (i := 228) rfl) rfl
theorem tw5_229 : Cond.code yX5_habits cX5_habits 6 (some .int) ∈ TT := tmb_5 (List.mem_of_getElem? (i := 229) rfl) rfl
theorem tw3_22 : Cond.methodLink RL 142 yX4_begun ∈ TT := tmb_3 (List.mem_of_getElem? (i := 22) rfl) rfl
theorem tw3_23 : Cond.instanceMethod yX4_begun ∈ TT := tmb_3 (List.mem_of_getElem? (i := 23) rfl) rfl
theorem tw3_24 : Cond.selects RX4 yX4_begun yX4_begun ∈ TT := tmb_3 (List.mem_of_getElem? (i := 24) rfl) rfl
theorem tw3_25 : Cond.code yX4_begun cX4_begun 6 (some .int) ∈ TT := tmb_3 (List.mem_of_getElem? (i := 25) rfl) rfl
theorem tw3_26 : Cond.methodLink RX4 223 yX4_goesAsTold ∈ TT := tmb_3 (List.mem_of_getElem? (i := 26) rfl) rfl
theorem tw3_28 : Cond.instanceMethod yX4_goesAsTold ∈ TT := tmb_3 (List.mem_of_getElem? (i := 28) rfl) rfl
theorem ts1_14 : Cond.selects RX4 yX4_goesAsTold yX4_goesAsTold ∈ TT := tms_1 (List.mem_of_getElem? (i := 14) rfl) rfl
theorem tw3_29 : Cond.code yX4_goesAsTold cX4_goesAsTold 7 (some .boolean) ∈ TT := tmb_3 (List.mem_of_getElem? (i := 29) rfl) rfl
theorem tw5_230 : Cond.methodLink RL 145 yX5_begun ∈ TT := tmb_5 (List.mem_of_getElem? (i := 230) rfl) rfl
theorem tw5_231 : Cond.instanceMethod yX5_begun ∈ TT := tmb_5 (List.mem_of_getElem? (i := 231) rfl) rfl
theorem tw5_232 : Cond.selects RX5 yX5_begun yX5_begun ∈ TT := tmb_5 (List.mem_of_getElem? (i := 232) rfl) rfl
theorem tw5_233 : Cond.code yX5_begun cX5_begun 3 (some .int) ∈ TT := tmb_5 (List.mem_of_getElem? (i := 233) rfl) rfl
theorem tw4_92 : Cond.fieldLink RX5 244 "NavyOfCatsModel" "begunFound" "I" ∈ TT := tmb_4 (List.mem_of_getElem? (i := 92) rfl) rfl
theorem tw5_234 : Cond.methodLink RX5 250 yX5_findBegun ∈ TT := tmb_5 (List.mem_of_getElem? (i := 234) rfl) rfl
theorem tw5_236 : Cond.instanceMethod yX5_findBegun ∈ TT := tmb_5 (List.mem_of_getElem? (i := 236) rfl) rfl
theorem ts4_2 : Cond.selects RX5 yX5_findBegun yX5_findBegun ∈ TT := tms_4 (List.mem_of_getElem? (i := 2) rfl) rfl
theorem tw5_237 : Cond.code yX5_findBegun cX5_findBegun 7 (some .int) ∈ TT := tmb_5 (List.mem_of_getElem? (i := 237) rfl) rfl
theorem tw5_238 : Cond.methodLink RX5 247 yX5_wentSo ∈ TT := tmb_5 (List.mem_of_getElem? (i := 238) rfl) rfl
theorem tw6_0 : Cond.instanceMethod yX5_wentSo ∈ TT := tmb_6 (List.mem_of_getElem? (i := 0) rfl) rfl
theorem ts4_3 : Cond.selects RX5 yX5_wentSo yX5_wentSo ∈ TT := tms_4 (List.mem_of_getElem? (i := 3) rfl) rfl
theorem tw6_1 : Cond.code yX5_wentSo cX5_wentSo 6 (some .boolean) ∈ TT := tmb_6 (List.mem_of_getElem? (i := 1) rfl) rfl
theorem tw3_30 : Cond.methodLink RL 146 yX4_from ∈ TT := tmb_3 (List.mem_of_getElem? (i := 30) rfl) rfl
theorem tw3_31 : Cond.instanceMethod yX4_from ∈ TT := tmb_3 (List.mem_of_getElem? (i := 31) rfl) rfl
theorem tw3_32 : Cond.selects RX4 yX4_from yX4_from ∈ TT := tmb_3 (List.mem_of_getElem? (i := 32) rfl) rfl
theorem tw3_33 : Cond.code yX4_from cX4_from 5 (some .int) ∈ TT := tmb_3 (List.mem_of_getElem? (i := 33) rfl) rfl
theorem tw6_2 : Cond.methodLink RL 149 yX5_from ∈ TT := tmb_6 (List.mem_of_getElem? (i := 2) rfl) rfl
theorem tw6_3 : Cond.instanceMethod yX5_from ∈ TT := tmb_6 (List.mem_of_getElem? (i := 3) rfl) rfl
theorem tw6_4 : Cond.selects RX5 yX5_from yX5_from ∈ TT := tmb_6 (List.mem_of_getElem? (i := 4) rfl) rfl
theorem tw6_5 : Cond.code yX5_from cX5_from 3 (some .int) ∈ TT := tmb_6 (List.mem_of_getElem? (i := 5) rfl) rfl
theorem tw3_34 : Cond.methodLink RL 150 yX4_storms ∈ TT := tmb_3 (List.mem_of_getElem? (i := 34) rfl) rfl
theorem tw3_35 : Cond.instanceMethod yX4_storms ∈ TT := tmb_3 (List.mem_of_getElem? (i := 35) rfl) rfl
theorem tw3_36 : Cond.selects RX4 yX4_storms yX4_storms ∈ TT := tmb_3 (List.mem_of_getElem? (i := 36) rfl) rfl
theorem tw3_37 : Cond.code yX4_storms cX4_storms 3 (some .int) ∈ TT := tmb_3 (List.mem_of_getElem? (i := 37) rfl) rfl
theorem tw3_38 : Cond.methodLink RX4 237 yX0_passStorm ∈ TT := tmb_3 (List.mem_of_getElem? (i := 38) rfl) rfl
theorem tw3_39 : Cond.instanceMethod yX0_passStorm ∈ TT := tmb_3 (List.mem_of_getElem? (i := 39) rfl) rfl
theorem tw3_40 : Cond.selects RX0 yX0_passStorm yX0_passStorm ∈ TT := tmb_3 (List.mem_of_getElem? (i := 40) rfl) rfl
theorem tw3_41 : Cond.code yX0_passStorm cX0_passStorm 2 none ∈ TT := tmb_3 (List.mem_of_getElem? (i := 41) rfl) rfl
theorem tw3_42 : Cond.methodLink RX0 106 yX0_draw ∈ TT := tmb_3 (List.mem_of_getElem? (i := 42) rfl) rfl
theorem tw3_43 : Cond.instanceMethod yX0_draw ∈ TT := tmb_3 (List.mem_of_getElem? (i := 43) rfl) rfl
theorem tw3_44 : Cond.selects RX0 yX0_draw yX0_draw ∈ TT := tmb_3 (List.mem_of_getElem? (i := 44) rfl) rfl
theorem tw3_45 : Cond.code yX0_draw cX0_draw 1 (some .int) ∈ TT := tmb_3 (List.mem_of_getElem? (i := 45) rfl) rfl
theorem tw3_46 : Cond.constant RX0 113 (1103515245) ∈ TT := tmb_3 (List.mem_of_getElem? (i := 46) rfl) rfl
theorem tw3_47 : Cond.methodLink RX0 110 yX0_passWatch ∈ TT := tmb_3 (List.mem_of_getElem? (i := 47) rfl) rfl
theorem tw6_6 : Cond.methodLink RL 153 yX5_storms ∈ TT := tmb_6 (List.mem_of_getElem? (i := 6) rfl) rfl
theorem tw6_7 : Cond.instanceMethod yX5_storms ∈ TT := tmb_6 (List.mem_of_getElem? (i := 7) rfl) rfl
theorem tw6_8 : Cond.selects RX5 yX5_storms yX5_storms ∈ TT := tmb_6 (List.mem_of_getElem? (i := 8) rfl) rfl
theorem tw6_9 : Cond.code yX5_storms cX5_storms 4 (some .int) ∈ TT := tmb_6 (List.mem_of_getElem? (i := 9) rfl) rfl
theorem tw6_10 : Cond.methodLink RX5 254 yX5_drawn ∈ TT := tmb_6 (List.mem_of_getElem? (i := 10) rfl) rfl
theorem tw6_12 : Cond.instanceMethod yX5_drawn ∈ TT := tmb_6 (List.mem_of_getElem? (i := 12) rfl) rfl
theorem ts4_4 : Cond.selects RX5 yX5_drawn yX5_drawn ∈ TT := tms_4 (List.mem_of_getElem? (i := 4) rfl) rfl
theorem tw6_13 : Cond.code yX5_drawn cX5_drawn 2 (some .int) ∈ TT := tmb_6 (List.mem_of_getElem? (i := 13) rfl) rfl
theorem tw6_14 : Cond.constant RX5 253 (1103515245) ∈ TT := tmb_6 (List.mem_of_getElem? (i := 14) rfl) rfl
theorem tw3_48 : Cond.methodLink RL 154 yX4_odds ∈ TT := tmb_3 (List.mem_of_getElem? (i := 48) rfl) rfl
theorem tw3_49 : Cond.instanceMethod yX4_odds ∈ TT := tmb_3 (List.mem_of_getElem? (i := 49) rfl) rfl
theorem tw3_50 : Cond.selects RX4 yX4_odds yX4_odds ∈ TT := tmb_3 (List.mem_of_getElem? (i := 50) rfl) rfl
theorem tw3_51 : Cond.code yX4_odds cX4_odds 6 (some .int) ∈ TT := tmb_3 (List.mem_of_getElem? (i := 51) rfl) rfl
theorem tw3_52 : Cond.methodLink RX4 240 yX0_drivesThatLand ∈ TT := tmb_3 (List.mem_of_getElem? (i := 52) rfl) rfl
theorem tw3_53 : Cond.instanceMethod yX0_drivesThatLand ∈ TT := tmb_3 (List.mem_of_getElem? (i := 53) rfl) rfl
theorem tw3_54 : Cond.selects RX0 yX0_drivesThatLand yX0_drivesThatLand ∈ TT := tmb_3 (List.mem_of_getElem? (i := 54) rfl) rfl
theorem tw3_55 : Cond.code yX0_drivesThatLand cX0_drivesThatLand 4 (some .int) ∈ TT := tmb_3 (List.mem_of_getElem? (i := 55) rfl) rfl
theorem tw6_15 : Cond.methodLink RL 157 yX5_odds ∈ TT := tmb_6 (List.mem_of_getElem? (i := 15) rfl) rfl
theorem tw6_16 : Cond.instanceMethod yX5_odds ∈ TT := tmb_6 (List.mem_of_getElem? (i := 16) rfl) rfl
theorem tw6_17 : Cond.selects RX5 yX5_odds yX5_odds ∈ TT := tmb_6 (List.mem_of_getElem? (i := 17) rfl) rfl
theorem tw6_18 : Cond.code yX5_odds cX5_odds 5 (some .int) ∈ TT := tmb_6 (List.mem_of_getElem? (i := 18) rfl) rfl
theorem tw3_56 : Cond.methodLink RL 158 yX4_drives ∈ TT := tmb_3 (List.mem_of_getElem? (i := 56) rfl) rfl
theorem tw3_57 : Cond.instanceMethod yX4_drives ∈ TT := tmb_3 (List.mem_of_getElem? (i := 57) rfl) rfl
theorem tw3_58 : Cond.selects RX4 yX4_drives yX4_drives ∈ TT := tmb_3 (List.mem_of_getElem? (i := 58) rfl) rfl
theorem tw3_59 : Cond.code yX4_drives cX4_drives 2 (some .long) ∈ TT := tmb_3 (List.mem_of_getElem? (i := 59) rfl) rfl
theorem tw6_19 : Cond.methodLink RL 162 yX5_drives ∈ TT := tmb_6 (List.mem_of_getElem? (i := 19) rfl) rfl
theorem tw6_20 : Cond.instanceMethod yX5_drives ∈ TT := tmb_6 (List.mem_of_getElem? (i := 20) rfl) rfl
theorem tw6_21 : Cond.selects RX5 yX5_drives yX5_drives ∈ TT := tmb_6 (List.mem_of_getElem? (i := 21) rfl) rfl
theorem tw6_22 : Cond.code yX5_drives cX5_drives 2 (some .long) ∈ TT := tmb_6 (List.mem_of_getElem? (i := 22) rfl) rfl
theorem tw3_60 : Cond.methodLink RL 163 yX4_seed ∈ TT := tmb_3 (List.mem_of_getElem? (i := 60) rfl) rfl
theorem tw3_61 : Cond.instanceMethod yX4_seed ∈ TT := tmb_3 (List.mem_of_getElem? (i := 61) rfl) rfl
theorem tw3_62 : Cond.selects RX4 yX4_seed yX4_seed ∈ TT := tmb_3 (List.mem_of_getElem? (i := 62) rfl) rfl
theorem tw3_63 : Cond.code yX4_seed cX4_seed 3 (some .int) ∈ TT := tmb_3 (List.mem_of_getElem? (i := 63) rfl) rfl
theorem tw1_65 : Cond.fieldLink RX4 243 "NavyOfCats$Navy" "z" "I" ∈ TT := tmb_1 (List.mem_of_getElem? (i := 65) rfl) rfl
theorem tw6_23 : Cond.methodLink RL 166 yX5_seed ∈ TT := tmb_6 (List.mem_of_getElem? (i := 23) rfl) rfl
theorem tw6_24 : Cond.instanceMethod yX5_seed ∈ TT := tmb_6 (List.mem_of_getElem? (i := 24) rfl) rfl
theorem tw6_25 : Cond.selects RX5 yX5_seed yX5_seed ∈ TT := tmb_6 (List.mem_of_getElem? (i := 25) rfl) rfl
theorem tw6_26 : Cond.code yX5_seed cX5_seed 2 (some .int) ∈ TT := tmb_6 (List.mem_of_getElem? (i := 26) rfl) rfl
theorem tw3_64 : Cond.methodLink RL 167 yX4_feed ∈ TT := tmb_3 (List.mem_of_getElem? (i := 64) rfl) rfl
theorem tw3_65 : Cond.instanceMethod yX4_feed ∈ TT := tmb_3 (List.mem_of_getElem? (i := 65) rfl) rfl
theorem tw3_66 : Cond.selects RX4 yX4_feed yX4_feed ∈ TT := tmb_3 (List.mem_of_getElem? (i := 66) rfl) rfl
theorem tw3_67 : Cond.code yX4_feed cX4_feed 4 (some .int) ∈ TT := tmb_3 (List.mem_of_getElem? (i := 67) rfl) rfl
theorem tw1_109 : Cond.fieldLink RX4 246 "NavyOfCats$Tape" "length" "I" ∈ TT := tmb_1 (List.mem_of_getElem? (i := 109) rfl) rfl
theorem tw3_68 : Cond.methodLink RX4 249 yX3_add ∈ TT := tmb_3 (List.mem_of_getElem? (i := 68) rfl) rfl
theorem tw3_69 : Cond.instanceMethod yX3_add ∈ TT := tmb_3 (List.mem_of_getElem? (i := 69) rfl) rfl
theorem tw3_70 : Cond.selects RX3 yX3_add yX3_add ∈ TT := tmb_3 (List.mem_of_getElem? (i := 70) rfl) rfl
theorem tw3_71 : Cond.code yX3_add cX3_add 2 none ∈ TT := tmb_3 (List.mem_of_getElem? (i := 71) rfl) rfl
theorem tw1_107 : Cond.fieldLink RX3 15 "NavyOfCats$Tape" "length" "I" ∈ TT := tmb_1 (List.mem_of_getElem? (i := 107) rfl) rfl
theorem tw6_27 : Cond.methodLink RL 170 yX5_feed ∈ TT := tmb_6 (List.mem_of_getElem? (i := 27) rfl) rfl
theorem tw6_28 : Cond.instanceMethod yX5_feed ∈ TT := tmb_6 (List.mem_of_getElem? (i := 28) rfl) rfl
theorem tw6_29 : Cond.selects RX5 yX5_feed yX5_feed ∈ TT := tmb_6 (List.mem_of_getElem? (i := 29) rfl) rfl
theorem tw6_30 : Cond.code yX5_feed cX5_feed 4 (some .int) ∈ TT := tmb_6 (List.mem_of_getElem? (i := 30) rfl) rfl
theorem tw4_94 : Cond.fieldLink RX5 257 "NavyOfCatsModel" "taped" "I" ∈ TT := tmb_4 (List.mem_of_getElem? (i := 94) rfl) rfl
theorem tw3_72 : Cond.methodLink RL 171 yX4_wipe ∈ TT := tmb_3 (List.mem_of_getElem? (i := 72) rfl) rfl
theorem tw3_73 : Cond.instanceMethod yX4_wipe ∈ TT := tmb_3 (List.mem_of_getElem? (i := 73) rfl) rfl
theorem tw3_74 : Cond.selects RX4 yX4_wipe yX4_wipe ∈ TT := tmb_3 (List.mem_of_getElem? (i := 74) rfl) rfl
theorem tw3_75 : Cond.code yX4_wipe cX4_wipe 2 (some .int) ∈ TT := tmb_3 (List.mem_of_getElem? (i := 75) rfl) rfl
theorem tw6_31 : Cond.methodLink RL 174 yX5_wipe ∈ TT := tmb_6 (List.mem_of_getElem? (i := 31) rfl) rfl
theorem tw6_32 : Cond.instanceMethod yX5_wipe ∈ TT := tmb_6 (List.mem_of_getElem? (i := 32) rfl) rfl
theorem tw6_33 : Cond.selects RX5 yX5_wipe yX5_wipe ∈ TT := tmb_6 (List.mem_of_getElem? (i := 33) rfl) rfl
theorem tw6_34 : Cond.code yX5_wipe cX5_wipe 2 (some .int) ∈ TT := tmb_6 (List.mem_of_getElem? (i := 34) rfl) rfl
theorem tw3_76 : Cond.methodLink RL 175 yX4_text ∈ TT := tmb_3 (List.mem_of_getElem? (i := 76) rfl) rfl
theorem tw3_77 : Cond.instanceMethod yX4_text ∈ TT := tmb_3 (List.mem_of_getElem? (i := 77) rfl) rfl
theorem tw3_78 : Cond.selects RX4 yX4_text yX4_text ∈ TT := tmb_3 (List.mem_of_getElem? (i := 78) rfl) rfl
theorem tw3_79 : Cond.code yX4_text cX4_text 2 (some .int) ∈ TT := tmb_3 (List.mem_of_getElem? (i := 79) rfl) rfl
theorem tw3_80 : Cond.methodLink RX4 253 yX1_scan ∈ TT := tmb_3 (List.mem_of_getElem? (i := 80) rfl) rfl
theorem tw3_81 : Cond.instanceMethod yX1_scan ∈ TT := tmb_3 (List.mem_of_getElem? (i := 81) rfl) rfl
theorem tw3_82 : Cond.selects RX1 yX1_scan yX1_scan ∈ TT := tmb_3 (List.mem_of_getElem? (i := 82) rfl) rfl
theorem tw3_83 : Cond.code yX1_scan cX1_scan 4 none ∈ TT := tmb_3 (List.mem_of_getElem? (i := 83) rfl) rfl
theorem tw1_124 : Cond.fieldLink RX1 21 "NavyOfCats$Reader" "last" "I" ∈ TT := tmb_1 (List.mem_of_getElem? (i := 124) rfl) rfl
theorem tw1_108 : Cond.fieldLink RX1 25 "NavyOfCats$Tape" "length" "I" ∈ TT := tmb_1 (List.mem_of_getElem? (i := 108) rfl) rfl
theorem tw1_106 : Cond.fieldLink RX1 30 "NavyOfCats$Tape" "bytes" "[I" ∈ TT := tmb_1 (List.mem_of_getElem? (i := 106) rfl) rfl
theorem tw3_84 : Cond.methodLink RX1 33 yX1_takeToken ∈ TT := tmb_3 (List.mem_of_getElem? (i := 84) rfl) rfl
theorem tw3_85 : Cond.instanceMethod yX1_takeToken ∈ TT := tmb_3 (List.mem_of_getElem? (i := 85) rfl) rfl
theorem tw3_86 : Cond.selects RX1 yX1_takeToken yX1_takeToken ∈ TT := tmb_3 (List.mem_of_getElem? (i := 86) rfl) rfl
theorem tw3_87 : Cond.code yX1_takeToken cX1_takeToken 4 (some .int) ∈ TT := tmb_3 (List.mem_of_getElem? (i := 87) rfl) rfl
theorem tw3_88 : Cond.methodLink RX1 37 yX3_runEnd ∈ TT := tmb_3 (List.mem_of_getElem? (i := 88) rfl) rfl
theorem tw3_89 : Cond.instanceMethod yX3_runEnd ∈ TT := tmb_3 (List.mem_of_getElem? (i := 89) rfl) rfl
theorem tw3_90 : Cond.selects RX3 yX3_runEnd yX3_runEnd ∈ TT := tmb_3 (List.mem_of_getElem? (i := 90) rfl) rfl
theorem tw3_91 : Cond.code yX3_runEnd cX3_runEnd 5 (some .int) ∈ TT := tmb_3 (List.mem_of_getElem? (i := 91) rfl) rfl
theorem tw3_93 : Cond.methodLink RX1 41 yX1_wordAt ∈ TT := tmb_3 (List.mem_of_getElem? (i := 93) rfl) rfl
theorem tw3_94 : Cond.static yX1_wordAt ∈ TT := tmb_3 (List.mem_of_getElem? (i := 94) rfl) rfl
theorem tw3_95 : Cond.code yX1_wordAt cX1_wordAt 4 (some .int) ∈ TT := tmb_3 (List.mem_of_getElem? (i := 95) rfl) rfl
theorem tw3_96 : Cond.methodLink RX1 53 yX1_spelled ∈ TT := tmb_3 (List.mem_of_getElem? (i := 96) rfl) rfl
theorem tw3_97 : Cond.static yX1_spelled ∈ TT := tmb_3 (List.mem_of_getElem? (i := 97) rfl) rfl
theorem tw3_98 : Cond.code yX1_spelled cX1_spelled 1 (some (.object "java/lang/String")) ∈ TT := tmb_3 (List.mem_of_getElem? (i := 98) rfl) rfl
theorem tw3_117 : Cond.methodLink RX1 57 yX3_isWordAt ∈ TT := tmb_3 (List.mem_of_getElem? (i := 117) rfl) rfl
theorem tw3_118 : Cond.instanceMethod yX3_isWordAt ∈ TT := tmb_3 (List.mem_of_getElem? (i := 118) rfl) rfl
theorem tw3_119 : Cond.selects RX3 yX3_isWordAt yX3_isWordAt ∈ TT := tmb_3 (List.mem_of_getElem? (i := 119) rfl) rfl
theorem tw3_120 : Cond.code yX3_isWordAt cX3_isWordAt 5 (some .boolean) ∈ TT := tmb_3 (List.mem_of_getElem? (i := 120) rfl) rfl
theorem tw3_121 : Cond.methodLink RX3 30 yJ0_length_8abf5 ∈ TT := tmb_3 (List.mem_of_getElem? (i := 121) rfl) rfl
theorem tw3_122 : Cond.instanceMethod yJ0_length_8abf5 ∈ TT := tmb_3 (List.mem_of_getElem? (i := 122) rfl) rfl
theorem tw3_123 : Cond.selects RJ0 yJ0_length_8abf5 yJ0_length_8abf5 ∈ TT := tmb_3 (List.mem_of_getElem? (i := 123) rfl) rfl
theorem tw1_11 : Cond.initialized RJ0 ∈ TT := tmb_1 (List.mem_of_getElem? (i := 11) rfl) rfl
theorem tw3_124 : Cond.code yJ0_length_8abf5 cJ0_length_8abf5 1 (some .int) ∈ TT := tmb_3 (List.mem_of_getElem? (i := 124) rfl) rfl
theorem tw6_166 : Cond.fieldLink RJ0 9 "java/lang/String" "value" "[B" ∈ TT := tmb_6 (List.mem_of_getElem? (i := 166) rfl) rfl
theorem tw3_125 : Cond.methodLink RJ0 335 yJ0_coder_7d493 ∈ TT := tmb_3 (List.mem_of_getElem? (i := 125) rfl) rfl
theorem tw3_126 : Cond.instanceMethod yJ0_coder_7d493 ∈ TT := tmb_3 (List.mem_of_getElem? (i := 126) rfl) rfl
theorem tw3_127 : Cond.selects RJ0 yJ0_coder_7d493 yJ0_coder_7d493 ∈ TT := tmb_3 (List.mem_of_getElem? (i := 127) rfl) rfl
theorem tw3_128 : Cond.code yJ0_coder_7d493 cJ0_coder_7d493 1 (some .byte) ∈ TT := tmb_3 (List.mem_of_getElem? (i := 128) rfl) rfl
theorem tw3_129 : Cond.fieldLink RJ0 38 "java/lang/String" "COMPACT_STRINGS" "Z" ∈ TT := tmb_3 (List.mem_of_getElem? (i := 129) rfl) rfl
theorem tw6_167 : Cond.fieldLink RJ0 15 "java/lang/String" "coder" "B" ∈ TT := tmb_6 (List.mem_of_getElem? (i := 167) rfl) rfl
theorem tw3_131 : Cond.methodLink RX3 35 yJ0_charAt_5068e ∈ TT := tmb_3 (List.mem_of_getElem? (i := 131) rfl) rfl
theorem tw3_132 : Cond.instanceMethod yJ0_charAt_5068e ∈ TT := tmb_3 (List.mem_of_getElem? (i := 132) rfl) rfl
theorem tw3_133 : Cond.selects RJ0 yJ0_charAt_5068e yJ0_charAt_5068e ∈ TT := tmb_3 (List.mem_of_getElem? (i := 133) rfl) rfl
theorem tw3_134 : Cond.code yJ0_charAt_5068e cJ0_charAt_5068e 2 (some .char) ∈ TT := tmb_3 (List.mem_of_getElem? (i := 134) rfl) rfl
theorem tw3_135 : Cond.methodLink RJ0 492 yJ0_isLatin1_aae02 ∈ TT := tmb_3 (List.mem_of_getElem? (i := 135) rfl) rfl
theorem tw3_136 : Cond.instanceMethod yJ0_isLatin1_aae02 ∈ TT := tmb_3 (List.mem_of_getElem? (i := 136) rfl) rfl
theorem tw3_137 : Cond.selects RJ0 yJ0_isLatin1_aae02 yJ0_isLatin1_aae02 ∈ TT := tmb_3 (List.mem_of_getElem? (i := 137) rfl) rfl
theorem tw3_138 : Cond.code yJ0_isLatin1_aae02 cJ0_isLatin1_aae02 1 (some .boolean) ∈ TT := tmb_3 (List.mem_of_getElem? (i := 138) rfl) rfl
theorem tw3_139 : Cond.methodLink RJ0 495 yJ1_charAt_3b067 ∈ TT := tmb_3 (List.mem_of_getElem? (i := 139) rfl) rfl
theorem tw3_140 : Cond.static yJ1_charAt_3b067 ∈ TT := tmb_3 (List.mem_of_getElem? (i := 140) rfl) rfl
theorem tw1_12 : Cond.initialized RJ1 ∈ TT := tmb_1 (List.mem_of_getElem? (i := 12) rfl) rfl
theorem tw3_141 : Cond.code yJ1_charAt_3b067 cJ1_charAt_3b067 2 (some .char) ∈ TT := tmb_3 (List.mem_of_getElem? (i := 141) rfl) rfl
theorem tw3_142 : Cond.methodLink RJ1 9 yJ0_checkIndex_df160 ∈ TT := tmb_3 (List.mem_of_getElem? (i := 142) rfl) rfl
theorem tw3_143 : Cond.static yJ0_checkIndex_df160 ∈ TT := tmb_3 (List.mem_of_getElem? (i := 143) rfl) rfl
theorem tw3_144 : Cond.code yJ0_checkIndex_df160 cJ0_checkIndex_df160 2 none ∈ TT := tmb_3 (List.mem_of_getElem? (i := 144) rfl) rfl
theorem tw3_145 : Cond.fieldLink RJ0 1053 "jdk/internal/util/Preconditions" "SIOOBE_FORMATTER" "Ljava/util/function/BiFunction;" ∈ TT := tmb_3 (List.mem_of_getElem? (i := 145) rfl) rfl
theorem tw3_147 : Cond.methodLink RJ0 1059 yJ3_checkIndex_8e157 ∈ TT := tmb_3 (List.mem_of_getElem? (i := 147) rfl) rfl
theorem tw3_148 : Cond.static yJ3_checkIndex_8e157 ∈ TT := tmb_3 (List.mem_of_getElem? (i := 148) rfl) rfl
theorem tw1_13 : Cond.initialized RJ3 ∈ TT := tmb_1 (List.mem_of_getElem? (i := 13) rfl) rfl
theorem tw3_149 : Cond.code yJ3_checkIndex_8e157 cJ3_checkIndex_8e157 3 (some .int) ∈ TT := tmb_3 (List.mem_of_getElem? (i := 149) rfl) rfl
theorem tw3_150 : Cond.methodLink RJ0 498 yJ2_charAt_3b067 ∈ TT := tmb_3 (List.mem_of_getElem? (i := 150) rfl) rfl
theorem tw3_151 : Cond.static yJ2_charAt_3b067 ∈ TT := tmb_3 (List.mem_of_getElem? (i := 151) rfl) rfl
theorem tw1_14 : Cond.initialized RJ2 ∈ TT := tmb_1 (List.mem_of_getElem? (i := 14) rfl) rfl
theorem tw3_152 : Cond.code yJ2_charAt_3b067 cJ2_charAt_3b067 2 (some .char) ∈ TT := tmb_3 (List.mem_of_getElem? (i := 152) rfl) rfl
theorem tw3_153 : Cond.methodLink RJ2 67 yJ2_checkIndex_2214a ∈ TT := tmb_3 (List.mem_of_getElem? (i := 153) rfl) rfl
theorem tw3_154 : Cond.static yJ2_checkIndex_2214a ∈ TT := tmb_3 (List.mem_of_getElem? (i := 154) rfl) rfl
theorem tw3_155 : Cond.code yJ2_checkIndex_2214a cJ2_checkIndex_2214a 2 none ∈ TT := tmb_3 (List.mem_of_getElem? (i := 155) rfl) rfl
theorem tw3_156 : Cond.methodLink RJ2 48 yJ2_length_9d52b ∈ TT := tmb_3 (List.mem_of_getElem? (i := 156) rfl) rfl
theorem tw3_157 : Cond.static yJ2_length_9d52b ∈ TT := tmb_3 (List.mem_of_getElem? (i := 157) rfl) rfl
theorem tw3_158 : Cond.code yJ2_length_9d52b cJ2_length_9d52b 1 (some .int) ∈ TT := tmb_3 (List.mem_of_getElem? (i := 158) rfl) rfl
theorem tw3_159 : Cond.methodLink RJ2 414 yJ0_checkIndex_df160 ∈ TT := tmb_3 (List.mem_of_getElem? (i := 159) rfl) rfl
theorem tw3_160 : Cond.methodLink RJ2 71 yJ2_getChar_3b067 ∈ TT := tmb_3 (List.mem_of_getElem? (i := 160) rfl) rfl
theorem tw3_161 : Cond.static yJ2_getChar_3b067 ∈ TT := tmb_3 (List.mem_of_getElem? (i := 161) rfl) rfl
theorem tw3_162 : Cond.code yJ2_getChar_3b067 cJ2_getChar_3b067 2 (some .char) ∈ TT := tmb_3 (List.mem_of_getElem? (i := 162) rfl) rfl
theorem tw3_163 : Cond.fieldLink RJ2 44 "java/lang/StringUTF16" "$assertionsDisabled" "Z" ∈ TT := tmb_3 (List.mem_of_getElem? (i := 163) rfl) rfl
theorem tw3_165 : Cond.fieldLink RJ2 59 "java/lang/StringUTF16" "HI_BYTE_SHIFT" "I" ∈ TT := tmb_3 (List.mem_of_getElem? (i := 165) rfl) rfl
theorem tw3_167 : Cond.fieldLink RJ2 63 "java/lang/StringUTF16" "LO_BYTE_SHIFT" "I" ∈ TT := tmb_3 (List.mem_of_getElem? (i := 167) rfl) rfl
theorem tw3_169 : Cond.methodLink RX1 45 yX3_numberAt ∈ TT := tmb_3 (List.mem_of_getElem? (i := 169) rfl) rfl
theorem tw3_170 : Cond.instanceMethod yX3_numberAt ∈ TT := tmb_3 (List.mem_of_getElem? (i := 170) rfl) rfl
theorem tw3_171 : Cond.selects RX3 yX3_numberAt yX3_numberAt ∈ TT := tmb_3 (List.mem_of_getElem? (i := 171) rfl) rfl
theorem tw3_172 : Cond.code yX3_numberAt cX3_numberAt 5 (some .int) ∈ TT := tmb_3 (List.mem_of_getElem? (i := 172) rfl) rfl
theorem tw3_173 : Cond.constant RX3 23 (100000) ∈ TT := tmb_3 (List.mem_of_getElem? (i := 173) rfl) rfl
theorem tw3_174 : Cond.methodLink RX3 24 Lib.Math.min.name ∈ TT := tmb_3 (List.mem_of_getElem? (i := 174) rfl) rfl
theorem tw3_175 : Cond.methodLink RX1 49 yX1_signOf ∈ TT := tmb_3 (List.mem_of_getElem? (i := 175) rfl) rfl
theorem tw3_176 : Cond.static yX1_signOf ∈ TT := tmb_3 (List.mem_of_getElem? (i := 176) rfl) rfl
theorem tw3_177 : Cond.code yX1_signOf cX1_signOf 1 (some .int) ∈ TT := tmb_3 (List.mem_of_getElem? (i := 177) rfl) rfl
theorem tw3_178 : Cond.methodLink RX4 257 yX1_read ∈ TT := tmb_3 (List.mem_of_getElem? (i := 178) rfl) rfl
theorem tw3_179 : Cond.instanceMethod yX1_read ∈ TT := tmb_3 (List.mem_of_getElem? (i := 179) rfl) rfl
theorem tw3_180 : Cond.selects RX1 yX1_read yX1_read ∈ TT := tmb_3 (List.mem_of_getElem? (i := 180) rfl) rfl
theorem tw3_181 : Cond.code yX1_read cX1_read 4 (some .int) ∈ TT := tmb_3 (List.mem_of_getElem? (i := 181) rfl) rfl
theorem tw1_126 : Cond.fieldLink RX1 97 "NavyOfCats$Reader" "acts" "Z" ∈ TT := tmb_1 (List.mem_of_getElem? (i := 126) rfl) rfl
theorem tw1_127 : Cond.fieldLink RX1 101 "NavyOfCats$Reader" "isFaulty" "Z" ∈ TT := tmb_1 (List.mem_of_getElem? (i := 127) rfl) rfl
theorem tw1_34 : Cond.fieldLink RX1 104 "NavyOfCats$Navy" "cats" "I" ∈ TT := tmb_1 (List.mem_of_getElem? (i := 34) rfl) rfl
theorem tw1_128 : Cond.fieldLink RX1 109 "NavyOfCats$Reader" "cats" "I" ∈ TT := tmb_1 (List.mem_of_getElem? (i := 128) rfl) rfl
theorem tw1_125 : Cond.fieldLink RX1 110 "NavyOfCats$Reader" "place" "I" ∈ TT := tmb_1 (List.mem_of_getElem? (i := 125) rfl) rfl
theorem tw3_182 : Cond.methodLink RX1 113 yX1_readItem ∈ TT := tmb_3 (List.mem_of_getElem? (i := 182) rfl) rfl
theorem tw3_183 : Cond.instanceMethod yX1_readItem ∈ TT := tmb_3 (List.mem_of_getElem? (i := 183) rfl) rfl
theorem tw3_184 : Cond.selects RX1 yX1_readItem yX1_readItem ∈ TT := tmb_3 (List.mem_of_getElem? (i := 184) rfl) rfl
theorem tw3_185 : Cond.code yX1_readItem cX1_readItem 3 none ∈ TT := tmb_3 (List.mem_of_getElem? (i := 185) rfl) rfl
theorem tw1_55 : Cond.fieldLink RX1 134 "NavyOfCats$Navy" "windNow" "I" ∈ TT := tmb_1 (List.mem_of_getElem? (i := 55) rfl) rfl
theorem tw1_58 : Cond.fieldLink RX1 140 "NavyOfCats$Navy" "fishWatches" "I" ∈ TT := tmb_1 (List.mem_of_getElem? (i := 58) rfl) rfl
theorem tw3_222 : Cond.constant RX1 143 (65535) ∈ TT := tmb_3 (List.mem_of_getElem? (i := 222) rfl) rfl
theorem tw1_60 : Cond.fieldLink RX1 144 "NavyOfCats$Navy" "stored" "I" ∈ TT := tmb_1 (List.mem_of_getElem? (i := 60) rfl) rfl
theorem tw3_187 : Cond.methodLink RX1 124 yX1_readCat ∈ TT := tmb_3 (List.mem_of_getElem? (i := 187) rfl) rfl
theorem tw3_188 : Cond.instanceMethod yX1_readCat ∈ TT := tmb_3 (List.mem_of_getElem? (i := 188) rfl) rfl
theorem tw3_189 : Cond.selects RX1 yX1_readCat yX1_readCat ∈ TT := tmb_3 (List.mem_of_getElem? (i := 189) rfl) rfl
theorem tw3_190 : Cond.code yX1_readCat cX1_readCat 5 none ∈ TT := tmb_3 (List.mem_of_getElem? (i := 190) rfl) rfl
theorem tw3_191 : Cond.methodLink RX1 117 yX1_advance ∈ TT := tmb_3 (List.mem_of_getElem? (i := 191) rfl) rfl
theorem tw3_192 : Cond.instanceMethod yX1_advance ∈ TT := tmb_3 (List.mem_of_getElem? (i := 192) rfl) rfl
theorem tw3_193 : Cond.selects RX1 yX1_advance yX1_advance ∈ TT := tmb_3 (List.mem_of_getElem? (i := 193) rfl) rfl
theorem tw3_194 : Cond.code yX1_advance cX1_advance 1 none ∈ TT := tmb_3 (List.mem_of_getElem? (i := 194) rfl) rfl
theorem tw3_195 : Cond.methodLink RX1 147 yX1_readPart ∈ TT := tmb_3 (List.mem_of_getElem? (i := 195) rfl) rfl
theorem tw3_196 : Cond.instanceMethod yX1_readPart ∈ TT := tmb_3 (List.mem_of_getElem? (i := 196) rfl) rfl
theorem tw3_197 : Cond.selects RX1 yX1_readPart yX1_readPart ∈ TT := tmb_3 (List.mem_of_getElem? (i := 197) rfl) rfl
theorem tw3_198 : Cond.code yX1_readPart cX1_readPart 3 (some .int) ∈ TT := tmb_3 (List.mem_of_getElem? (i := 198) rfl) rfl
theorem tw3_199 : Cond.methodLink RX1 158 yX1_takeNumber ∈ TT := tmb_3 (List.mem_of_getElem? (i := 199) rfl) rfl
theorem tw3_200 : Cond.instanceMethod yX1_takeNumber ∈ TT := tmb_3 (List.mem_of_getElem? (i := 200) rfl) rfl
theorem tw3_201 : Cond.selects RX1 yX1_takeNumber yX1_takeNumber ∈ TT := tmb_3 (List.mem_of_getElem? (i := 201) rfl) rfl
theorem tw3_202 : Cond.code yX1_takeNumber cX1_takeNumber 3 (some .int) ∈ TT := tmb_3 (List.mem_of_getElem? (i := 202) rfl) rfl
theorem tw3_203 : Cond.methodLink RX1 150 yX1_readHabit ∈ TT := tmb_3 (List.mem_of_getElem? (i := 203) rfl) rfl
theorem tw3_204 : Cond.instanceMethod yX1_readHabit ∈ TT := tmb_3 (List.mem_of_getElem? (i := 204) rfl) rfl
theorem tw3_205 : Cond.selects RX1 yX1_readHabit yX1_readHabit ∈ TT := tmb_3 (List.mem_of_getElem? (i := 205) rfl) rfl
theorem tw3_206 : Cond.code yX1_readHabit cX1_readHabit 3 (some .int) ∈ TT := tmb_3 (List.mem_of_getElem? (i := 206) rfl) rfl
theorem tw3_207 : Cond.methodLink RX1 154 yX0_addCat ∈ TT := tmb_3 (List.mem_of_getElem? (i := 207) rfl) rfl
theorem tw3_208 : Cond.methodLink RX1 128 yX1_readIsland ∈ TT := tmb_3 (List.mem_of_getElem? (i := 208) rfl) rfl
theorem tw3_209 : Cond.instanceMethod yX1_readIsland ∈ TT := tmb_3 (List.mem_of_getElem? (i := 209) rfl) rfl
theorem tw3_210 : Cond.selects RX1 yX1_readIsland yX1_readIsland ∈ TT := tmb_3 (List.mem_of_getElem? (i := 210) rfl) rfl
theorem tw3_211 : Cond.code yX1_readIsland cX1_readIsland 3 none ∈ TT := tmb_3 (List.mem_of_getElem? (i := 211) rfl) rfl
theorem tw1_52 : Cond.fieldLink RX1 164 "NavyOfCats$Navy" "isIsland" "[Z" ∈ TT := tmb_1 (List.mem_of_getElem? (i := 52) rfl) rfl
theorem tw3_213 : Cond.methodLink RX1 131 yX1_readShip ∈ TT := tmb_3 (List.mem_of_getElem? (i := 213) rfl) rfl
theorem tw3_214 : Cond.instanceMethod yX1_readShip ∈ TT := tmb_3 (List.mem_of_getElem? (i := 214) rfl) rfl
theorem tw3_215 : Cond.selects RX1 yX1_readShip yX1_readShip ∈ TT := tmb_3 (List.mem_of_getElem? (i := 215) rfl) rfl
theorem tw3_216 : Cond.code yX1_readShip cX1_readShip 6 none ∈ TT := tmb_3 (List.mem_of_getElem? (i := 216) rfl) rfl
theorem tw1_43 : Cond.fieldLink RX1 171 "NavyOfCats$Navy" "cellOf" "[I" ∈ TT := tmb_1 (List.mem_of_getElem? (i := 43) rfl) rfl
theorem tw1_46 : Cond.fieldLink RX1 174 "NavyOfCats$Navy" "orderOf" "[I" ∈ TT := tmb_1 (List.mem_of_getElem? (i := 46) rfl) rfl
theorem tw1_49 : Cond.fieldLink RX1 177 "NavyOfCats$Navy" "aboardOf" "[I" ∈ TT := tmb_1 (List.mem_of_getElem? (i := 49) rfl) rfl
theorem tw3_218 : Cond.methodLink RX1 137 yX1_readSetting ∈ TT := tmb_3 (List.mem_of_getElem? (i := 218) rfl) rfl
theorem tw3_219 : Cond.instanceMethod yX1_readSetting ∈ TT := tmb_3 (List.mem_of_getElem? (i := 219) rfl) rfl
theorem tw3_220 : Cond.selects RX1 yX1_readSetting yX1_readSetting ∈ TT := tmb_3 (List.mem_of_getElem? (i := 220) rfl) rfl
theorem tw3_221 : Cond.code yX1_readSetting cX1_readSetting 4 (some .int) ∈ TT := tmb_3 (List.mem_of_getElem? (i := 221) rfl) rfl
theorem tw6_35 : Cond.methodLink RL 178 yX5_text ∈ TT := tmb_6 (List.mem_of_getElem? (i := 35) rfl) rfl
theorem tw6_36 : Cond.instanceMethod yX5_text ∈ TT := tmb_6 (List.mem_of_getElem? (i := 36) rfl) rfl
theorem tw6_37 : Cond.selects RX5 yX5_text yX5_text ∈ TT := tmb_6 (List.mem_of_getElem? (i := 37) rfl) rfl
theorem tw6_38 : Cond.code yX5_text cX5_text 3 (some .int) ∈ TT := tmb_6 (List.mem_of_getElem? (i := 38) rfl) rfl
theorem tw4_96 : Cond.fieldLink RX5 260 "NavyOfCatsModel" "ends" "I" ∈ TT := tmb_4 (List.mem_of_getElem? (i := 96) rfl) rfl
theorem tw4_99 : Cond.fieldLink RX5 283 "NavyOfCatsModel" "isWrong" "Z" ∈ TT := tmb_4 (List.mem_of_getElem? (i := 99) rfl) rfl
theorem tw4_102 : Cond.fieldLink RX5 294 "NavyOfCatsModel" "itemMany" "I" ∈ TT := tmb_4 (List.mem_of_getElem? (i := 102) rfl) rfl
theorem tw4_103 : Cond.fieldLink RX5 327 "NavyOfCatsModel" "done" "I" ∈ TT := tmb_4 (List.mem_of_getElem? (i := 103) rfl) rfl
theorem tw4_104 : Cond.fieldLink RX5 321 "NavyOfCatsModel" "catThen" "I" ∈ TT := tmb_4 (List.mem_of_getElem? (i := 104) rfl) rfl
theorem tw4_97 : Cond.fieldLink RX5 272 "NavyOfCatsModel" "sort" "I" ∈ TT := tmb_4 (List.mem_of_getElem? (i := 97) rfl) rfl
theorem tw4_95 : Cond.fieldLink RX5 263 "NavyOfCatsModel" "begins" "I" ∈ TT := tmb_4 (List.mem_of_getElem? (i := 95) rfl) rfl
theorem tw6_39 : Cond.methodLink RX5 287 yX5_next ∈ TT := tmb_6 (List.mem_of_getElem? (i := 39) rfl) rfl
theorem tw6_41 : Cond.instanceMethod yX5_next ∈ TT := tmb_6 (List.mem_of_getElem? (i := 41) rfl) rfl
theorem ts4_5 : Cond.selects RX5 yX5_next yX5_next ∈ TT := tms_4 (List.mem_of_getElem? (i := 5) rfl) rfl
theorem tw6_42 : Cond.code yX5_next cX5_next 2 none ∈ TT := tmb_6 (List.mem_of_getElem? (i := 42) rfl) rfl
theorem tw4_98 : Cond.fieldLink RX5 269 "NavyOfCatsModel" "value" "I" ∈ TT := tmb_4 (List.mem_of_getElem? (i := 98) rfl) rfl
theorem tw6_47 : Cond.constant RX5 275 (100000) ∈ TT := tmb_6 (List.mem_of_getElem? (i := 47) rfl) rfl
theorem tw6_43 : Cond.methodLink RX5 266 yX5_byteAt ∈ TT := tmb_6 (List.mem_of_getElem? (i := 43) rfl) rfl
theorem tw6_45 : Cond.instanceMethod yX5_byteAt ∈ TT := tmb_6 (List.mem_of_getElem? (i := 45) rfl) rfl
theorem ts4_6 : Cond.selects RX5 yX5_byteAt yX5_byteAt ∈ TT := tms_4 (List.mem_of_getElem? (i := 6) rfl) rfl
theorem tw6_46 : Cond.code yX5_byteAt cX5_byteAt 2 (some .int) ∈ TT := tmb_6 (List.mem_of_getElem? (i := 46) rfl) rfl
theorem tw6_48 : Cond.methodLink RX5 348 yX5_readItem ∈ TT := tmb_6 (List.mem_of_getElem? (i := 48) rfl) rfl
theorem tw6_50 : Cond.instanceMethod yX5_readItem ∈ TT := tmb_6 (List.mem_of_getElem? (i := 50) rfl) rfl
theorem ts4_7 : Cond.selects RX5 yX5_readItem yX5_readItem ∈ TT := tms_4 (List.mem_of_getElem? (i := 7) rfl) rfl
theorem tw6_51 : Cond.code yX5_readItem cX5_readItem 3 none ∈ TT := tmb_6 (List.mem_of_getElem? (i := 51) rfl) rfl
theorem tw6_52 : Cond.methodLink RX5 324 yX5_kindTold ∈ TT := tmb_6 (List.mem_of_getElem? (i := 52) rfl) rfl
theorem tw6_54 : Cond.instanceMethod yX5_kindTold ∈ TT := tmb_6 (List.mem_of_getElem? (i := 54) rfl) rfl
theorem ts4_8 : Cond.selects RX5 yX5_kindTold yX5_kindTold ∈ TT := tms_4 (List.mem_of_getElem? (i := 8) rfl) rfl
theorem tw6_55 : Cond.code yX5_kindTold cX5_kindTold 3 (some .int) ∈ TT := tmb_6 (List.mem_of_getElem? (i := 55) rfl) rfl
theorem tw6_56 : Cond.methodLink RX5 297 yX5_isWord ∈ TT := tmb_6 (List.mem_of_getElem? (i := 56) rfl) rfl
theorem tw6_58 : Cond.instanceMethod yX5_isWord ∈ TT := tmb_6 (List.mem_of_getElem? (i := 58) rfl) rfl
theorem ts4_9 : Cond.selects RX5 yX5_isWord yX5_isWord ∈ TT := tms_4 (List.mem_of_getElem? (i := 9) rfl) rfl
theorem tw6_59 : Cond.code yX5_isWord cX5_isWord 4 (some .boolean) ∈ TT := tmb_6 (List.mem_of_getElem? (i := 59) rfl) rfl
theorem tw6_60 : Cond.methodLink RX5 276 yJ0_length_8abf5 ∈ TT := tmb_6 (List.mem_of_getElem? (i := 60) rfl) rfl
theorem tw6_61 : Cond.methodLink RX5 279 yJ0_charAt_5068e ∈ TT := tmb_6 (List.mem_of_getElem? (i := 61) rfl) rfl
theorem tw6_62 : Cond.methodLink RX5 290 yX5_must ∈ TT := tmb_6 (List.mem_of_getElem? (i := 62) rfl) rfl
theorem tw6_64 : Cond.instanceMethod yX5_must ∈ TT := tmb_6 (List.mem_of_getElem? (i := 64) rfl) rfl
theorem ts4_10 : Cond.selects RX5 yX5_must yX5_must ∈ TT := tms_4 (List.mem_of_getElem? (i := 10) rfl) rfl
theorem tw6_65 : Cond.code yX5_must cX5_must 2 none ∈ TT := tmb_6 (List.mem_of_getElem? (i := 65) rfl) rfl
theorem tw6_67 : Cond.methodLink RX5 303 yX5_isNext ∈ TT := tmb_6 (List.mem_of_getElem? (i := 67) rfl) rfl
theorem tw6_69 : Cond.instanceMethod yX5_isNext ∈ TT := tmb_6 (List.mem_of_getElem? (i := 69) rfl) rfl
theorem ts4_11 : Cond.selects RX5 yX5_isNext yX5_isNext ∈ TT := tms_4 (List.mem_of_getElem? (i := 11) rfl) rfl
theorem tw6_70 : Cond.code yX5_isNext cX5_isNext 3 (some .boolean) ∈ TT := tmb_6 (List.mem_of_getElem? (i := 70) rfl) rfl
theorem tw6_71 : Cond.methodLink RX5 309 yX5_number ∈ TT := tmb_6 (List.mem_of_getElem? (i := 71) rfl) rfl
theorem tw6_73 : Cond.instanceMethod yX5_number ∈ TT := tmb_6 (List.mem_of_getElem? (i := 73) rfl) rfl
theorem ts4_12 : Cond.selects RX5 yX5_number yX5_number ∈ TT := tms_4 (List.mem_of_getElem? (i := 12) rfl) rfl
theorem tw6_74 : Cond.code yX5_number cX5_number 4 (some .int) ∈ TT := tmb_6 (List.mem_of_getElem? (i := 74) rfl) rfl
theorem tw6_75 : Cond.methodLink RX5 332 yX5_habitTold ∈ TT := tmb_6 (List.mem_of_getElem? (i := 75) rfl) rfl
theorem tw6_77 : Cond.instanceMethod yX5_habitTold ∈ TT := tmb_6 (List.mem_of_getElem? (i := 77) rfl) rfl
theorem ts4_13 : Cond.selects RX5 yX5_habitTold yX5_habitTold ∈ TT := tms_4 (List.mem_of_getElem? (i := 13) rfl) rfl
theorem tw6_78 : Cond.code yX5_habitTold cX5_habitTold 1 (some .int) ∈ TT := tmb_6 (List.mem_of_getElem? (i := 78) rfl) rfl
theorem tw6_80 : Cond.methodLink RX5 306 yX5_isMinus ∈ TT := tmb_6 (List.mem_of_getElem? (i := 80) rfl) rfl
theorem tw6_82 : Cond.instanceMethod yX5_isMinus ∈ TT := tmb_6 (List.mem_of_getElem? (i := 82) rfl) rfl
theorem ts4_14 : Cond.selects RX5 yX5_isMinus yX5_isMinus ∈ TT := tms_4 (List.mem_of_getElem? (i := 14) rfl) rfl
theorem tw6_83 : Cond.code yX5_isMinus cX5_isMinus 2 (some .boolean) ∈ TT := tmb_6 (List.mem_of_getElem? (i := 83) rfl) rfl
theorem tw6_84 : Cond.methodLink RX5 313 yX5_item ∈ TT := tmb_6 (List.mem_of_getElem? (i := 84) rfl) rfl
theorem tw6_86 : Cond.instanceMethod yX5_item ∈ TT := tmb_6 (List.mem_of_getElem? (i := 86) rfl) rfl
theorem ts4_15 : Cond.selects RX5 yX5_item yX5_item ∈ TT := tms_4 (List.mem_of_getElem? (i := 15) rfl) rfl
theorem tw6_87 : Cond.code yX5_item cX5_item 5 none ∈ TT := tmb_6 (List.mem_of_getElem? (i := 87) rfl) rfl
theorem tw6_90 : Cond.methodLink RX5 339 yX5_shipTold ∈ TT := tmb_6 (List.mem_of_getElem? (i := 90) rfl) rfl
theorem tw6_92 : Cond.instanceMethod yX5_shipTold ∈ TT := tmb_6 (List.mem_of_getElem? (i := 92) rfl) rfl
theorem ts5_0 : Cond.selects RX5 yX5_shipTold yX5_shipTold ∈ TT := tms_5 (List.mem_of_getElem? (i := 0) rfl) rfl
theorem tw6_93 : Cond.code yX5_shipTold cX5_shipTold 2 none ∈ TT := tmb_6 (List.mem_of_getElem? (i := 93) rfl) rfl
theorem tw6_100 : Cond.methodLink RX5 351 yX5_isSo ∈ TT := tmb_6 (List.mem_of_getElem? (i := 100) rfl) rfl
theorem tw6_102 : Cond.instanceMethod yX5_isSo ∈ TT := tmb_6 (List.mem_of_getElem? (i := 102) rfl) rfl
theorem ts5_1 : Cond.selects RX5 yX5_isSo yX5_isSo ∈ TT := tms_5 (List.mem_of_getElem? (i := 1) rfl) rfl
theorem tw6_103 : Cond.code yX5_isSo cX5_isSo 4 (some .int) ∈ TT := tmb_6 (List.mem_of_getElem? (i := 103) rfl) rfl
theorem tw3_224 : Cond.methodLink RL 179 yX4_hold ∈ TT := tmb_3 (List.mem_of_getElem? (i := 224) rfl) rfl
theorem tw3_225 : Cond.instanceMethod yX4_hold ∈ TT := tmb_3 (List.mem_of_getElem? (i := 225) rfl) rfl
theorem tw3_226 : Cond.selects RX4 yX4_hold yX4_hold ∈ TT := tmb_3 (List.mem_of_getElem? (i := 226) rfl) rfl
theorem tw3_227 : Cond.code yX4_hold cX4_hold 3 (some .int) ∈ TT := tmb_3 (List.mem_of_getElem? (i := 227) rfl) rfl
theorem tw1_67 : Cond.fieldLink RX4 264 "NavyOfCats$Navy" "spots" "[I" ∈ TT := tmb_1 (List.mem_of_getElem? (i := 67) rfl) rfl
theorem tw3_228 : Cond.methodLink RX4 261 yX4_isSpot ∈ TT := tmb_3 (List.mem_of_getElem? (i := 228) rfl) rfl
theorem tw3_229 : Cond.static yX4_isSpot ∈ TT := tmb_3 (List.mem_of_getElem? (i := 229) rfl) rfl
theorem tw3_230 : Cond.code yX4_isSpot cX4_isSpot 1 (some .boolean) ∈ TT := tmb_3 (List.mem_of_getElem? (i := 230) rfl) rfl
theorem tw6_104 : Cond.methodLink RL 182 yX5_hold ∈ TT := tmb_6 (List.mem_of_getElem? (i := 104) rfl) rfl
theorem tw6_105 : Cond.instanceMethod yX5_hold ∈ TT := tmb_6 (List.mem_of_getElem? (i := 105) rfl) rfl
theorem tw6_106 : Cond.selects RX5 yX5_hold yX5_hold ∈ TT := tmb_6 (List.mem_of_getElem? (i := 106) rfl) rfl
theorem tw6_107 : Cond.code yX5_hold cX5_hold 3 (some .int) ∈ TT := tmb_6 (List.mem_of_getElem? (i := 107) rfl) rfl
theorem tw6_108 : Cond.methodLink RX5 354 yX5_isSpot ∈ TT := tmb_6 (List.mem_of_getElem? (i := 108) rfl) rfl
theorem tw6_109 : Cond.static yX5_isSpot ∈ TT := tmb_6 (List.mem_of_getElem? (i := 109) rfl) rfl
theorem tw6_110 : Cond.code yX5_isSpot cX5_isSpot 1 (some .boolean) ∈ TT := tmb_6 (List.mem_of_getElem? (i := 110) rfl) rfl
theorem tw3_231 : Cond.methodLink RL 183 yX4_as ∈ TT := tmb_3 (List.mem_of_getElem? (i := 231) rfl) rfl
theorem tw3_232 : Cond.instanceMethod yX4_as ∈ TT := tmb_3 (List.mem_of_getElem? (i := 232) rfl) rfl
theorem tw3_233 : Cond.selects RX4 yX4_as yX4_as ∈ TT := tmb_3 (List.mem_of_getElem? (i := 233) rfl) rfl
theorem tw3_234 : Cond.code yX4_as cX4_as 4 (some .int) ∈ TT := tmb_3 (List.mem_of_getElem? (i := 234) rfl) rfl
theorem tw4_0 : Cond.constant RX4 271 (-1000003) ∈ TT := tmb_4 (List.mem_of_getElem? (i := 0) rfl) rfl
theorem tw3_235 : Cond.methodLink RX4 268 yX4_isOrUnder ∈ TT := tmb_3 (List.mem_of_getElem? (i := 235) rfl) rfl
theorem tw3_236 : Cond.static yX4_isOrUnder ∈ TT := tmb_3 (List.mem_of_getElem? (i := 236) rfl) rfl
theorem tw3_237 : Cond.code yX4_isOrUnder cX4_isOrUnder 4 (some .boolean) ∈ TT := tmb_3 (List.mem_of_getElem? (i := 237) rfl) rfl
theorem tw3_238 : Cond.fieldLink RX4 315 "NavyOfCats" "KIND_ABOVE" "[I" ∈ TT := tmb_3 (List.mem_of_getElem? (i := 238) rfl) rfl
theorem tw6_111 : Cond.methodLink RL 186 yX5_as ∈ TT := tmb_6 (List.mem_of_getElem? (i := 111) rfl) rfl
theorem tw6_112 : Cond.instanceMethod yX5_as ∈ TT := tmb_6 (List.mem_of_getElem? (i := 112) rfl) rfl
theorem tw6_113 : Cond.selects RX5 yX5_as yX5_as ∈ TT := tmb_6 (List.mem_of_getElem? (i := 113) rfl) rfl
theorem tw6_114 : Cond.code yX5_as cX5_as 4 (some .int) ∈ TT := tmb_6 (List.mem_of_getElem? (i := 114) rfl) rfl
theorem tw6_121 : Cond.constant RX5 360 (-1000003) ∈ TT := tmb_6 (List.mem_of_getElem? (i := 121) rfl) rfl
theorem tw6_115 : Cond.methodLink RX5 357 yX5_isUnder ∈ TT := tmb_6 (List.mem_of_getElem? (i := 115) rfl) rfl
theorem tw6_116 : Cond.static yX5_isUnder ∈ TT := tmb_6 (List.mem_of_getElem? (i := 116) rfl) rfl
theorem tw6_117 : Cond.code yX5_isUnder cX5_isUnder 3 (some .boolean) ∈ TT := tmb_6 (List.mem_of_getElem? (i := 117) rfl) rfl
theorem tw6_118 : Cond.methodLink RX5 95 yX5_above ∈ TT := tmb_6 (List.mem_of_getElem? (i := 118) rfl) rfl
theorem tw6_119 : Cond.static yX5_above ∈ TT := tmb_6 (List.mem_of_getElem? (i := 119) rfl) rfl
theorem tw6_120 : Cond.code yX5_above cX5_above 1 (some .int) ∈ TT := tmb_6 (List.mem_of_getElem? (i := 120) rfl) rfl
theorem tw4_1 : Cond.methodLink RL 187 yX4_sheet ∈ TT := tmb_4 (List.mem_of_getElem? (i := 1) rfl) rfl
theorem tw4_2 : Cond.instanceMethod yX4_sheet ∈ TT := tmb_4 (List.mem_of_getElem? (i := 2) rfl) rfl
theorem tw4_3 : Cond.selects RX4 yX4_sheet yX4_sheet ∈ TT := tmb_4 (List.mem_of_getElem? (i := 3) rfl) rfl
theorem tw4_4 : Cond.code yX4_sheet cX4_sheet 4 (some .int) ∈ TT := tmb_4 (List.mem_of_getElem? (i := 4) rfl) rfl
theorem tw4_5 : Cond.constant RX4 275 (-1000007) ∈ TT := tmb_4 (List.mem_of_getElem? (i := 5) rfl) rfl
theorem tw4_6 : Cond.methodLink RX4 276 yX2_begin ∈ TT := tmb_4 (List.mem_of_getElem? (i := 6) rfl) rfl
theorem tw4_7 : Cond.instanceMethod yX2_begin ∈ TT := tmb_4 (List.mem_of_getElem? (i := 7) rfl) rfl
theorem tw4_8 : Cond.selects RX2 yX2_begin yX2_begin ∈ TT := tmb_4 (List.mem_of_getElem? (i := 8) rfl) rfl
theorem tw4_9 : Cond.code yX2_begin cX2_begin 3 none ∈ TT := tmb_4 (List.mem_of_getElem? (i := 9) rfl) rfl
theorem tw1_155 : Cond.fieldLink RX2 19 "NavyOfCats$Sheet" "size" "I" ∈ TT := tmb_1 (List.mem_of_getElem? (i := 155) rfl) rfl
theorem tw4_10 : Cond.methodLink RX2 22 yJ7_fill_53178 ∈ TT := tmb_4 (List.mem_of_getElem? (i := 10) rfl) rfl
theorem tw6_122 : Cond.methodLink RL 190 yX5_sheet ∈ TT := tmb_6 (List.mem_of_getElem? (i := 122) rfl) rfl
theorem tw6_123 : Cond.instanceMethod yX5_sheet ∈ TT := tmb_6 (List.mem_of_getElem? (i := 123) rfl) rfl
theorem tw6_124 : Cond.selects RX5 yX5_sheet yX5_sheet ∈ TT := tmb_6 (List.mem_of_getElem? (i := 124) rfl) rfl
theorem tw6_125 : Cond.code yX5_sheet cX5_sheet 5 (some .int) ∈ TT := tmb_6 (List.mem_of_getElem? (i := 125) rfl) rfl
theorem tw6_126 : Cond.constant RX5 361 (-1000007) ∈ TT := tmb_6 (List.mem_of_getElem? (i := 126) rfl) rfl
theorem tw4_11 : Cond.methodLink RL 191 yX4_write ∈ TT := tmb_4 (List.mem_of_getElem? (i := 11) rfl) rfl
theorem tw4_12 : Cond.instanceMethod yX4_write ∈ TT := tmb_4 (List.mem_of_getElem? (i := 12) rfl) rfl
theorem tw4_13 : Cond.selects RX4 yX4_write yX4_write ∈ TT := tmb_4 (List.mem_of_getElem? (i := 13) rfl) rfl
theorem tw4_14 : Cond.code yX4_write cX4_write 5 (some .int) ∈ TT := tmb_4 (List.mem_of_getElem? (i := 14) rfl) rfl
theorem tw4_15 : Cond.methodLink RX4 279 yX2_lowest ∈ TT := tmb_4 (List.mem_of_getElem? (i := 15) rfl) rfl
theorem tw4_16 : Cond.instanceMethod yX2_lowest ∈ TT := tmb_4 (List.mem_of_getElem? (i := 16) rfl) rfl
theorem tw4_17 : Cond.selects RX2 yX2_lowest yX2_lowest ∈ TT := tmb_4 (List.mem_of_getElem? (i := 17) rfl) rfl
theorem tw4_18 : Cond.code yX2_lowest cX2_lowest 2 (some .int) ∈ TT := tmb_4 (List.mem_of_getElem? (i := 18) rfl) rfl
theorem tw6_127 : Cond.methodLink RL 194 yX5_write ∈ TT := tmb_6 (List.mem_of_getElem? (i := 127) rfl) rfl
theorem tw6_128 : Cond.instanceMethod yX5_write ∈ TT := tmb_6 (List.mem_of_getElem? (i := 128) rfl) rfl
theorem tw6_129 : Cond.selects RX5 yX5_write yX5_write ∈ TT := tmb_6 (List.mem_of_getElem? (i := 129) rfl) rfl
theorem tw6_130 : Cond.code yX5_write cX5_write 4 (some .int) ∈ TT := tmb_6 (List.mem_of_getElem? (i := 130) rfl) rfl
theorem tw6_131 : Cond.methodLink RX5 362 yX5_cutTo ∈ TT := tmb_6 (List.mem_of_getElem? (i := 131) rfl) rfl
theorem tw6_132 : Cond.static yX5_cutTo ∈ TT := tmb_6 (List.mem_of_getElem? (i := 132) rfl) rfl
theorem tw6_133 : Cond.code yX5_cutTo cX5_cutTo 2 (some .int) ∈ TT := tmb_6 (List.mem_of_getElem? (i := 133) rfl) rfl
theorem tw4_19 : Cond.methodLink RL 195 yX4_copy ∈ TT := tmb_4 (List.mem_of_getElem? (i := 19) rfl) rfl
theorem tw4_20 : Cond.instanceMethod yX4_copy ∈ TT := tmb_4 (List.mem_of_getElem? (i := 20) rfl) rfl
theorem tw4_21 : Cond.selects RX4 yX4_copy yX4_copy ∈ TT := tmb_4 (List.mem_of_getElem? (i := 21) rfl) rfl
theorem tw4_22 : Cond.code yX4_copy cX4_copy 8 (some .int) ∈ TT := tmb_4 (List.mem_of_getElem? (i := 22) rfl) rfl
theorem tw1_154 : Cond.fieldLink RX4 286 "NavyOfCats$Sheet" "bits" "I" ∈ TT := tmb_1 (List.mem_of_getElem? (i := 154) rfl) rfl
theorem tw4_23 : Cond.methodLink RX4 289 yX2_has ∈ TT := tmb_4 (List.mem_of_getElem? (i := 23) rfl) rfl
theorem tw4_24 : Cond.instanceMethod yX2_has ∈ TT := tmb_4 (List.mem_of_getElem? (i := 24) rfl) rfl
theorem tw4_25 : Cond.selects RX2 yX2_has yX2_has ∈ TT := tmb_4 (List.mem_of_getElem? (i := 25) rfl) rfl
theorem tw4_26 : Cond.code yX2_has cX2_has 3 (some .boolean) ∈ TT := tmb_4 (List.mem_of_getElem? (i := 26) rfl) rfl
theorem tw6_134 : Cond.methodLink RL 199 yX5_copy ∈ TT := tmb_6 (List.mem_of_getElem? (i := 134) rfl) rfl
theorem tw6_135 : Cond.instanceMethod yX5_copy ∈ TT := tmb_6 (List.mem_of_getElem? (i := 135) rfl) rfl
theorem tw6_136 : Cond.selects RX5 yX5_copy yX5_copy ∈ TT := tmb_6 (List.mem_of_getElem? (i := 136) rfl) rfl
theorem tw6_137 : Cond.code yX5_copy cX5_copy 7 (some .int) ∈ TT := tmb_6 (List.mem_of_getElem? (i := 137) rfl) rfl
theorem tw4_27 : Cond.methodLink RL 200 yX4_load ∈ TT := tmb_4 (List.mem_of_getElem? (i := 27) rfl) rfl
theorem tw4_28 : Cond.instanceMethod yX4_load ∈ TT := tmb_4 (List.mem_of_getElem? (i := 28) rfl) rfl
theorem tw4_29 : Cond.selects RX4 yX4_load yX4_load ∈ TT := tmb_4 (List.mem_of_getElem? (i := 29) rfl) rfl
theorem tw4_30 : Cond.code yX4_load cX4_load 6 (some .int) ∈ TT := tmb_4 (List.mem_of_getElem? (i := 30) rfl) rfl
theorem tw6_138 : Cond.methodLink RL 203 yX5_load ∈ TT := tmb_6 (List.mem_of_getElem? (i := 138) rfl) rfl
theorem tw6_139 : Cond.instanceMethod yX5_load ∈ TT := tmb_6 (List.mem_of_getElem? (i := 139) rfl) rfl
theorem tw6_140 : Cond.selects RX5 yX5_load yX5_load ∈ TT := tmb_6 (List.mem_of_getElem? (i := 140) rfl) rfl
theorem tw6_141 : Cond.code yX5_load cX5_load 3 (some .int) ∈ TT := tmb_6 (List.mem_of_getElem? (i := 141) rfl) rfl
theorem tw4_31 : Cond.methodLink RL 204 yX4_judge ∈ TT := tmb_4 (List.mem_of_getElem? (i := 31) rfl) rfl
theorem tw4_32 : Cond.instanceMethod yX4_judge ∈ TT := tmb_4 (List.mem_of_getElem? (i := 32) rfl) rfl
theorem tw4_33 : Cond.selects RX4 yX4_judge yX4_judge ∈ TT := tmb_4 (List.mem_of_getElem? (i := 33) rfl) rfl
theorem tw4_34 : Cond.code yX4_judge cX4_judge 5 (some .int) ∈ TT := tmb_4 (List.mem_of_getElem? (i := 34) rfl) rfl
theorem tw6_142 : Cond.methodLink RL 207 yX5_judge ∈ TT := tmb_6 (List.mem_of_getElem? (i := 142) rfl) rfl
theorem tw6_143 : Cond.instanceMethod yX5_judge ∈ TT := tmb_6 (List.mem_of_getElem? (i := 143) rfl) rfl
theorem tw6_144 : Cond.selects RX5 yX5_judge yX5_judge ∈ TT := tmb_6 (List.mem_of_getElem? (i := 144) rfl) rfl
theorem tw6_145 : Cond.code yX5_judge cX5_judge 3 (some .int) ∈ TT := tmb_6 (List.mem_of_getElem? (i := 145) rfl) rfl
theorem tw4_35 : Cond.methodLink RL 208 yX4_image ∈ TT := tmb_4 (List.mem_of_getElem? (i := 35) rfl) rfl
theorem tw4_36 : Cond.instanceMethod yX4_image ∈ TT := tmb_4 (List.mem_of_getElem? (i := 36) rfl) rfl
theorem tw4_37 : Cond.selects RX4 yX4_image yX4_image ∈ TT := tmb_4 (List.mem_of_getElem? (i := 37) rfl) rfl
theorem tw4_38 : Cond.code yX4_image cX4_image 1 (some .int) ∈ TT := tmb_4 (List.mem_of_getElem? (i := 38) rfl) rfl
theorem tw1_168 : Cond.fieldLink RX4 296 "NavyOfCats" "isKept" "Z" ∈ TT := tmb_1 (List.mem_of_getElem? (i := 168) rfl) rfl
theorem tw4_39 : Cond.methodLink RX4 292 yX0_become ∈ TT := tmb_4 (List.mem_of_getElem? (i := 39) rfl) rfl
theorem tw4_40 : Cond.instanceMethod yX0_become ∈ TT := tmb_4 (List.mem_of_getElem? (i := 40) rfl) rfl
theorem tw4_41 : Cond.selects RX0 yX0_become yX0_become ∈ TT := tmb_4 (List.mem_of_getElem? (i := 41) rfl) rfl
theorem tw4_42 : Cond.code yX0_become cX0_become 3 none ∈ TT := tmb_4 (List.mem_of_getElem? (i := 42) rfl) rfl
theorem tw4_43 : Cond.methodLink RX0 53 arraycopyName ∈ TT := tmb_4 (List.mem_of_getElem? (i := 43) rfl) rfl
theorem tw6_146 : Cond.methodLink RL 211 yX5_image ∈ TT := tmb_6 (List.mem_of_getElem? (i := 146) rfl) rfl
theorem tw6_147 : Cond.instanceMethod yX5_image ∈ TT := tmb_6 (List.mem_of_getElem? (i := 147) rfl) rfl
theorem tw6_148 : Cond.selects RX5 yX5_image yX5_image ∈ TT := tmb_6 (List.mem_of_getElem? (i := 148) rfl) rfl
theorem tw6_149 : Cond.code yX5_image cX5_image 1 (some .int) ∈ TT := tmb_6 (List.mem_of_getElem? (i := 149) rfl) rfl
theorem tw4_86 : Cond.fieldLink RX5 365 "NavyOfCatsModel" "isKept" "Z" ∈ TT := tmb_4 (List.mem_of_getElem? (i := 86) rfl) rfl
theorem tw4_44 : Cond.methodLink RL 212 yX4_undo ∈ TT := tmb_4 (List.mem_of_getElem? (i := 44) rfl) rfl
theorem tw4_45 : Cond.instanceMethod yX4_undo ∈ TT := tmb_4 (List.mem_of_getElem? (i := 45) rfl) rfl
theorem tw4_46 : Cond.selects RX4 yX4_undo yX4_undo ∈ TT := tmb_4 (List.mem_of_getElem? (i := 46) rfl) rfl
theorem tw4_47 : Cond.code yX4_undo cX4_undo 1 (some .int) ∈ TT := tmb_4 (List.mem_of_getElem? (i := 47) rfl) rfl
theorem tw6_150 : Cond.methodLink RL 215 yX5_undo ∈ TT := tmb_6 (List.mem_of_getElem? (i := 150) rfl) rfl
theorem tw6_151 : Cond.instanceMethod yX5_undo ∈ TT := tmb_6 (List.mem_of_getElem? (i := 151) rfl) rfl
theorem tw6_152 : Cond.selects RX5 yX5_undo yX5_undo ∈ TT := tmb_6 (List.mem_of_getElem? (i := 152) rfl) rfl
theorem tw6_153 : Cond.code yX5_undo cX5_undo 1 (some .int) ∈ TT := tmb_6 (List.mem_of_getElem? (i := 153) rfl) rfl
theorem tw4_48 : Cond.methodLink RL 216 yX4_tear ∈ TT := tmb_4 (List.mem_of_getElem? (i := 48) rfl) rfl
theorem tw4_49 : Cond.instanceMethod yX4_tear ∈ TT := tmb_4 (List.mem_of_getElem? (i := 49) rfl) rfl
theorem tw4_50 : Cond.selects RX4 yX4_tear yX4_tear ∈ TT := tmb_4 (List.mem_of_getElem? (i := 50) rfl) rfl
theorem tw4_51 : Cond.code yX4_tear cX4_tear 2 (some .int) ∈ TT := tmb_4 (List.mem_of_getElem? (i := 51) rfl) rfl
theorem tw6_154 : Cond.methodLink RL 219 yX5_tear ∈ TT := tmb_6 (List.mem_of_getElem? (i := 154) rfl) rfl
theorem tw6_155 : Cond.instanceMethod yX5_tear ∈ TT := tmb_6 (List.mem_of_getElem? (i := 155) rfl) rfl
theorem tw6_156 : Cond.selects RX5 yX5_tear yX5_tear ∈ TT := tmb_6 (List.mem_of_getElem? (i := 156) rfl) rfl
theorem tw6_157 : Cond.code yX5_tear cX5_tear 2 (some .int) ∈ TT := tmb_6 (List.mem_of_getElem? (i := 157) rfl) rfl
theorem tw4_52 : Cond.methodLink RL 220 yX4_count ∈ TT := tmb_4 (List.mem_of_getElem? (i := 52) rfl) rfl
theorem tw4_53 : Cond.instanceMethod yX4_count ∈ TT := tmb_4 (List.mem_of_getElem? (i := 53) rfl) rfl
theorem tw4_54 : Cond.selects RX4 yX4_count yX4_count ∈ TT := tmb_4 (List.mem_of_getElem? (i := 54) rfl) rfl
theorem tw4_55 : Cond.code yX4_count cX4_count 2 (some .int) ∈ TT := tmb_4 (List.mem_of_getElem? (i := 55) rfl) rfl
theorem tw4_56 : Cond.methodLink RX4 300 yX0_hungerOfAll ∈ TT := tmb_4 (List.mem_of_getElem? (i := 56) rfl) rfl
theorem tw4_57 : Cond.instanceMethod yX0_hungerOfAll ∈ TT := tmb_4 (List.mem_of_getElem? (i := 57) rfl) rfl
theorem tw4_58 : Cond.selects RX0 yX0_hungerOfAll yX0_hungerOfAll ∈ TT := tmb_4 (List.mem_of_getElem? (i := 58) rfl) rfl
theorem tw4_59 : Cond.code yX0_hungerOfAll cX0_hungerOfAll 3 (some .int) ∈ TT := tmb_4 (List.mem_of_getElem? (i := 59) rfl) rfl
theorem tw4_60 : Cond.methodLink RX4 303 yX0_spotsHeld ∈ TT := tmb_4 (List.mem_of_getElem? (i := 60) rfl) rfl
theorem tw4_61 : Cond.instanceMethod yX0_spotsHeld ∈ TT := tmb_4 (List.mem_of_getElem? (i := 61) rfl) rfl
theorem tw4_62 : Cond.selects RX0 yX0_spotsHeld yX0_spotsHeld ∈ TT := tmb_4 (List.mem_of_getElem? (i := 62) rfl) rfl
theorem tw4_63 : Cond.code yX0_spotsHeld cX0_spotsHeld 3 (some .int) ∈ TT := tmb_4 (List.mem_of_getElem? (i := 63) rfl) rfl
theorem tw6_158 : Cond.methodLink RL 223 yX5_count ∈ TT := tmb_6 (List.mem_of_getElem? (i := 158) rfl) rfl
theorem tw6_159 : Cond.instanceMethod yX5_count ∈ TT := tmb_6 (List.mem_of_getElem? (i := 159) rfl) rfl
theorem tw6_160 : Cond.selects RX5 yX5_count yX5_count ∈ TT := tmb_6 (List.mem_of_getElem? (i := 160) rfl) rfl
theorem tw6_161 : Cond.code yX5_count cX5_count 4 (some .int) ∈ TT := tmb_6 (List.mem_of_getElem? (i := 161) rfl) rfl
theorem tw4_64 : Cond.methodLink RL 224 yX4_status ∈ TT := tmb_4 (List.mem_of_getElem? (i := 64) rfl) rfl
theorem tw4_65 : Cond.instanceMethod yX4_status ∈ TT := tmb_4 (List.mem_of_getElem? (i := 65) rfl) rfl
theorem tw4_66 : Cond.selects RX4 yX4_status yX4_status ∈ TT := tmb_4 (List.mem_of_getElem? (i := 66) rfl) rfl
theorem tw4_67 : Cond.code yX4_status cX4_status 4 (some .int) ∈ TT := tmb_4 (List.mem_of_getElem? (i := 67) rfl) rfl
theorem tw6_162 : Cond.methodLink RL 227 yX5_status ∈ TT := tmb_6 (List.mem_of_getElem? (i := 162) rfl) rfl
theorem tw6_163 : Cond.instanceMethod yX5_status ∈ TT := tmb_6 (List.mem_of_getElem? (i := 163) rfl) rfl
theorem tw6_164 : Cond.selects RX5 yX5_status yX5_status ∈ TT := tmb_6 (List.mem_of_getElem? (i := 164) rfl) rfl
theorem tw6_165 : Cond.code yX5_status cX5_status 2 (some .int) ∈ TT := tmb_6 (List.mem_of_getElem? (i := 165) rfl) rfl
theorem tfX0_0 : u_lay RX0 TX0 0 ∈ TT := tmb_1 (List.mem_of_getElem? (i := 68) rfl) rfl
theorem tfX0_1 : u_lay RX0 TX0 1 ∈ TT := tmb_1 (List.mem_of_getElem? (i := 70) rfl) rfl
theorem tfX0_2 : u_lay RX0 TX0 2 ∈ TT := tmb_1 (List.mem_of_getElem? (i := 72) rfl) rfl
theorem tfX0_3 : u_lay RX0 TX0 3 ∈ TT := tmb_1 (List.mem_of_getElem? (i := 74) rfl) rfl
theorem tfX0_4 : u_lay RX0 TX0 4 ∈ TT := tmb_1 (List.mem_of_getElem? (i := 76) rfl) rfl
theorem tfX0_5 : u_lay RX0 TX0 5 ∈ TT := tmb_1 (List.mem_of_getElem? (i := 78) rfl) rfl
theorem tfX0_6 : u_lay RX0 TX0 6 ∈ TT := tmb_1 (List.mem_of_getElem? (i := 80) rfl) rfl
theorem tfX0_7 : u_lay RX0 TX0 7 ∈ TT := tmb_1 (List.mem_of_getElem? (i := 82) rfl) rfl
theorem tfX0_8 : u_lay RX0 TX0 8 ∈ TT := tmb_1 (List.mem_of_getElem? (i := 84) rfl) rfl
theorem tfX0_9 : u_lay RX0 TX0 9 ∈ TT := tmb_1 (List.mem_of_getElem? (i := 86) rfl) rfl
theorem tfX0_10 : u_lay RX0 TX0 10 ∈ TT := tmb_1 (List.mem_of_getElem? (i := 88) rfl) rfl
theorem tfX0_11 : u_lay RX0 TX0 11 ∈ TT := tmb_1 (List.mem_of_getElem? (i := 90) rfl) rfl
theorem tfX0_12 : u_lay RX0 TX0 12 ∈ TT := tmb_1 (List.mem_of_getElem? (i := 92) rfl) rfl
theorem tfX0_13 : u_lay RX0 TX0 13 ∈ TT := tmb_1 (List.mem_of_getElem? (i := 94) rfl) rfl
theorem inTX0 : ∀ w ∈ wsX00, w ∈ TT := by
  intro w h
  obtain ⟨k, hk, rfl⟩ := List.mem_map.mp h
  have hk := List.mem_range.mp hk
  match k, hk with
  | 0, _ => exact tfX0_0
  | 1, _ => exact tfX0_1
  | 2, _ => exact tfX0_2
  | 3, _ => exact tfX0_3
  | 4, _ => exact tfX0_4
  | 5, _ => exact tfX0_5
  | 6, _ => exact tfX0_6
  | 7, _ => exact tfX0_7
  | 8, _ => exact tfX0_8
  | 9, _ => exact tfX0_9
  | 10, _ => exact tfX0_10
  | 11, _ => exact tfX0_11
  | 12, _ => exact tfX0_12
  | 13, _ => exact tfX0_13
  | k + 14, hk => exact absurd hk (by omega)
theorem tfX1_0 : u_lay RX1 TX1 0 ∈ TT := tmb_1 (List.mem_of_getElem? (i := 129) rfl) rfl
theorem tfX1_1 : u_lay RX1 TX1 1 ∈ TT := tmb_1 (List.mem_of_getElem? (i := 131) rfl) rfl
theorem tfX1_2 : u_lay RX1 TX1 2 ∈ TT := tmb_1 (List.mem_of_getElem? (i := 133) rfl) rfl
theorem tfX1_3 : u_lay RX1 TX1 3 ∈ TT := tmb_1 (List.mem_of_getElem? (i := 135) rfl) rfl
theorem tfX1_4 : u_lay RX1 TX1 4 ∈ TT := tmb_1 (List.mem_of_getElem? (i := 137) rfl) rfl
theorem tfX1_5 : u_lay RX1 TX1 5 ∈ TT := tmb_1 (List.mem_of_getElem? (i := 139) rfl) rfl
theorem tfX1_6 : u_lay RX1 TX1 6 ∈ TT := tmb_1 (List.mem_of_getElem? (i := 141) rfl) rfl
theorem tfX1_7 : u_lay RX1 TX1 7 ∈ TT := tmb_1 (List.mem_of_getElem? (i := 143) rfl) rfl
theorem inTX1 : ∀ w ∈ wsX10, w ∈ TT := by
  intro w h
  obtain ⟨k, hk, rfl⟩ := List.mem_map.mp h
  have hk := List.mem_range.mp hk
  match k, hk with
  | 0, _ => exact tfX1_0
  | 1, _ => exact tfX1_1
  | 2, _ => exact tfX1_2
  | 3, _ => exact tfX1_3
  | 4, _ => exact tfX1_4
  | 5, _ => exact tfX1_5
  | 6, _ => exact tfX1_6
  | 7, _ => exact tfX1_7
  | k + 8, hk => exact absurd hk (by omega)
theorem tfX2_0 : u_lay RX2 TX2 0 ∈ TT := tmb_1 (List.mem_of_getElem? (i := 159) rfl) rfl
theorem tfX2_1 : u_lay RX2 TX2 1 ∈ TT := tmb_1 (List.mem_of_getElem? (i := 161) rfl) rfl
theorem tfX2_2 : u_lay RX2 TX2 2 ∈ TT := tmb_1 (List.mem_of_getElem? (i := 163) rfl) rfl
theorem inTX2 : ∀ w ∈ wsX20, w ∈ TT := by
  intro w h
  obtain ⟨k, hk, rfl⟩ := List.mem_map.mp h
  have hk := List.mem_range.mp hk
  match k, hk with
  | 0, _ => exact tfX2_0
  | 1, _ => exact tfX2_1
  | 2, _ => exact tfX2_2
  | k + 3, hk => exact absurd hk (by omega)
theorem tfX3_0 : u_lay RX3 TX3 0 ∈ TT := tmb_1 (List.mem_of_getElem? (i := 110) rfl) rfl
theorem tfX3_1 : u_lay RX3 TX3 1 ∈ TT := tmb_1 (List.mem_of_getElem? (i := 112) rfl) rfl
theorem inTX3 : ∀ w ∈ wsX30, w ∈ TT := by
  intro w h
  obtain ⟨k, hk, rfl⟩ := List.mem_map.mp h
  have hk := List.mem_range.mp hk
  match k, hk with
  | 0, _ => exact tfX3_0
  | 1, _ => exact tfX3_1
  | k + 2, hk => exact absurd hk (by omega)
theorem tfX4_0 : u_lay RX4 TX4 0 ∈ TT := tmb_1 (List.mem_of_getElem? (i := 175) rfl) rfl
theorem tfX4_1 : u_lay RX4 TX4 1 ∈ TT := tmb_1 (List.mem_of_getElem? (i := 177) rfl) rfl
theorem tfX4_2 : u_lay RX4 TX4 2 ∈ TT := tmb_1 (List.mem_of_getElem? (i := 179) rfl) rfl
theorem tfX4_3 : u_lay RX4 TX4 3 ∈ TT := tmb_1 (List.mem_of_getElem? (i := 181) rfl) rfl
theorem tfX4_4 : u_lay RX4 TX4 4 ∈ TT := tmb_1 (List.mem_of_getElem? (i := 183) rfl) rfl
theorem tfX4_5 : u_lay RX4 TX4 5 ∈ TT := tmb_1 (List.mem_of_getElem? (i := 185) rfl) rfl
theorem tfX4_6 : u_lay RX4 TX4 6 ∈ TT := tmb_1 (List.mem_of_getElem? (i := 187) rfl) rfl
theorem tfX4_7 : u_lay RX4 TX4 7 ∈ TT := tmb_1 (List.mem_of_getElem? (i := 189) rfl) rfl
theorem tfX4_8 : u_lay RX4 TX4 8 ∈ TT := tmb_1 (List.mem_of_getElem? (i := 191) rfl) rfl
theorem inTX4 : ∀ w ∈ wsX40, w ∈ TT := by
  intro w h
  obtain ⟨k, hk, rfl⟩ := List.mem_map.mp h
  have hk := List.mem_range.mp hk
  match k, hk with
  | 0, _ => exact tfX4_0
  | 1, _ => exact tfX4_1
  | 2, _ => exact tfX4_2
  | 3, _ => exact tfX4_3
  | 4, _ => exact tfX4_4
  | 5, _ => exact tfX4_5
  | 6, _ => exact tfX4_6
  | 7, _ => exact tfX4_7
  | 8, _ => exact tfX4_8
  | k + 9, hk => exact absurd hk (by omega)
theorem tfX5_0 : u_lay RX5 TX5 0 ∈ TT := tmb_4 (List.mem_of_getElem? (i := 109) rfl) rfl
theorem tfX5_1 : u_lay RX5 TX5 1 ∈ TT := tmb_4 (List.mem_of_getElem? (i := 111) rfl) rfl
theorem tfX5_2 : u_lay RX5 TX5 2 ∈ TT := tmb_4 (List.mem_of_getElem? (i := 113) rfl) rfl
theorem tfX5_3 : u_lay RX5 TX5 3 ∈ TT := tmb_4 (List.mem_of_getElem? (i := 115) rfl) rfl
theorem tfX5_4 : u_lay RX5 TX5 4 ∈ TT := tmb_4 (List.mem_of_getElem? (i := 117) rfl) rfl
theorem tfX5_5 : u_lay RX5 TX5 5 ∈ TT := tmb_4 (List.mem_of_getElem? (i := 119) rfl) rfl
theorem tfX5_6 : u_lay RX5 TX5 6 ∈ TT := tmb_4 (List.mem_of_getElem? (i := 121) rfl) rfl
theorem tfX5_7 : u_lay RX5 TX5 7 ∈ TT := tmb_4 (List.mem_of_getElem? (i := 123) rfl) rfl
theorem tfX5_8 : u_lay RX5 TX5 8 ∈ TT := tmb_4 (List.mem_of_getElem? (i := 125) rfl) rfl
theorem tfX5_9 : u_lay RX5 TX5 9 ∈ TT := tmb_4 (List.mem_of_getElem? (i := 127) rfl) rfl
theorem tfX5_10 : u_lay RX5 TX5 10 ∈ TT := tmb_4 (List.mem_of_getElem? (i := 129) rfl) rfl
theorem tfX5_11 : u_lay RX5 TX5 11 ∈ TT := tmb_4 (List.mem_of_getElem? (i := 131) rfl) rfl
theorem tfX5_12 : u_lay RX5 TX5 12 ∈ TT := tmb_4 (List.mem_of_getElem? (i := 133) rfl) rfl
theorem tfX5_13 : u_lay RX5 TX5 13 ∈ TT := tmb_4 (List.mem_of_getElem? (i := 135) rfl) rfl
theorem tfX5_14 : u_lay RX5 TX5 14 ∈ TT := tmb_4 (List.mem_of_getElem? (i := 137) rfl) rfl
theorem tfX5_15 : u_lay RX5 TX5 15 ∈ TT := tmb_4 (List.mem_of_getElem? (i := 139) rfl) rfl
theorem tfX5_16 : u_lay RX5 TX5 16 ∈ TT := tmb_4 (List.mem_of_getElem? (i := 141) rfl) rfl
theorem tfX5_17 : u_lay RX5 TX5 17 ∈ TT := tmb_4 (List.mem_of_getElem? (i := 143) rfl) rfl
theorem tfX5_18 : u_lay RX5 TX5 18 ∈ TT := tmb_4 (List.mem_of_getElem? (i := 145) rfl) rfl
theorem tfX5_19 : u_lay RX5 TX5 19 ∈ TT := tmb_4 (List.mem_of_getElem? (i := 147) rfl) rfl
theorem tfX5_20 : u_lay RX5 TX5 20 ∈ TT := tmb_4 (List.mem_of_getElem? (i := 149) rfl) rfl
theorem tfX5_21 : u_lay RX5 TX5 21 ∈ TT := tmb_4 (List.mem_of_getElem? (i := 151) rfl) rfl
theorem tfX5_22 : u_lay RX5 TX5 22 ∈ TT := tmb_4 (List.mem_of_getElem? (i := 153) rfl) rfl
theorem tfX5_23 : u_lay RX5 TX5 23 ∈ TT := tmb_4 (List.mem_of_getElem? (i := 155) rfl) rfl
theorem tfX5_24 : u_lay RX5 TX5 24 ∈ TT := tmb_4 (List.mem_of_getElem? (i := 157) rfl) rfl
theorem tfX5_25 : u_lay RX5 TX5 25 ∈ TT := tmb_4 (List.mem_of_getElem? (i := 159) rfl) rfl
theorem inTX5 : ∀ w ∈ wsX50, w ∈ TT := by
  intro w h
  obtain ⟨k, hk, rfl⟩ := List.mem_map.mp h
  have hk := List.mem_range.mp hk
  match k, hk with
  | 0, _ => exact tfX5_0
  | 1, _ => exact tfX5_1
  | 2, _ => exact tfX5_2
  | 3, _ => exact tfX5_3
  | 4, _ => exact tfX5_4
  | 5, _ => exact tfX5_5
  | 6, _ => exact tfX5_6
  | 7, _ => exact tfX5_7
  | 8, _ => exact tfX5_8
  | 9, _ => exact tfX5_9
  | 10, _ => exact tfX5_10
  | 11, _ => exact tfX5_11
  | 12, _ => exact tfX5_12
  | 13, _ => exact tfX5_13
  | 14, _ => exact tfX5_14
  | 15, _ => exact tfX5_15
  | 16, _ => exact tfX5_16
  | 17, _ => exact tfX5_17
  | 18, _ => exact tfX5_18
  | 19, _ => exact tfX5_19
  | 20, _ => exact tfX5_20
  | 21, _ => exact tfX5_21
  | 22, _ => exact tfX5_22
  | 23, _ => exact tfX5_23
  | 24, _ => exact tfX5_24
  | 25, _ => exact tfX5_25
  | k + 26, hk => exact absurd hk (by omega)
end
section
theorem dX0_init_0 : decode cX0_init 0 = .ok (.aload_n 0, 1) := by decide +kernel
theorem dX0_init_1 : decode cX0_init 1 = .ok (.invokespecial 3, 3) := by decide +kernel
theorem dX0_init_4 : decode cX0_init 4 = .ok (.aload_n 0, 1) := by decide +kernel
theorem dX0_init_5 : decode cX0_init 5 = .ok (.bipush 8, 2) := by decide +kernel
theorem dX0_init_7 : decode cX0_init 7 = .ok (.newarray .int, 2) := by decide +kernel
theorem dX0_init_9 : decode cX0_init 9 = .ok (.putfield 9, 3) := by decide +kernel
theorem dX0_init_12 : decode cX0_init 12 = .ok (.aload_n 0, 1) := by decide +kernel
theorem dX0_init_13 : decode cX0_init 13 = .ok (.bipush 8, 2) := by decide +kernel
theorem dX0_init_15 : decode cX0_init 15 = .ok (.newarray .int, 2) := by decide +kernel
theorem dX0_init_17 : decode cX0_init 17 = .ok (.putfield 15, 3) := by decide +kernel
theorem dX0_init_20 : decode cX0_init 20 = .ok (.aload_n 0, 1) := by decide +kernel
theorem dX0_init_21 : decode cX0_init 21 = .ok (.bipush 8, 2) := by decide +kernel
theorem dX0_init_23 : decode cX0_init 23 = .ok (.newarray .int, 2) := by decide +kernel
theorem dX0_init_25 : decode cX0_init 25 = .ok (.putfield 18, 3) := by decide +kernel
theorem dX0_init_28 : decode cX0_init 28 = .ok (.aload_n 0, 1) := by decide +kernel
theorem dX0_init_29 : decode cX0_init 29 = .ok (.iconst 4, 1) := by decide +kernel
theorem dX0_init_30 : decode cX0_init 30 = .ok (.newarray .int, 2) := by decide +kernel
theorem dX0_init_32 : decode cX0_init 32 = .ok (.putfield 21, 3) := by decide +kernel
theorem dX0_init_35 : decode cX0_init 35 = .ok (.aload_n 0, 1) := by decide +kernel
theorem dX0_init_36 : decode cX0_init 36 = .ok (.iconst 4, 1) := by decide +kernel
theorem dX0_init_37 : decode cX0_init 37 = .ok (.newarray .int, 2) := by decide +kernel
theorem dX0_init_39 : decode cX0_init 39 = .ok (.putfield 24, 3) := by decide +kernel
theorem dX0_init_42 : decode cX0_init 42 = .ok (.aload_n 0, 1) := by decide +kernel
theorem dX0_init_43 : decode cX0_init 43 = .ok (.iconst 4, 1) := by decide +kernel
theorem dX0_init_44 : decode cX0_init 44 = .ok (.newarray .int, 2) := by decide +kernel
theorem dX0_init_46 : decode cX0_init 46 = .ok (.putfield 27, 3) := by decide +kernel
theorem dX0_init_49 : decode cX0_init 49 = .ok (.aload_n 0, 1) := by decide +kernel
theorem dX0_init_50 : decode cX0_init 50 = .ok (.bipush 100, 2) := by decide +kernel
theorem dX0_init_52 : decode cX0_init 52 = .ok (.newarray .boolean, 2) := by decide +kernel
theorem dX0_init_54 : decode cX0_init 54 = .ok (.putfield 30, 3) := by decide +kernel
theorem dX0_init_57 : decode cX0_init 57 = .ok (.aload_n 0, 1) := by decide +kernel
theorem dX0_init_58 : decode cX0_init 58 = .ok (.bipush 100, 2) := by decide +kernel
theorem dX0_init_60 : decode cX0_init 60 = .ok (.putfield 34, 3) := by decide +kernel
theorem dX0_init_63 : decode cX0_init 63 = .ok (.aload_n 0, 1) := by decide +kernel
theorem dX0_init_64 : decode cX0_init 64 = .ok (.iconst 1, 1) := by decide +kernel
theorem dX0_init_65 : decode cX0_init 65 = .ok (.putfield 38, 3) := by decide +kernel
theorem dX0_init_68 : decode cX0_init 68 = .ok (.aload_n 0, 1) := by decide +kernel
theorem dX0_init_69 : decode cX0_init 69 = .ok (.bipush 10, 2) := by decide +kernel
theorem dX0_init_71 : decode cX0_init 71 = .ok (.newarray .int, 2) := by decide +kernel
theorem dX0_init_73 : decode cX0_init 73 = .ok (.putfield 41, 3) := by decide +kernel
theorem dX0_init_76 : decode cX0_init 76 = .ok (.aload_n 0, 1) := by decide +kernel
theorem dX0_init_77 : decode cX0_init 77 = .ok (.getfield 41, 3) := by decide +kernel
theorem dX0_init_80 : decode cX0_init 80 = .ok (.iconst (-1), 1) := by decide +kernel
theorem dX0_init_81 : decode cX0_init 81 = .ok (.invokestatic 44, 3) := by decide +kernel
theorem dX0_init_84 : decode cX0_init 84 = .ok (.return_, 1) := by decide +kernel
theorem dX0_become_0 : decode cX0_become 0 = .ok (.aload_n 0, 1) := by decide +kernel
theorem dX0_become_1 : decode cX0_become 1 = .ok (.aload_n 1, 1) := by decide +kernel
theorem dX0_become_2 : decode cX0_become 2 = .ok (.getfield 50, 3) := by decide +kernel
theorem dX0_become_5 : decode cX0_become 5 = .ok (.putfield 50, 3) := by decide +kernel
theorem dX0_become_8 : decode cX0_become 8 = .ok (.aload_n 1, 1) := by decide +kernel
theorem dX0_become_9 : decode cX0_become 9 = .ok (.getfield 9, 3) := by decide +kernel
theorem dX0_become_12 : decode cX0_become 12 = .ok (.iconst 0, 1) := by decide +kernel
theorem dX0_become_13 : decode cX0_become 13 = .ok (.aload_n 0, 1) := by decide +kernel
theorem dX0_become_14 : decode cX0_become 14 = .ok (.getfield 9, 3) := by decide +kernel
theorem dX0_become_17 : decode cX0_become 17 = .ok (.iconst 0, 1) := by decide +kernel
theorem dX0_become_18 : decode cX0_become 18 = .ok (.bipush 8, 2) := by decide +kernel
theorem dX0_become_20 : decode cX0_become 20 = .ok (.invokestatic 53, 3) := by decide +kernel
theorem dX0_become_23 : decode cX0_become 23 = .ok (.aload_n 1, 1) := by decide +kernel
theorem dX0_become_24 : decode cX0_become 24 = .ok (.getfield 15, 3) := by decide +kernel
theorem dX0_become_27 : decode cX0_become 27 = .ok (.iconst 0, 1) := by decide +kernel
theorem dX0_become_28 : decode cX0_become 28 = .ok (.aload_n 0, 1) := by decide +kernel
theorem dX0_become_29 : decode cX0_become 29 = .ok (.getfield 15, 3) := by decide +kernel
theorem dX0_become_32 : decode cX0_become 32 = .ok (.iconst 0, 1) := by decide +kernel
theorem dX0_become_33 : decode cX0_become 33 = .ok (.bipush 8, 2) := by decide +kernel
theorem dX0_become_35 : decode cX0_become 35 = .ok (.invokestatic 53, 3) := by decide +kernel
theorem dX0_become_38 : decode cX0_become 38 = .ok (.aload_n 1, 1) := by decide +kernel
theorem dX0_become_39 : decode cX0_become 39 = .ok (.getfield 18, 3) := by decide +kernel
theorem dX0_become_42 : decode cX0_become 42 = .ok (.iconst 0, 1) := by decide +kernel
theorem dX0_become_43 : decode cX0_become 43 = .ok (.aload_n 0, 1) := by decide +kernel
theorem dX0_become_44 : decode cX0_become 44 = .ok (.getfield 18, 3) := by decide +kernel
theorem dX0_become_47 : decode cX0_become 47 = .ok (.iconst 0, 1) := by decide +kernel
theorem dX0_become_48 : decode cX0_become 48 = .ok (.bipush 8, 2) := by decide +kernel
theorem dX0_become_50 : decode cX0_become 50 = .ok (.invokestatic 53, 3) := by decide +kernel
theorem dX0_become_53 : decode cX0_become 53 = .ok (.aload_n 1, 1) := by decide +kernel
theorem dX0_become_54 : decode cX0_become 54 = .ok (.getfield 21, 3) := by decide +kernel
theorem dX0_become_57 : decode cX0_become 57 = .ok (.iconst 0, 1) := by decide +kernel
theorem dX0_become_58 : decode cX0_become 58 = .ok (.aload_n 0, 1) := by decide +kernel
theorem dX0_become_59 : decode cX0_become 59 = .ok (.getfield 21, 3) := by decide +kernel
theorem dX0_become_62 : decode cX0_become 62 = .ok (.iconst 0, 1) := by decide +kernel
theorem dX0_become_63 : decode cX0_become 63 = .ok (.iconst 4, 1) := by decide +kernel
theorem dX0_become_64 : decode cX0_become 64 = .ok (.invokestatic 53, 3) := by decide +kernel
theorem dX0_become_67 : decode cX0_become 67 = .ok (.aload_n 1, 1) := by decide +kernel
theorem dX0_become_68 : decode cX0_become 68 = .ok (.getfield 24, 3) := by decide +kernel
theorem dX0_become_71 : decode cX0_become 71 = .ok (.iconst 0, 1) := by decide +kernel
theorem dX0_become_72 : decode cX0_become 72 = .ok (.aload_n 0, 1) := by decide +kernel
theorem dX0_become_73 : decode cX0_become 73 = .ok (.getfield 24, 3) := by decide +kernel
theorem dX0_become_76 : decode cX0_become 76 = .ok (.iconst 0, 1) := by decide +kernel
theorem dX0_become_77 : decode cX0_become 77 = .ok (.iconst 4, 1) := by decide +kernel
theorem dX0_become_78 : decode cX0_become 78 = .ok (.invokestatic 53, 3) := by decide +kernel
theorem dX0_become_81 : decode cX0_become 81 = .ok (.aload_n 1, 1) := by decide +kernel
theorem dX0_become_82 : decode cX0_become 82 = .ok (.getfield 27, 3) := by decide +kernel
theorem dX0_become_85 : decode cX0_become 85 = .ok (.iconst 0, 1) := by decide +kernel
theorem dX0_become_86 : decode cX0_become 86 = .ok (.aload_n 0, 1) := by decide +kernel
theorem dX0_become_87 : decode cX0_become 87 = .ok (.getfield 27, 3) := by decide +kernel
theorem dX0_become_90 : decode cX0_become 90 = .ok (.iconst 0, 1) := by decide +kernel
theorem dX0_become_91 : decode cX0_become 91 = .ok (.iconst 4, 1) := by decide +kernel
theorem dX0_become_92 : decode cX0_become 92 = .ok (.invokestatic 53, 3) := by decide +kernel
theorem dX0_become_95 : decode cX0_become 95 = .ok (.iconst 0, 1) := by decide +kernel
theorem dX0_become_96 : decode cX0_become 96 = .ok (.istore_n 2, 1) := by decide +kernel
theorem dX0_become_97 : decode cX0_become 97 = .ok (.iload_n 2, 1) := by decide +kernel
theorem dX0_become_98 : decode cX0_become 98 = .ok (.bipush 100, 2) := by decide +kernel
theorem dX0_become_100 : decode cX0_become 100 = .ok (.if_icmp .ge 21, 3) := by decide +kernel
theorem dX0_become_103 : decode cX0_become 103 = .ok (.aload_n 0, 1) := by decide +kernel
theorem dX0_become_104 : decode cX0_become 104 = .ok (.getfield 30, 3) := by decide +kernel
theorem dX0_become_107 : decode cX0_become 107 = .ok (.iload_n 2, 1) := by decide +kernel
theorem dX0_become_108 : decode cX0_become 108 = .ok (.aload_n 1, 1) := by decide +kernel
theorem dX0_become_109 : decode cX0_become 109 = .ok (.getfield 30, 3) := by decide +kernel
theorem dX0_become_112 : decode cX0_become 112 = .ok (.iload_n 2, 1) := by decide +kernel
theorem dX0_become_113 : decode cX0_become 113 = .ok (.baload, 1) := by decide +kernel
theorem dX0_become_114 : decode cX0_become 114 = .ok (.bastore, 1) := by decide +kernel
theorem dX0_become_115 : decode cX0_become 115 = .ok (.iinc 2 1, 3) := by decide +kernel
theorem dX0_become_118 : decode cX0_become 118 = .ok (.goto (-21), 3) := by decide +kernel
theorem dX0_become_121 : decode cX0_become 121 = .ok (.aload_n 0, 1) := by decide +kernel
theorem dX0_become_122 : decode cX0_become 122 = .ok (.aload_n 1, 1) := by decide +kernel
theorem dX0_become_123 : decode cX0_become 123 = .ok (.getfield 59, 3) := by decide +kernel
theorem dX0_become_126 : decode cX0_become 126 = .ok (.putfield 59, 3) := by decide +kernel
theorem dX0_become_129 : decode cX0_become 129 = .ok (.aload_n 0, 1) := by decide +kernel
theorem dX0_become_130 : decode cX0_become 130 = .ok (.aload_n 1, 1) := by decide +kernel
theorem dX0_become_131 : decode cX0_become 131 = .ok (.getfield 62, 3) := by decide +kernel
theorem dX0_become_134 : decode cX0_become 134 = .ok (.putfield 62, 3) := by decide +kernel
theorem dX0_become_137 : decode cX0_become 137 = .ok (.aload_n 0, 1) := by decide +kernel
theorem dX0_become_138 : decode cX0_become 138 = .ok (.aload_n 1, 1) := by decide +kernel
theorem dX0_become_139 : decode cX0_become 139 = .ok (.getfield 34, 3) := by decide +kernel
theorem dX0_become_142 : decode cX0_become 142 = .ok (.putfield 34, 3) := by decide +kernel
theorem dX0_become_145 : decode cX0_become 145 = .ok (.aload_n 0, 1) := by decide +kernel
theorem dX0_become_146 : decode cX0_become 146 = .ok (.aload_n 1, 1) := by decide +kernel
theorem dX0_become_147 : decode cX0_become 147 = .ok (.getfield 65, 3) := by decide +kernel
theorem dX0_become_150 : decode cX0_become 150 = .ok (.putfield 65, 3) := by decide +kernel
theorem dX0_become_153 : decode cX0_become 153 = .ok (.aload_n 0, 1) := by decide +kernel
theorem dX0_become_154 : decode cX0_become 154 = .ok (.aload_n 1, 1) := by decide +kernel
theorem dX0_become_155 : decode cX0_become 155 = .ok (.getfield 38, 3) := by decide +kernel
theorem dX0_become_158 : decode cX0_become 158 = .ok (.putfield 38, 3) := by decide +kernel
theorem dX0_become_161 : decode cX0_become 161 = .ok (.aload_n 1, 1) := by decide +kernel
theorem dX0_become_162 : decode cX0_become 162 = .ok (.getfield 41, 3) := by decide +kernel
theorem dX0_become_165 : decode cX0_become 165 = .ok (.iconst 0, 1) := by decide +kernel
theorem dX0_become_166 : decode cX0_become 166 = .ok (.aload_n 0, 1) := by decide +kernel
theorem dX0_become_167 : decode cX0_become 167 = .ok (.getfield 41, 3) := by decide +kernel
theorem dX0_become_170 : decode cX0_become 170 = .ok (.iconst 0, 1) := by decide +kernel
theorem dX0_become_171 : decode cX0_become 171 = .ok (.bipush 10, 2) := by decide +kernel
theorem dX0_become_173 : decode cX0_become 173 = .ok (.invokestatic 53, 3) := by decide +kernel
theorem dX0_become_176 : decode cX0_become 176 = .ok (.return_, 1) := by decide +kernel
theorem dX0_addCat_0 : decode cX0_addCat 0 = .ok (.aload_n 0, 1) := by decide +kernel
theorem dX0_addCat_1 : decode cX0_addCat 1 = .ok (.getfield 50, 3) := by decide +kernel
theorem dX0_addCat_4 : decode cX0_addCat 4 = .ok (.bipush 8, 2) := by decide +kernel
theorem dX0_addCat_6 : decode cX0_addCat 6 = .ok (.if_icmp .lt 5, 3) := by decide +kernel
theorem dX0_addCat_9 : decode cX0_addCat 9 = .ok (.iconst (-1), 1) := by decide +kernel
theorem dX0_addCat_10 : decode cX0_addCat 10 = .ok (.ireturn, 1) := by decide +kernel
theorem dX0_addCat_11 : decode cX0_addCat 11 = .ok (.aload_n 0, 1) := by decide +kernel
theorem dX0_addCat_12 : decode cX0_addCat 12 = .ok (.getfield 9, 3) := by decide +kernel
theorem dX0_addCat_15 : decode cX0_addCat 15 = .ok (.aload_n 0, 1) := by decide +kernel
theorem dX0_addCat_16 : decode cX0_addCat 16 = .ok (.getfield 50, 3) := by decide +kernel
theorem dX0_addCat_19 : decode cX0_addCat 19 = .ok (.iload_n 1, 1) := by decide +kernel
theorem dX0_addCat_20 : decode cX0_addCat 20 = .ok (.iastore, 1) := by decide +kernel
theorem dX0_addCat_21 : decode cX0_addCat 21 = .ok (.aload_n 0, 1) := by decide +kernel
theorem dX0_addCat_22 : decode cX0_addCat 22 = .ok (.getfield 15, 3) := by decide +kernel
theorem dX0_addCat_25 : decode cX0_addCat 25 = .ok (.aload_n 0, 1) := by decide +kernel
theorem dX0_addCat_26 : decode cX0_addCat 26 = .ok (.getfield 50, 3) := by decide +kernel
theorem dX0_addCat_29 : decode cX0_addCat 29 = .ok (.iload_n 2, 1) := by decide +kernel
theorem dX0_addCat_30 : decode cX0_addCat 30 = .ok (.iastore, 1) := by decide +kernel
theorem dX0_addCat_31 : decode cX0_addCat 31 = .ok (.aload_n 0, 1) := by decide +kernel
theorem dX0_addCat_32 : decode cX0_addCat 32 = .ok (.getfield 18, 3) := by decide +kernel
theorem dX0_addCat_35 : decode cX0_addCat 35 = .ok (.aload_n 0, 1) := by decide +kernel
theorem dX0_addCat_36 : decode cX0_addCat 36 = .ok (.getfield 50, 3) := by decide +kernel
theorem dX0_addCat_39 : decode cX0_addCat 39 = .ok (.iload_n 3, 1) := by decide +kernel
theorem dX0_addCat_40 : decode cX0_addCat 40 = .ok (.iastore, 1) := by decide +kernel
theorem dX0_addCat_41 : decode cX0_addCat 41 = .ok (.aload_n 0, 1) := by decide +kernel
theorem dX0_addCat_42 : decode cX0_addCat 42 = .ok (.dup, 1) := by decide +kernel
theorem dX0_addCat_43 : decode cX0_addCat 43 = .ok (.getfield 50, 3) := by decide +kernel
theorem dX0_addCat_46 : decode cX0_addCat 46 = .ok (.iconst 1, 1) := by decide +kernel
theorem dX0_addCat_47 : decode cX0_addCat 47 = .ok (.iadd, 1) := by decide +kernel
theorem dX0_addCat_48 : decode cX0_addCat 48 = .ok (.putfield 50, 3) := by decide +kernel
theorem dX0_addCat_51 : decode cX0_addCat 51 = .ok (.aload_n 0, 1) := by decide +kernel
theorem dX0_addCat_52 : decode cX0_addCat 52 = .ok (.getfield 50, 3) := by decide +kernel
theorem dX0_addCat_55 : decode cX0_addCat 55 = .ok (.iconst 1, 1) := by decide +kernel
theorem dX0_addCat_56 : decode cX0_addCat 56 = .ok (.isub, 1) := by decide +kernel
theorem dX0_addCat_57 : decode cX0_addCat 57 = .ok (.ireturn, 1) := by decide +kernel
theorem dX0_errsAs_0 : decode cX0_errsAs 0 = .ok (.aload_n 0, 1) := by decide +kernel
theorem dX0_errsAs_1 : decode cX0_errsAs 1 = .ok (.getfield 15, 3) := by decide +kernel
theorem dX0_errsAs_4 : decode cX0_errsAs 4 = .ok (.iload_n 1, 1) := by decide +kernel
theorem dX0_errsAs_5 : decode cX0_errsAs 5 = .ok (.iaload, 1) := by decide +kernel
theorem dX0_errsAs_6 : decode cX0_errsAs 6 = .ok (.iload 4, 2) := by decide +kernel
theorem dX0_errsAs_8 : decode cX0_errsAs 8 = .ok (.iadd, 1) := by decide +kernel
theorem dX0_errsAs_9 : decode cX0_errsAs 9 = .ok (.bipush 99, 2) := by decide +kernel
theorem dX0_errsAs_11 : decode cX0_errsAs 11 = .ok (.invokestatic 68, 3) := by decide +kernel
theorem dX0_errsAs_14 : decode cX0_errsAs 14 = .ok (.istore 5, 2) := by decide +kernel
theorem dX0_errsAs_16 : decode cX0_errsAs 16 = .ok (.aload_n 0, 1) := by decide +kernel
theorem dX0_errsAs_17 : decode cX0_errsAs 17 = .ok (.getfield 65, 3) := by decide +kernel
theorem dX0_errsAs_20 : decode cX0_errsAs 20 = .ok (.iload 4, 2) := by decide +kernel
theorem dX0_errsAs_22 : decode cX0_errsAs 22 = .ok (.iadd, 1) := by decide +kernel
theorem dX0_errsAs_23 : decode cX0_errsAs 23 = .ok (.bipush 16, 2) := by decide +kernel
theorem dX0_errsAs_25 : decode cX0_errsAs 25 = .ok (.irem, 1) := by decide +kernel
theorem dX0_errsAs_26 : decode cX0_errsAs 26 = .ok (.istore 6, 2) := by decide +kernel
theorem dX0_errsAs_28 : decode cX0_errsAs 28 = .ok (.iload 5, 2) := by decide +kernel
theorem dX0_errsAs_30 : decode cX0_errsAs 30 = .ok (.bipush 10, 2) := by decide +kernel
theorem dX0_errsAs_32 : decode cX0_errsAs 32 = .ok (.idiv, 1) := by decide +kernel
theorem dX0_errsAs_33 : decode cX0_errsAs 33 = .ok (.istore 7, 2) := by decide +kernel
theorem dX0_errsAs_35 : decode cX0_errsAs 35 = .ok (.iload 7, 2) := by decide +kernel
theorem dX0_errsAs_37 : decode cX0_errsAs 37 = .ok (.iconst 2, 1) := by decide +kernel
theorem dX0_errsAs_38 : decode cX0_errsAs 38 = .ok (.aload_n 0, 1) := by decide +kernel
theorem dX0_errsAs_39 : decode cX0_errsAs 39 = .ok (.getfield 62, 3) := by decide +kernel
theorem dX0_errsAs_42 : decode cX0_errsAs 42 = .ok (.iload 6, 2) := by decide +kernel
theorem dX0_errsAs_44 : decode cX0_errsAs 44 = .ok (.ishr, 1) := by decide +kernel
theorem dX0_errsAs_45 : decode cX0_errsAs 45 = .ok (.iconst 1, 1) := by decide +kernel
theorem dX0_errsAs_46 : decode cX0_errsAs 46 = .ok (.iand, 1) := by decide +kernel
theorem dX0_errsAs_47 : decode cX0_errsAs 47 = .ok (.imul, 1) := by decide +kernel
theorem dX0_errsAs_48 : decode cX0_errsAs 48 = .ok (.iadd, 1) := by decide +kernel
theorem dX0_errsAs_49 : decode cX0_errsAs 49 = .ok (.istore 8, 2) := by decide +kernel
theorem dX0_errsAs_51 : decode cX0_errsAs 51 = .ok (.iload 5, 2) := by decide +kernel
theorem dX0_errsAs_53 : decode cX0_errsAs 53 = .ok (.bipush 50, 2) := by decide +kernel
theorem dX0_errsAs_55 : decode cX0_errsAs 55 = .ok (.if_icmp .lt 7, 3) := by decide +kernel
theorem dX0_errsAs_58 : decode cX0_errsAs 58 = .ok (.iload_n 3, 1) := by decide +kernel
theorem dX0_errsAs_59 : decode cX0_errsAs 59 = .ok (.goto 5, 3) := by decide +kernel
theorem dX0_errsAs_62 : decode cX0_errsAs 62 = .ok (.iload 8, 2) := by decide +kernel
theorem dX0_errsAs_64 : decode cX0_errsAs 64 = .ok (.istore 9, 2) := by decide +kernel
theorem dX0_errsAs_66 : decode cX0_errsAs 66 = .ok (.iload 7, 2) := by decide +kernel
theorem dX0_errsAs_68 : decode cX0_errsAs 68 = .ok (.iload 6, 2) := by decide +kernel
theorem dX0_errsAs_70 : decode cX0_errsAs 70 = .ok (.iconst 5, 1) := by decide +kernel
theorem dX0_errsAs_71 : decode cX0_errsAs 71 = .ok (.irem, 1) := by decide +kernel
theorem dX0_errsAs_72 : decode cX0_errsAs 72 = .ok (.iadd, 1) := by decide +kernel
theorem dX0_errsAs_73 : decode cX0_errsAs 73 = .ok (.iconst 2, 1) := by decide +kernel
theorem dX0_errsAs_74 : decode cX0_errsAs 74 = .ok (.isub, 1) := by decide +kernel
theorem dX0_errsAs_75 : decode cX0_errsAs 75 = .ok (.istore 10, 2) := by decide +kernel
theorem dX0_errsAs_77 : decode cX0_errsAs 77 = .ok (.iload_n 2, 1) := by decide +kernel
theorem dX0_errsAs_78 : decode cX0_errsAs 78 = .ok (.tableswitch 63 1 6 #[38, 41, 44, 47, 53, 58], 38) := by decide +kernel
theorem dX0_errsAs_116 : decode cX0_errsAs 116 = .ok (.iload 8, 2) := by decide +kernel
theorem dX0_errsAs_118 : decode cX0_errsAs 118 = .ok (.ireturn, 1) := by decide +kernel
theorem dX0_errsAs_119 : decode cX0_errsAs 119 = .ok (.iload 10, 2) := by decide +kernel
theorem dX0_errsAs_121 : decode cX0_errsAs 121 = .ok (.ireturn, 1) := by decide +kernel
theorem dX0_errsAs_122 : decode cX0_errsAs 122 = .ok (.iload 9, 2) := by decide +kernel
theorem dX0_errsAs_124 : decode cX0_errsAs 124 = .ok (.ireturn, 1) := by decide +kernel
theorem dX0_errsAs_125 : decode cX0_errsAs 125 = .ok (.bipush 16, 2) := by decide +kernel
theorem dX0_errsAs_127 : decode cX0_errsAs 127 = .ok (.iload 9, 2) := by decide +kernel
theorem dX0_errsAs_129 : decode cX0_errsAs 129 = .ok (.isub, 1) := by decide +kernel
theorem dX0_errsAs_130 : decode cX0_errsAs 130 = .ok (.ireturn, 1) := by decide +kernel
theorem dX0_errsAs_131 : decode cX0_errsAs 131 = .ok (.iload 7, 2) := by decide +kernel
theorem dX0_errsAs_133 : decode cX0_errsAs 133 = .ok (.iconst 2, 1) := by decide +kernel
theorem dX0_errsAs_134 : decode cX0_errsAs 134 = .ok (.idiv, 1) := by decide +kernel
theorem dX0_errsAs_135 : decode cX0_errsAs 135 = .ok (.ireturn, 1) := by decide +kernel
theorem dX0_errsAs_136 : decode cX0_errsAs 136 = .ok (.iload 10, 2) := by decide +kernel
theorem dX0_errsAs_138 : decode cX0_errsAs 138 = .ok (.iconst 1, 1) := by decide +kernel
theorem dX0_errsAs_139 : decode cX0_errsAs 139 = .ok (.iadd, 1) := by decide +kernel
theorem dX0_errsAs_140 : decode cX0_errsAs 140 = .ok (.ireturn, 1) := by decide +kernel
theorem dX0_errsAs_141 : decode cX0_errsAs 141 = .ok (.iload 7, 2) := by decide +kernel
theorem dX0_errsAs_143 : decode cX0_errsAs 143 = .ok (.ireturn, 1) := by decide +kernel
theorem dX0_errs_0 : decode cX0_errs 0 = .ok (.aload_n 0, 1) := by decide +kernel
theorem dX0_errs_1 : decode cX0_errs 1 = .ok (.iload_n 1, 1) := by decide +kernel
theorem dX0_errs_2 : decode cX0_errs 2 = .ok (.aload_n 0, 1) := by decide +kernel
theorem dX0_errs_3 : decode cX0_errs 3 = .ok (.getfield 9, 3) := by decide +kernel
theorem dX0_errs_6 : decode cX0_errs 6 = .ok (.iload_n 1, 1) := by decide +kernel
theorem dX0_errs_7 : decode cX0_errs 7 = .ok (.iaload, 1) := by decide +kernel
theorem dX0_errs_8 : decode cX0_errs 8 = .ok (.aload_n 0, 1) := by decide +kernel
theorem dX0_errs_9 : decode cX0_errs 9 = .ok (.getfield 18, 3) := by decide +kernel
theorem dX0_errs_12 : decode cX0_errs 12 = .ok (.iload_n 1, 1) := by decide +kernel
theorem dX0_errs_13 : decode cX0_errs 13 = .ok (.iaload, 1) := by decide +kernel
theorem dX0_errs_14 : decode cX0_errs 14 = .ok (.iload_n 2, 1) := by decide +kernel
theorem dX0_errs_15 : decode cX0_errs 15 = .ok (.invokevirtual 74, 3) := by decide +kernel
theorem dX0_errs_18 : decode cX0_errs 18 = .ok (.ireturn, 1) := by decide +kernel
theorem dX0_meanOf_0 : decode cX0_meanOf 0 = .ok (.iconst 0, 1) := by decide +kernel
theorem dX0_meanOf_1 : decode cX0_meanOf 1 = .ok (.istore_n 3, 1) := by decide +kernel
theorem dX0_meanOf_2 : decode cX0_meanOf 2 = .ok (.iconst 0, 1) := by decide +kernel
theorem dX0_meanOf_3 : decode cX0_meanOf 3 = .ok (.istore 4, 2) := by decide +kernel
theorem dX0_meanOf_5 : decode cX0_meanOf 5 = .ok (.iconst 0, 1) := by decide +kernel
theorem dX0_meanOf_6 : decode cX0_meanOf 6 = .ok (.istore 5, 2) := by decide +kernel
theorem dX0_meanOf_8 : decode cX0_meanOf 8 = .ok (.iload 5, 2) := by decide +kernel
theorem dX0_meanOf_10 : decode cX0_meanOf 10 = .ok (.aload_n 0, 1) := by decide +kernel
theorem dX0_meanOf_11 : decode cX0_meanOf 11 = .ok (.getfield 50, 3) := by decide +kernel
theorem dX0_meanOf_14 : decode cX0_meanOf 14 = .ok (.if_icmp .ge 45, 3) := by decide +kernel
theorem dX0_meanOf_17 : decode cX0_meanOf 17 = .ok (.iload_n 1, 1) := by decide +kernel
theorem dX0_meanOf_18 : decode cX0_meanOf 18 = .ok (.iload 5, 2) := by decide +kernel
theorem dX0_meanOf_20 : decode cX0_meanOf 20 = .ok (.invokestatic 78, 3) := by decide +kernel
theorem dX0_meanOf_23 : decode cX0_meanOf 23 = .ok (.ifCond .eq 30, 3) := by decide +kernel
theorem dX0_meanOf_26 : decode cX0_meanOf 26 = .ok (.iload_n 3, 1) := by decide +kernel
theorem dX0_meanOf_27 : decode cX0_meanOf 27 = .ok (.aload_n 0, 1) := by decide +kernel
theorem dX0_meanOf_28 : decode cX0_meanOf 28 = .ok (.iload 5, 2) := by decide +kernel
theorem dX0_meanOf_30 : decode cX0_meanOf 30 = .ok (.aload_n 0, 1) := by decide +kernel
theorem dX0_meanOf_31 : decode cX0_meanOf 31 = .ok (.getfield 9, 3) := by decide +kernel
theorem dX0_meanOf_34 : decode cX0_meanOf 34 = .ok (.iload 5, 2) := by decide +kernel
theorem dX0_meanOf_36 : decode cX0_meanOf 36 = .ok (.iaload, 1) := by decide +kernel
theorem dX0_meanOf_37 : decode cX0_meanOf 37 = .ok (.aload_n 0, 1) := by decide +kernel
theorem dX0_meanOf_38 : decode cX0_meanOf 38 = .ok (.getfield 18, 3) := by decide +kernel
theorem dX0_meanOf_41 : decode cX0_meanOf 41 = .ok (.iload 5, 2) := by decide +kernel
theorem dX0_meanOf_43 : decode cX0_meanOf 43 = .ok (.iaload, 1) := by decide +kernel
theorem dX0_meanOf_44 : decode cX0_meanOf 44 = .ok (.iload_n 2, 1) := by decide +kernel
theorem dX0_meanOf_45 : decode cX0_meanOf 45 = .ok (.invokevirtual 74, 3) := by decide +kernel
theorem dX0_meanOf_48 : decode cX0_meanOf 48 = .ok (.iadd, 1) := by decide +kernel
theorem dX0_meanOf_49 : decode cX0_meanOf 49 = .ok (.istore_n 3, 1) := by decide +kernel
theorem dX0_meanOf_50 : decode cX0_meanOf 50 = .ok (.iinc 4 1, 3) := by decide +kernel
theorem dX0_meanOf_53 : decode cX0_meanOf 53 = .ok (.iinc 5 1, 3) := by decide +kernel
theorem dX0_meanOf_56 : decode cX0_meanOf 56 = .ok (.goto (-48), 3) := by decide +kernel
theorem dX0_meanOf_59 : decode cX0_meanOf 59 = .ok (.iload 4, 2) := by decide +kernel
theorem dX0_meanOf_61 : decode cX0_meanOf 61 = .ok (.ifCond .ne 7, 3) := by decide +kernel
theorem dX0_meanOf_64 : decode cX0_meanOf 64 = .ok (.iconst 0, 1) := by decide +kernel
theorem dX0_meanOf_65 : decode cX0_meanOf 65 = .ok (.goto 7, 3) := by decide +kernel
theorem dX0_meanOf_68 : decode cX0_meanOf 68 = .ok (.iload_n 3, 1) := by decide +kernel
theorem dX0_meanOf_69 : decode cX0_meanOf 69 = .ok (.iload 4, 2) := by decide +kernel
theorem dX0_meanOf_71 : decode cX0_meanOf 71 = .ok (.idiv, 1) := by decide +kernel
theorem dX0_meanOf_72 : decode cX0_meanOf 72 = .ok (.ireturn, 1) := by decide +kernel
theorem dX0_nextOf_0 : decode cX0_nextOf 0 = .ok (.aload_n 0, 1) := by decide +kernel
theorem dX0_nextOf_1 : decode cX0_nextOf 1 = .ok (.iload_n 2, 1) := by decide +kernel
theorem dX0_nextOf_2 : decode cX0_nextOf 2 = .ok (.aload_n 0, 1) := by decide +kernel
theorem dX0_nextOf_3 : decode cX0_nextOf 3 = .ok (.getfield 24, 3) := by decide +kernel
theorem dX0_nextOf_6 : decode cX0_nextOf 6 = .ok (.iload_n 1, 1) := by decide +kernel
theorem dX0_nextOf_7 : decode cX0_nextOf 7 = .ok (.iaload, 1) := by decide +kernel
theorem dX0_nextOf_8 : decode cX0_nextOf 8 = .ok (.aload_n 0, 1) := by decide +kernel
theorem dX0_nextOf_9 : decode cX0_nextOf 9 = .ok (.aload_n 0, 1) := by decide +kernel
theorem dX0_nextOf_10 : decode cX0_nextOf 10 = .ok (.getfield 27, 3) := by decide +kernel
theorem dX0_nextOf_13 : decode cX0_nextOf 13 = .ok (.iload_n 1, 1) := by decide +kernel
theorem dX0_nextOf_14 : decode cX0_nextOf 14 = .ok (.iaload, 1) := by decide +kernel
theorem dX0_nextOf_15 : decode cX0_nextOf 15 = .ok (.iload_n 3, 1) := by decide +kernel
theorem dX0_nextOf_16 : decode cX0_nextOf 16 = .ok (.invokevirtual 82, 3) := by decide +kernel
theorem dX0_nextOf_19 : decode cX0_nextOf 19 = .ok (.invokestatic 85, 3) := by decide +kernel
theorem dX0_nextOf_22 : decode cX0_nextOf 22 = .ok (.aload_n 0, 1) := by decide +kernel
theorem dX0_nextOf_23 : decode cX0_nextOf 23 = .ok (.getfield 59, 3) := by decide +kernel
theorem dX0_nextOf_26 : decode cX0_nextOf 26 = .ok (.invokevirtual 88, 3) := by decide +kernel
theorem dX0_nextOf_29 : decode cX0_nextOf 29 = .ok (.ireturn, 1) := by decide +kernel
theorem dX0_nextBy_0 : decode cX0_nextBy 0 = .ok (.iload_n 2, 1) := by decide +kernel
theorem dX0_nextBy_1 : decode cX0_nextBy 1 = .ok (.invokestatic 92, 3) := by decide +kernel
theorem dX0_nextBy_4 : decode cX0_nextBy 4 = .ok (.istore 4, 2) := by decide +kernel
theorem dX0_nextBy_6 : decode cX0_nextBy 6 = .ok (.aload_n 0, 1) := by decide +kernel
theorem dX0_nextBy_7 : decode cX0_nextBy 7 = .ok (.getfield 30, 3) := by decide +kernel
theorem dX0_nextBy_10 : decode cX0_nextBy 10 = .ok (.iload_n 1, 1) := by decide +kernel
theorem dX0_nextBy_11 : decode cX0_nextBy 11 = .ok (.baload, 1) := by decide +kernel
theorem dX0_nextBy_12 : decode cX0_nextBy 12 = .ok (.ifCond .ne 9, 3) := by decide +kernel
theorem dX0_nextBy_15 : decode cX0_nextBy 15 = .ok (.iload 4, 2) := by decide +kernel
theorem dX0_nextBy_17 : decode cX0_nextBy 17 = .ok (.iload_n 3, 1) := by decide +kernel
theorem dX0_nextBy_18 : decode cX0_nextBy 18 = .ok (.if_icmp .ne 5, 3) := by decide +kernel
theorem dX0_nextBy_21 : decode cX0_nextBy 21 = .ok (.iload_n 1, 1) := by decide +kernel
theorem dX0_nextBy_22 : decode cX0_nextBy 22 = .ok (.ireturn, 1) := by decide +kernel
theorem dX0_nextBy_23 : decode cX0_nextBy 23 = .ok (.iload_n 1, 1) := by decide +kernel
theorem dX0_nextBy_24 : decode cX0_nextBy 24 = .ok (.iload 4, 2) := by decide +kernel
theorem dX0_nextBy_26 : decode cX0_nextBy 26 = .ok (.invokestatic 96, 3) := by decide +kernel
theorem dX0_nextBy_29 : decode cX0_nextBy 29 = .ok (.ireturn, 1) := by decide +kernel
theorem dX0_cellBehind_0 : decode cX0_cellBehind 0 = .ok (.aload_n 0, 1) := by decide +kernel
theorem dX0_cellBehind_1 : decode cX0_cellBehind 1 = .ok (.getfield 21, 3) := by decide +kernel
theorem dX0_cellBehind_4 : decode cX0_cellBehind 4 = .ok (.iload_n 1, 1) := by decide +kernel
theorem dX0_cellBehind_5 : decode cX0_cellBehind 5 = .ok (.iaload, 1) := by decide +kernel
theorem dX0_cellBehind_6 : decode cX0_cellBehind 6 = .ok (.istore_n 3, 1) := by decide +kernel
theorem dX0_cellBehind_7 : decode cX0_cellBehind 7 = .ok (.iconst 0, 1) := by decide +kernel
theorem dX0_cellBehind_8 : decode cX0_cellBehind 8 = .ok (.istore 4, 2) := by decide +kernel
theorem dX0_cellBehind_10 : decode cX0_cellBehind 10 = .ok (.iload 4, 2) := by decide +kernel
theorem dX0_cellBehind_12 : decode cX0_cellBehind 12 = .ok (.iload_n 2, 1) := by decide +kernel
theorem dX0_cellBehind_13 : decode cX0_cellBehind 13 = .ok (.if_icmp .ge 18, 3) := by decide +kernel
theorem dX0_cellBehind_16 : decode cX0_cellBehind 16 = .ok (.aload_n 0, 1) := by decide +kernel
theorem dX0_cellBehind_17 : decode cX0_cellBehind 17 = .ok (.iload_n 1, 1) := by decide +kernel
theorem dX0_cellBehind_18 : decode cX0_cellBehind 18 = .ok (.iload_n 3, 1) := by decide +kernel
theorem dX0_cellBehind_19 : decode cX0_cellBehind 19 = .ok (.iload 4, 2) := by decide +kernel
theorem dX0_cellBehind_21 : decode cX0_cellBehind 21 = .ok (.invokevirtual 99, 3) := by decide +kernel
theorem dX0_cellBehind_24 : decode cX0_cellBehind 24 = .ok (.istore_n 3, 1) := by decide +kernel
theorem dX0_cellBehind_25 : decode cX0_cellBehind 25 = .ok (.iinc 4 1, 3) := by decide +kernel
theorem dX0_cellBehind_28 : decode cX0_cellBehind 28 = .ok (.goto (-18), 3) := by decide +kernel
theorem dX0_cellBehind_31 : decode cX0_cellBehind 31 = .ok (.iload_n 3, 1) := by decide +kernel
theorem dX0_cellBehind_32 : decode cX0_cellBehind 32 = .ok (.ireturn, 1) := by decide +kernel
theorem dX0_passWatch_0 : decode cX0_passWatch 0 = .ok (.iconst 0, 1) := by decide +kernel
theorem dX0_passWatch_1 : decode cX0_passWatch 1 = .ok (.istore_n 1, 1) := by decide +kernel
theorem dX0_passWatch_2 : decode cX0_passWatch 2 = .ok (.iload_n 1, 1) := by decide +kernel
theorem dX0_passWatch_3 : decode cX0_passWatch 3 = .ok (.iconst 4, 1) := by decide +kernel
theorem dX0_passWatch_4 : decode cX0_passWatch 4 = .ok (.if_icmp .ge 27, 3) := by decide +kernel
theorem dX0_passWatch_7 : decode cX0_passWatch 7 = .ok (.aload_n 0, 1) := by decide +kernel
theorem dX0_passWatch_8 : decode cX0_passWatch 8 = .ok (.getfield 21, 3) := by decide +kernel
theorem dX0_passWatch_11 : decode cX0_passWatch 11 = .ok (.iload_n 1, 1) := by decide +kernel
theorem dX0_passWatch_12 : decode cX0_passWatch 12 = .ok (.aload_n 0, 1) := by decide +kernel
theorem dX0_passWatch_13 : decode cX0_passWatch 13 = .ok (.iload_n 1, 1) := by decide +kernel
theorem dX0_passWatch_14 : decode cX0_passWatch 14 = .ok (.aload_n 0, 1) := by decide +kernel
theorem dX0_passWatch_15 : decode cX0_passWatch 15 = .ok (.getfield 21, 3) := by decide +kernel
theorem dX0_passWatch_18 : decode cX0_passWatch 18 = .ok (.iload_n 1, 1) := by decide +kernel
theorem dX0_passWatch_19 : decode cX0_passWatch 19 = .ok (.iaload, 1) := by decide +kernel
theorem dX0_passWatch_20 : decode cX0_passWatch 20 = .ok (.iconst 0, 1) := by decide +kernel
theorem dX0_passWatch_21 : decode cX0_passWatch 21 = .ok (.invokevirtual 99, 3) := by decide +kernel
theorem dX0_passWatch_24 : decode cX0_passWatch 24 = .ok (.iastore, 1) := by decide +kernel
theorem dX0_passWatch_25 : decode cX0_passWatch 25 = .ok (.iinc 1 1, 3) := by decide +kernel
theorem dX0_passWatch_28 : decode cX0_passWatch 28 = .ok (.goto (-26), 3) := by decide +kernel
theorem dX0_passWatch_31 : decode cX0_passWatch 31 = .ok (.iconst 0, 1) := by decide +kernel
theorem dX0_passWatch_32 : decode cX0_passWatch 32 = .ok (.istore_n 1, 1) := by decide +kernel
theorem dX0_passWatch_33 : decode cX0_passWatch 33 = .ok (.iload_n 1, 1) := by decide +kernel
theorem dX0_passWatch_34 : decode cX0_passWatch 34 = .ok (.aload_n 0, 1) := by decide +kernel
theorem dX0_passWatch_35 : decode cX0_passWatch 35 = .ok (.getfield 50, 3) := by decide +kernel
theorem dX0_passWatch_38 : decode cX0_passWatch 38 = .ok (.if_icmp .ge 28, 3) := by decide +kernel
theorem dX0_passWatch_41 : decode cX0_passWatch 41 = .ok (.aload_n 0, 1) := by decide +kernel
theorem dX0_passWatch_42 : decode cX0_passWatch 42 = .ok (.getfield 15, 3) := by decide +kernel
theorem dX0_passWatch_45 : decode cX0_passWatch 45 = .ok (.iload_n 1, 1) := by decide +kernel
theorem dX0_passWatch_46 : decode cX0_passWatch 46 = .ok (.aload_n 0, 1) := by decide +kernel
theorem dX0_passWatch_47 : decode cX0_passWatch 47 = .ok (.getfield 15, 3) := by decide +kernel
theorem dX0_passWatch_50 : decode cX0_passWatch 50 = .ok (.iload_n 1, 1) := by decide +kernel
theorem dX0_passWatch_51 : decode cX0_passWatch 51 = .ok (.iaload, 1) := by decide +kernel
theorem dX0_passWatch_52 : decode cX0_passWatch 52 = .ok (.iconst 1, 1) := by decide +kernel
theorem dX0_passWatch_53 : decode cX0_passWatch 53 = .ok (.iadd, 1) := by decide +kernel
theorem dX0_passWatch_54 : decode cX0_passWatch 54 = .ok (.bipush 99, 2) := by decide +kernel
theorem dX0_passWatch_56 : decode cX0_passWatch 56 = .ok (.invokestatic 68, 3) := by decide +kernel
theorem dX0_passWatch_59 : decode cX0_passWatch 59 = .ok (.iastore, 1) := by decide +kernel
theorem dX0_passWatch_60 : decode cX0_passWatch 60 = .ok (.iinc 1 1, 3) := by decide +kernel
theorem dX0_passWatch_63 : decode cX0_passWatch 63 = .ok (.goto (-30), 3) := by decide +kernel
theorem dX0_passWatch_66 : decode cX0_passWatch 66 = .ok (.aload_n 0, 1) := by decide +kernel
theorem dX0_passWatch_67 : decode cX0_passWatch 67 = .ok (.dup, 1) := by decide +kernel
theorem dX0_passWatch_68 : decode cX0_passWatch 68 = .ok (.getfield 65, 3) := by decide +kernel
theorem dX0_passWatch_71 : decode cX0_passWatch 71 = .ok (.iconst 1, 1) := by decide +kernel
theorem dX0_passWatch_72 : decode cX0_passWatch 72 = .ok (.iadd, 1) := by decide +kernel
theorem dX0_passWatch_73 : decode cX0_passWatch 73 = .ok (.putfield 65, 3) := by decide +kernel
theorem dX0_passWatch_76 : decode cX0_passWatch 76 = .ok (.return_, 1) := by decide +kernel
theorem dX0_passStorm_0 : decode cX0_passStorm 0 = .ok (.iconst 0, 1) := by decide +kernel
theorem dX0_passStorm_1 : decode cX0_passStorm 1 = .ok (.istore_n 1, 1) := by decide +kernel
theorem dX0_passStorm_2 : decode cX0_passStorm 2 = .ok (.iload_n 1, 1) := by decide +kernel
theorem dX0_passStorm_3 : decode cX0_passStorm 3 = .ok (.iconst 4, 1) := by decide +kernel
theorem dX0_passStorm_4 : decode cX0_passStorm 4 = .ok (.if_icmp .ge 39, 3) := by decide +kernel
theorem dX0_passStorm_7 : decode cX0_passStorm 7 = .ok (.aload_n 0, 1) := by decide +kernel
theorem dX0_passStorm_8 : decode cX0_passStorm 8 = .ok (.iload_n 1, 1) := by decide +kernel
theorem dX0_passStorm_9 : decode cX0_passStorm 9 = .ok (.invokevirtual 102, 3) := by decide +kernel
theorem dX0_passStorm_12 : decode cX0_passStorm 12 = .ok (.ifCond .ne 25, 3) := by decide +kernel
theorem dX0_passStorm_15 : decode cX0_passStorm 15 = .ok (.aload_n 0, 1) := by decide +kernel
theorem dX0_passStorm_16 : decode cX0_passStorm 16 = .ok (.getfield 21, 3) := by decide +kernel
theorem dX0_passStorm_19 : decode cX0_passStorm 19 = .ok (.iload_n 1, 1) := by decide +kernel
theorem dX0_passStorm_20 : decode cX0_passStorm 20 = .ok (.aload_n 0, 1) := by decide +kernel
theorem dX0_passStorm_21 : decode cX0_passStorm 21 = .ok (.getfield 21, 3) := by decide +kernel
theorem dX0_passStorm_24 : decode cX0_passStorm 24 = .ok (.iload_n 1, 1) := by decide +kernel
theorem dX0_passStorm_25 : decode cX0_passStorm 25 = .ok (.iaload, 1) := by decide +kernel
theorem dX0_passStorm_26 : decode cX0_passStorm 26 = .ok (.aload_n 0, 1) := by decide +kernel
theorem dX0_passStorm_27 : decode cX0_passStorm 27 = .ok (.invokevirtual 106, 3) := by decide +kernel
theorem dX0_passStorm_30 : decode cX0_passStorm 30 = .ok (.bipush 8, 2) := by decide +kernel
theorem dX0_passStorm_32 : decode cX0_passStorm 32 = .ok (.irem, 1) := by decide +kernel
theorem dX0_passStorm_33 : decode cX0_passStorm 33 = .ok (.invokestatic 96, 3) := by decide +kernel
theorem dX0_passStorm_36 : decode cX0_passStorm 36 = .ok (.iastore, 1) := by decide +kernel
theorem dX0_passStorm_37 : decode cX0_passStorm 37 = .ok (.iinc 1 1, 3) := by decide +kernel
theorem dX0_passStorm_40 : decode cX0_passStorm 40 = .ok (.goto (-38), 3) := by decide +kernel
theorem dX0_passStorm_43 : decode cX0_passStorm 43 = .ok (.aload_n 0, 1) := by decide +kernel
theorem dX0_passStorm_44 : decode cX0_passStorm 44 = .ok (.invokevirtual 110, 3) := by decide +kernel
theorem dX0_passStorm_47 : decode cX0_passStorm 47 = .ok (.return_, 1) := by decide +kernel
theorem dX0_draw_0 : decode cX0_draw 0 = .ok (.aload_n 0, 1) := by decide +kernel
theorem dX0_draw_1 : decode cX0_draw 1 = .ok (.aload_n 0, 1) := by decide +kernel
theorem dX0_draw_2 : decode cX0_draw 2 = .ok (.getfield 38, 3) := by decide +kernel
theorem dX0_draw_5 : decode cX0_draw 5 = .ok (.ldc 113, 2) := by decide +kernel
theorem dX0_draw_7 : decode cX0_draw 7 = .ok (.imul, 1) := by decide +kernel
theorem dX0_draw_8 : decode cX0_draw 8 = .ok (.sipush 12345, 3) := by decide +kernel
theorem dX0_draw_11 : decode cX0_draw 11 = .ok (.iadd, 1) := by decide +kernel
theorem dX0_draw_12 : decode cX0_draw 12 = .ok (.putfield 38, 3) := by decide +kernel
theorem dX0_draw_15 : decode cX0_draw 15 = .ok (.aload_n 0, 1) := by decide +kernel
theorem dX0_draw_16 : decode cX0_draw 16 = .ok (.getfield 38, 3) := by decide +kernel
theorem dX0_draw_19 : decode cX0_draw 19 = .ok (.bipush 8, 2) := by decide +kernel
theorem dX0_draw_21 : decode cX0_draw 21 = .ok (.iushr, 1) := by decide +kernel
theorem dX0_draw_22 : decode cX0_draw 22 = .ok (.ireturn, 1) := by decide +kernel
theorem dX0_drivesThatLand_0 : decode cX0_drivesThatLand 0 = .ok (.aload_n 0, 1) := by decide +kernel
theorem dX0_drivesThatLand_1 : decode cX0_drivesThatLand 1 = .ok (.iload_n 1, 1) := by decide +kernel
theorem dX0_drivesThatLand_2 : decode cX0_drivesThatLand 2 = .ok (.invokevirtual 102, 3) := by decide +kernel
theorem dX0_drivesThatLand_5 : decode cX0_drivesThatLand 5 = .ok (.ifCond .eq 6, 3) := by decide +kernel
theorem dX0_drivesThatLand_8 : decode cX0_drivesThatLand 8 = .ok (.bipush 8, 2) := by decide +kernel
theorem dX0_drivesThatLand_10 : decode cX0_drivesThatLand 10 = .ok (.ireturn, 1) := by decide +kernel
theorem dX0_drivesThatLand_11 : decode cX0_drivesThatLand 11 = .ok (.iconst 0, 1) := by decide +kernel
theorem dX0_drivesThatLand_12 : decode cX0_drivesThatLand 12 = .ok (.istore_n 2, 1) := by decide +kernel
theorem dX0_drivesThatLand_13 : decode cX0_drivesThatLand 13 = .ok (.iconst 0, 1) := by decide +kernel
theorem dX0_drivesThatLand_14 : decode cX0_drivesThatLand 14 = .ok (.istore_n 3, 1) := by decide +kernel
theorem dX0_drivesThatLand_15 : decode cX0_drivesThatLand 15 = .ok (.iload_n 3, 1) := by decide +kernel
theorem dX0_drivesThatLand_16 : decode cX0_drivesThatLand 16 = .ok (.bipush 8, 2) := by decide +kernel
theorem dX0_drivesThatLand_18 : decode cX0_drivesThatLand 18 = .ok (.if_icmp .ge 30, 3) := by decide +kernel
theorem dX0_drivesThatLand_21 : decode cX0_drivesThatLand 21 = .ok (.aload_n 0, 1) := by decide +kernel
theorem dX0_drivesThatLand_22 : decode cX0_drivesThatLand 22 = .ok (.getfield 30, 3) := by decide +kernel
theorem dX0_drivesThatLand_25 : decode cX0_drivesThatLand 25 = .ok (.aload_n 0, 1) := by decide +kernel
theorem dX0_drivesThatLand_26 : decode cX0_drivesThatLand 26 = .ok (.getfield 21, 3) := by decide +kernel
theorem dX0_drivesThatLand_29 : decode cX0_drivesThatLand 29 = .ok (.iload_n 1, 1) := by decide +kernel
theorem dX0_drivesThatLand_30 : decode cX0_drivesThatLand 30 = .ok (.iaload, 1) := by decide +kernel
theorem dX0_drivesThatLand_31 : decode cX0_drivesThatLand 31 = .ok (.iload_n 3, 1) := by decide +kernel
theorem dX0_drivesThatLand_32 : decode cX0_drivesThatLand 32 = .ok (.invokestatic 96, 3) := by decide +kernel
theorem dX0_drivesThatLand_35 : decode cX0_drivesThatLand 35 = .ok (.baload, 1) := by decide +kernel
theorem dX0_drivesThatLand_36 : decode cX0_drivesThatLand 36 = .ok (.ifCond .eq 6, 3) := by decide +kernel
theorem dX0_drivesThatLand_39 : decode cX0_drivesThatLand 39 = .ok (.iinc 2 1, 3) := by decide +kernel
theorem dX0_drivesThatLand_42 : decode cX0_drivesThatLand 42 = .ok (.iinc 3 1, 3) := by decide +kernel
theorem dX0_drivesThatLand_45 : decode cX0_drivesThatLand 45 = .ok (.goto (-30), 3) := by decide +kernel
theorem dX0_drivesThatLand_48 : decode cX0_drivesThatLand 48 = .ok (.iload_n 2, 1) := by decide +kernel
theorem dX0_drivesThatLand_49 : decode cX0_drivesThatLand 49 = .ok (.ireturn, 1) := by decide +kernel
theorem dX0_isLanded_0 : decode cX0_isLanded 0 = .ok (.aload_n 0, 1) := by decide +kernel
theorem dX0_isLanded_1 : decode cX0_isLanded 1 = .ok (.getfield 30, 3) := by decide +kernel
theorem dX0_isLanded_4 : decode cX0_isLanded 4 = .ok (.aload_n 0, 1) := by decide +kernel
theorem dX0_isLanded_5 : decode cX0_isLanded 5 = .ok (.getfield 21, 3) := by decide +kernel
theorem dX0_isLanded_8 : decode cX0_isLanded 8 = .ok (.iload_n 1, 1) := by decide +kernel
theorem dX0_isLanded_9 : decode cX0_isLanded 9 = .ok (.iaload, 1) := by decide +kernel
theorem dX0_isLanded_10 : decode cX0_isLanded 10 = .ok (.baload, 1) := by decide +kernel
theorem dX0_isLanded_11 : decode cX0_isLanded 11 = .ok (.ireturn, 1) := by decide +kernel
theorem dX0_landedShips_0 : decode cX0_landedShips 0 = .ok (.iconst 0, 1) := by decide +kernel
theorem dX0_landedShips_1 : decode cX0_landedShips 1 = .ok (.istore_n 1, 1) := by decide +kernel
theorem dX0_landedShips_2 : decode cX0_landedShips 2 = .ok (.iconst 0, 1) := by decide +kernel
theorem dX0_landedShips_3 : decode cX0_landedShips 3 = .ok (.istore_n 2, 1) := by decide +kernel
theorem dX0_landedShips_4 : decode cX0_landedShips 4 = .ok (.iload_n 2, 1) := by decide +kernel
theorem dX0_landedShips_5 : decode cX0_landedShips 5 = .ok (.iconst 4, 1) := by decide +kernel
theorem dX0_landedShips_6 : decode cX0_landedShips 6 = .ok (.if_icmp .ge 23, 3) := by decide +kernel
theorem dX0_landedShips_9 : decode cX0_landedShips 9 = .ok (.aload_n 0, 1) := by decide +kernel
theorem dX0_landedShips_10 : decode cX0_landedShips 10 = .ok (.iload_n 2, 1) := by decide +kernel
theorem dX0_landedShips_11 : decode cX0_landedShips 11 = .ok (.invokevirtual 102, 3) := by decide +kernel
theorem dX0_landedShips_14 : decode cX0_landedShips 14 = .ok (.ifCond .eq 9, 3) := by decide +kernel
theorem dX0_landedShips_17 : decode cX0_landedShips 17 = .ok (.iload_n 1, 1) := by decide +kernel
theorem dX0_landedShips_18 : decode cX0_landedShips 18 = .ok (.iconst 1, 1) := by decide +kernel
theorem dX0_landedShips_19 : decode cX0_landedShips 19 = .ok (.iload_n 2, 1) := by decide +kernel
theorem dX0_landedShips_20 : decode cX0_landedShips 20 = .ok (.ishl, 1) := by decide +kernel
theorem dX0_landedShips_21 : decode cX0_landedShips 21 = .ok (.ior, 1) := by decide +kernel
theorem dX0_landedShips_22 : decode cX0_landedShips 22 = .ok (.istore_n 1, 1) := by decide +kernel
theorem dX0_landedShips_23 : decode cX0_landedShips 23 = .ok (.iinc 2 1, 3) := by decide +kernel
theorem dX0_landedShips_26 : decode cX0_landedShips 26 = .ok (.goto (-22), 3) := by decide +kernel
theorem dX0_landedShips_29 : decode cX0_landedShips 29 = .ok (.iload_n 1, 1) := by decide +kernel
theorem dX0_landedShips_30 : decode cX0_landedShips 30 = .ok (.ireturn, 1) := by decide +kernel
theorem dX0_fedIn_0 : decode cX0_fedIn 0 = .ok (.iload_n 2, 1) := by decide +kernel
theorem dX0_fedIn_1 : decode cX0_fedIn 1 = .ok (.iconst 1, 1) := by decide +kernel
theorem dX0_fedIn_2 : decode cX0_fedIn 2 = .ok (.if_icmp .ge 5, 3) := by decide +kernel
theorem dX0_fedIn_5 : decode cX0_fedIn 5 = .ok (.iconst 0, 1) := by decide +kernel
theorem dX0_fedIn_6 : decode cX0_fedIn 6 = .ok (.ireturn, 1) := by decide +kernel
theorem dX0_fedIn_7 : decode cX0_fedIn 7 = .ok (.iconst 0, 1) := by decide +kernel
theorem dX0_fedIn_8 : decode cX0_fedIn 8 = .ok (.istore_n 3, 1) := by decide +kernel
theorem dX0_fedIn_9 : decode cX0_fedIn 9 = .ok (.iconst 0, 1) := by decide +kernel
theorem dX0_fedIn_10 : decode cX0_fedIn 10 = .ok (.istore 4, 2) := by decide +kernel
theorem dX0_fedIn_12 : decode cX0_fedIn 12 = .ok (.iload 4, 2) := by decide +kernel
theorem dX0_fedIn_14 : decode cX0_fedIn 14 = .ok (.aload_n 0, 1) := by decide +kernel
theorem dX0_fedIn_15 : decode cX0_fedIn 15 = .ok (.getfield 50, 3) := by decide +kernel
theorem dX0_fedIn_18 : decode cX0_fedIn 18 = .ok (.if_icmp .ge 43, 3) := by decide +kernel
theorem dX0_fedIn_21 : decode cX0_fedIn 21 = .ok (.iload_n 2, 1) := by decide +kernel
theorem dX0_fedIn_22 : decode cX0_fedIn 22 = .ok (.aload_n 0, 1) := by decide +kernel
theorem dX0_fedIn_23 : decode cX0_fedIn 23 = .ok (.getfield 15, 3) := by decide +kernel
theorem dX0_fedIn_26 : decode cX0_fedIn 26 = .ok (.iload 4, 2) := by decide +kernel
theorem dX0_fedIn_28 : decode cX0_fedIn 28 = .ok (.iaload, 1) := by decide +kernel
theorem dX0_fedIn_29 : decode cX0_fedIn 29 = .ok (.isub, 1) := by decide +kernel
theorem dX0_fedIn_30 : decode cX0_fedIn 30 = .ok (.iconst 0, 1) := by decide +kernel
theorem dX0_fedIn_31 : decode cX0_fedIn 31 = .ok (.invokestatic 114, 3) := by decide +kernel
theorem dX0_fedIn_34 : decode cX0_fedIn 34 = .ok (.istore 5, 2) := by decide +kernel
theorem dX0_fedIn_36 : decode cX0_fedIn 36 = .ok (.iload 5, 2) := by decide +kernel
theorem dX0_fedIn_38 : decode cX0_fedIn 38 = .ok (.iload_n 1, 1) := by decide +kernel
theorem dX0_fedIn_39 : decode cX0_fedIn 39 = .ok (.if_icmp .ge 16, 3) := by decide +kernel
theorem dX0_fedIn_42 : decode cX0_fedIn 42 = .ok (.iload_n 3, 1) := by decide +kernel
theorem dX0_fedIn_43 : decode cX0_fedIn 43 = .ok (.iconst 1, 1) := by decide +kernel
theorem dX0_fedIn_44 : decode cX0_fedIn 44 = .ok (.iload_n 1, 1) := by decide +kernel
theorem dX0_fedIn_45 : decode cX0_fedIn 45 = .ok (.iconst 1, 1) := by decide +kernel
theorem dX0_fedIn_46 : decode cX0_fedIn 46 = .ok (.isub, 1) := by decide +kernel
theorem dX0_fedIn_47 : decode cX0_fedIn 47 = .ok (.iload 5, 2) := by decide +kernel
theorem dX0_fedIn_49 : decode cX0_fedIn 49 = .ok (.isub, 1) := by decide +kernel
theorem dX0_fedIn_50 : decode cX0_fedIn 50 = .ok (.iload_n 2, 1) := by decide +kernel
theorem dX0_fedIn_51 : decode cX0_fedIn 51 = .ok (.idiv, 1) := by decide +kernel
theorem dX0_fedIn_52 : decode cX0_fedIn 52 = .ok (.iadd, 1) := by decide +kernel
theorem dX0_fedIn_53 : decode cX0_fedIn 53 = .ok (.iadd, 1) := by decide +kernel
theorem dX0_fedIn_54 : decode cX0_fedIn 54 = .ok (.istore_n 3, 1) := by decide +kernel
theorem dX0_fedIn_55 : decode cX0_fedIn 55 = .ok (.iinc 4 1, 3) := by decide +kernel
theorem dX0_fedIn_58 : decode cX0_fedIn 58 = .ok (.goto (-46), 3) := by decide +kernel
theorem dX0_fedIn_61 : decode cX0_fedIn 61 = .ok (.iload_n 3, 1) := by decide +kernel
theorem dX0_fedIn_62 : decode cX0_fedIn 62 = .ok (.ireturn, 1) := by decide +kernel
theorem dX0_greatestHunger_0 : decode cX0_greatestHunger 0 = .ok (.iconst 0, 1) := by decide +kernel
theorem dX0_greatestHunger_1 : decode cX0_greatestHunger 1 = .ok (.istore_n 1, 1) := by decide +kernel
theorem dX0_greatestHunger_2 : decode cX0_greatestHunger 2 = .ok (.iconst 0, 1) := by decide +kernel
theorem dX0_greatestHunger_3 : decode cX0_greatestHunger 3 = .ok (.istore_n 2, 1) := by decide +kernel
theorem dX0_greatestHunger_4 : decode cX0_greatestHunger 4 = .ok (.iload_n 2, 1) := by decide +kernel
theorem dX0_greatestHunger_5 : decode cX0_greatestHunger 5 = .ok (.aload_n 0, 1) := by decide +kernel
theorem dX0_greatestHunger_6 : decode cX0_greatestHunger 6 = .ok (.getfield 50, 3) := by decide +kernel
theorem dX0_greatestHunger_9 : decode cX0_greatestHunger 9 = .ok (.if_icmp .ge 20, 3) := by decide +kernel
theorem dX0_greatestHunger_12 : decode cX0_greatestHunger 12 = .ok (.iload_n 1, 1) := by decide +kernel
theorem dX0_greatestHunger_13 : decode cX0_greatestHunger 13 = .ok (.aload_n 0, 1) := by decide +kernel
theorem dX0_greatestHunger_14 : decode cX0_greatestHunger 14 = .ok (.getfield 15, 3) := by decide +kernel
theorem dX0_greatestHunger_17 : decode cX0_greatestHunger 17 = .ok (.iload_n 2, 1) := by decide +kernel
theorem dX0_greatestHunger_18 : decode cX0_greatestHunger 18 = .ok (.iaload, 1) := by decide +kernel
theorem dX0_greatestHunger_19 : decode cX0_greatestHunger 19 = .ok (.invokestatic 114, 3) := by decide +kernel
theorem dX0_greatestHunger_22 : decode cX0_greatestHunger 22 = .ok (.istore_n 1, 1) := by decide +kernel
theorem dX0_greatestHunger_23 : decode cX0_greatestHunger 23 = .ok (.iinc 2 1, 3) := by decide +kernel
theorem dX0_greatestHunger_26 : decode cX0_greatestHunger 26 = .ok (.goto (-22), 3) := by decide +kernel
theorem dX0_greatestHunger_29 : decode cX0_greatestHunger 29 = .ok (.iload_n 1, 1) := by decide +kernel
theorem dX0_greatestHunger_30 : decode cX0_greatestHunger 30 = .ok (.ireturn, 1) := by decide +kernel
theorem dX0_hungerOfAll_0 : decode cX0_hungerOfAll 0 = .ok (.iconst 0, 1) := by decide +kernel
theorem dX0_hungerOfAll_1 : decode cX0_hungerOfAll 1 = .ok (.istore_n 1, 1) := by decide +kernel
theorem dX0_hungerOfAll_2 : decode cX0_hungerOfAll 2 = .ok (.iconst 0, 1) := by decide +kernel
theorem dX0_hungerOfAll_3 : decode cX0_hungerOfAll 3 = .ok (.istore_n 2, 1) := by decide +kernel
theorem dX0_hungerOfAll_4 : decode cX0_hungerOfAll 4 = .ok (.iload_n 2, 1) := by decide +kernel
theorem dX0_hungerOfAll_5 : decode cX0_hungerOfAll 5 = .ok (.aload_n 0, 1) := by decide +kernel
theorem dX0_hungerOfAll_6 : decode cX0_hungerOfAll 6 = .ok (.getfield 50, 3) := by decide +kernel
theorem dX0_hungerOfAll_9 : decode cX0_hungerOfAll 9 = .ok (.if_icmp .ge 18, 3) := by decide +kernel
theorem dX0_hungerOfAll_12 : decode cX0_hungerOfAll 12 = .ok (.iload_n 1, 1) := by decide +kernel
theorem dX0_hungerOfAll_13 : decode cX0_hungerOfAll 13 = .ok (.aload_n 0, 1) := by decide +kernel
theorem dX0_hungerOfAll_14 : decode cX0_hungerOfAll 14 = .ok (.getfield 15, 3) := by decide +kernel
theorem dX0_hungerOfAll_17 : decode cX0_hungerOfAll 17 = .ok (.iload_n 2, 1) := by decide +kernel
theorem dX0_hungerOfAll_18 : decode cX0_hungerOfAll 18 = .ok (.iaload, 1) := by decide +kernel
theorem dX0_hungerOfAll_19 : decode cX0_hungerOfAll 19 = .ok (.iadd, 1) := by decide +kernel
theorem dX0_hungerOfAll_20 : decode cX0_hungerOfAll 20 = .ok (.istore_n 1, 1) := by decide +kernel
theorem dX0_hungerOfAll_21 : decode cX0_hungerOfAll 21 = .ok (.iinc 2 1, 3) := by decide +kernel
theorem dX0_hungerOfAll_24 : decode cX0_hungerOfAll 24 = .ok (.goto (-20), 3) := by decide +kernel
theorem dX0_hungerOfAll_27 : decode cX0_hungerOfAll 27 = .ok (.iload_n 1, 1) := by decide +kernel
theorem dX0_hungerOfAll_28 : decode cX0_hungerOfAll 28 = .ok (.ireturn, 1) := by decide +kernel
theorem dX0_islands_0 : decode cX0_islands 0 = .ok (.iconst 0, 1) := by decide +kernel
theorem dX0_islands_1 : decode cX0_islands 1 = .ok (.istore_n 1, 1) := by decide +kernel
theorem dX0_islands_2 : decode cX0_islands 2 = .ok (.iconst 0, 1) := by decide +kernel
theorem dX0_islands_3 : decode cX0_islands 3 = .ok (.istore_n 2, 1) := by decide +kernel
theorem dX0_islands_4 : decode cX0_islands 4 = .ok (.iload_n 2, 1) := by decide +kernel
theorem dX0_islands_5 : decode cX0_islands 5 = .ok (.bipush 100, 2) := by decide +kernel
theorem dX0_islands_7 : decode cX0_islands 7 = .ok (.if_icmp .ge 21, 3) := by decide +kernel
theorem dX0_islands_10 : decode cX0_islands 10 = .ok (.aload_n 0, 1) := by decide +kernel
theorem dX0_islands_11 : decode cX0_islands 11 = .ok (.getfield 30, 3) := by decide +kernel
theorem dX0_islands_14 : decode cX0_islands 14 = .ok (.iload_n 2, 1) := by decide +kernel
theorem dX0_islands_15 : decode cX0_islands 15 = .ok (.baload, 1) := by decide +kernel
theorem dX0_islands_16 : decode cX0_islands 16 = .ok (.ifCond .eq 6, 3) := by decide +kernel
theorem dX0_islands_19 : decode cX0_islands 19 = .ok (.iinc 1 1, 3) := by decide +kernel
theorem dX0_islands_22 : decode cX0_islands 22 = .ok (.iinc 2 1, 3) := by decide +kernel
theorem dX0_islands_25 : decode cX0_islands 25 = .ok (.goto (-21), 3) := by decide +kernel
theorem dX0_islands_28 : decode cX0_islands 28 = .ok (.iload_n 1, 1) := by decide +kernel
theorem dX0_islands_29 : decode cX0_islands 29 = .ok (.ireturn, 1) := by decide +kernel
theorem dX0_spotsHeld_0 : decode cX0_spotsHeld 0 = .ok (.iconst 0, 1) := by decide +kernel
theorem dX0_spotsHeld_1 : decode cX0_spotsHeld 1 = .ok (.istore_n 1, 1) := by decide +kernel
theorem dX0_spotsHeld_2 : decode cX0_spotsHeld 2 = .ok (.iconst 0, 1) := by decide +kernel
theorem dX0_spotsHeld_3 : decode cX0_spotsHeld 3 = .ok (.istore_n 2, 1) := by decide +kernel
theorem dX0_spotsHeld_4 : decode cX0_spotsHeld 4 = .ok (.iload_n 2, 1) := by decide +kernel
theorem dX0_spotsHeld_5 : decode cX0_spotsHeld 5 = .ok (.bipush 10, 2) := by decide +kernel
theorem dX0_spotsHeld_7 : decode cX0_spotsHeld 7 = .ok (.if_icmp .ge 21, 3) := by decide +kernel
theorem dX0_spotsHeld_10 : decode cX0_spotsHeld 10 = .ok (.aload_n 0, 1) := by decide +kernel
theorem dX0_spotsHeld_11 : decode cX0_spotsHeld 11 = .ok (.getfield 41, 3) := by decide +kernel
theorem dX0_spotsHeld_14 : decode cX0_spotsHeld 14 = .ok (.iload_n 2, 1) := by decide +kernel
theorem dX0_spotsHeld_15 : decode cX0_spotsHeld 15 = .ok (.iaload, 1) := by decide +kernel
theorem dX0_spotsHeld_16 : decode cX0_spotsHeld 16 = .ok (.ifCond .lt 6, 3) := by decide +kernel
theorem dX0_spotsHeld_19 : decode cX0_spotsHeld 19 = .ok (.iinc 1 1, 3) := by decide +kernel
theorem dX0_spotsHeld_22 : decode cX0_spotsHeld 22 = .ok (.iinc 2 1, 3) := by decide +kernel
theorem dX0_spotsHeld_25 : decode cX0_spotsHeld 25 = .ok (.goto (-21), 3) := by decide +kernel
theorem dX0_spotsHeld_28 : decode cX0_spotsHeld 28 = .ok (.iload_n 1, 1) := by decide +kernel
theorem dX0_spotsHeld_29 : decode cX0_spotsHeld 29 = .ok (.ireturn, 1) := by decide +kernel
theorem dX1_init_0 : decode cX1_init 0 = .ok (.aload_n 0, 1) := by decide +kernel
theorem dX1_init_1 : decode cX1_init 1 = .ok (.invokespecial 3, 3) := by decide +kernel
theorem dX1_init_4 : decode cX1_init 4 = .ok (.aload_n 0, 1) := by decide +kernel
theorem dX1_init_5 : decode cX1_init 5 = .ok (.bipush 121, 2) := by decide +kernel
theorem dX1_init_7 : decode cX1_init 7 = .ok (.newarray .int, 2) := by decide +kernel
theorem dX1_init_9 : decode cX1_init 9 = .ok (.putfield 9, 3) := by decide +kernel
theorem dX1_init_12 : decode cX1_init 12 = .ok (.aload_n 0, 1) := by decide +kernel
theorem dX1_init_13 : decode cX1_init 13 = .ok (.bipush 121, 2) := by decide +kernel
theorem dX1_init_15 : decode cX1_init 15 = .ok (.newarray .int, 2) := by decide +kernel
theorem dX1_init_17 : decode cX1_init 17 = .ok (.putfield 15, 3) := by decide +kernel
theorem dX1_init_20 : decode cX1_init 20 = .ok (.aload_n 0, 1) := by decide +kernel
theorem dX1_init_21 : decode cX1_init 21 = .ok (.bipush 121, 2) := by decide +kernel
theorem dX1_init_23 : decode cX1_init 23 = .ok (.newarray .int, 2) := by decide +kernel
theorem dX1_init_25 : decode cX1_init 25 = .ok (.putfield 18, 3) := by decide +kernel
theorem dX1_init_28 : decode cX1_init 28 = .ok (.return_, 1) := by decide +kernel
theorem dX1_scan_0 : decode cX1_scan 0 = .ok (.aload_n 0, 1) := by decide +kernel
theorem dX1_scan_1 : decode cX1_scan 1 = .ok (.iconst 0, 1) := by decide +kernel
theorem dX1_scan_2 : decode cX1_scan 2 = .ok (.putfield 21, 3) := by decide +kernel
theorem dX1_scan_5 : decode cX1_scan 5 = .ok (.iconst 0, 1) := by decide +kernel
theorem dX1_scan_6 : decode cX1_scan 6 = .ok (.istore_n 2, 1) := by decide +kernel
theorem dX1_scan_7 : decode cX1_scan 7 = .ok (.iconst 0, 1) := by decide +kernel
theorem dX1_scan_8 : decode cX1_scan 8 = .ok (.istore_n 3, 1) := by decide +kernel
theorem dX1_scan_9 : decode cX1_scan 9 = .ok (.iload_n 3, 1) := by decide +kernel
theorem dX1_scan_10 : decode cX1_scan 10 = .ok (.bipush 120, 2) := by decide +kernel
theorem dX1_scan_12 : decode cX1_scan 12 = .ok (.if_icmp .ge 51, 3) := by decide +kernel
theorem dX1_scan_15 : decode cX1_scan 15 = .ok (.iload_n 2, 1) := by decide +kernel
theorem dX1_scan_16 : decode cX1_scan 16 = .ok (.aload_n 1, 1) := by decide +kernel
theorem dX1_scan_17 : decode cX1_scan 17 = .ok (.getfield 25, 3) := by decide +kernel
theorem dX1_scan_20 : decode cX1_scan 20 = .ok (.if_icmp .ge 43, 3) := by decide +kernel
theorem dX1_scan_23 : decode cX1_scan 23 = .ok (.aload_n 1, 1) := by decide +kernel
theorem dX1_scan_24 : decode cX1_scan 24 = .ok (.getfield 30, 3) := by decide +kernel
theorem dX1_scan_27 : decode cX1_scan 27 = .ok (.iload_n 2, 1) := by decide +kernel
theorem dX1_scan_28 : decode cX1_scan 28 = .ok (.iaload, 1) := by decide +kernel
theorem dX1_scan_29 : decode cX1_scan 29 = .ok (.bipush 32, 2) := by decide +kernel
theorem dX1_scan_31 : decode cX1_scan 31 = .ok (.if_icmp .ne 9, 3) := by decide +kernel
theorem dX1_scan_34 : decode cX1_scan 34 = .ok (.iinc 2 1, 3) := by decide +kernel
theorem dX1_scan_37 : decode cX1_scan 37 = .ok (.goto 20, 3) := by decide +kernel
theorem dX1_scan_40 : decode cX1_scan 40 = .ok (.aload_n 0, 1) := by decide +kernel
theorem dX1_scan_41 : decode cX1_scan 41 = .ok (.aload_n 1, 1) := by decide +kernel
theorem dX1_scan_42 : decode cX1_scan 42 = .ok (.iload_n 2, 1) := by decide +kernel
theorem dX1_scan_43 : decode cX1_scan 43 = .ok (.invokevirtual 33, 3) := by decide +kernel
theorem dX1_scan_46 : decode cX1_scan 46 = .ok (.istore_n 2, 1) := by decide +kernel
theorem dX1_scan_47 : decode cX1_scan 47 = .ok (.aload_n 0, 1) := by decide +kernel
theorem dX1_scan_48 : decode cX1_scan 48 = .ok (.dup, 1) := by decide +kernel
theorem dX1_scan_49 : decode cX1_scan 49 = .ok (.getfield 21, 3) := by decide +kernel
theorem dX1_scan_52 : decode cX1_scan 52 = .ok (.iconst 1, 1) := by decide +kernel
theorem dX1_scan_53 : decode cX1_scan 53 = .ok (.iadd, 1) := by decide +kernel
theorem dX1_scan_54 : decode cX1_scan 54 = .ok (.putfield 21, 3) := by decide +kernel
theorem dX1_scan_57 : decode cX1_scan 57 = .ok (.iinc 3 1, 3) := by decide +kernel
theorem dX1_scan_60 : decode cX1_scan 60 = .ok (.goto (-51), 3) := by decide +kernel
theorem dX1_scan_63 : decode cX1_scan 63 = .ok (.aload_n 0, 1) := by decide +kernel
theorem dX1_scan_64 : decode cX1_scan 64 = .ok (.getfield 9, 3) := by decide +kernel
theorem dX1_scan_67 : decode cX1_scan 67 = .ok (.aload_n 0, 1) := by decide +kernel
theorem dX1_scan_68 : decode cX1_scan 68 = .ok (.getfield 21, 3) := by decide +kernel
theorem dX1_scan_71 : decode cX1_scan 71 = .ok (.bipush 20, 2) := by decide +kernel
theorem dX1_scan_73 : decode cX1_scan 73 = .ok (.iastore, 1) := by decide +kernel
theorem dX1_scan_74 : decode cX1_scan 74 = .ok (.aload_n 0, 1) := by decide +kernel
theorem dX1_scan_75 : decode cX1_scan 75 = .ok (.getfield 15, 3) := by decide +kernel
theorem dX1_scan_78 : decode cX1_scan 78 = .ok (.aload_n 0, 1) := by decide +kernel
theorem dX1_scan_79 : decode cX1_scan 79 = .ok (.getfield 21, 3) := by decide +kernel
theorem dX1_scan_82 : decode cX1_scan 82 = .ok (.aload_n 1, 1) := by decide +kernel
theorem dX1_scan_83 : decode cX1_scan 83 = .ok (.getfield 25, 3) := by decide +kernel
theorem dX1_scan_86 : decode cX1_scan 86 = .ok (.iastore, 1) := by decide +kernel
theorem dX1_scan_87 : decode cX1_scan 87 = .ok (.return_, 1) := by decide +kernel
theorem dX1_takeToken_0 : decode cX1_takeToken 0 = .ok (.aload_n 0, 1) := by decide +kernel
theorem dX1_takeToken_1 : decode cX1_takeToken 1 = .ok (.getfield 15, 3) := by decide +kernel
theorem dX1_takeToken_4 : decode cX1_takeToken 4 = .ok (.aload_n 0, 1) := by decide +kernel
theorem dX1_takeToken_5 : decode cX1_takeToken 5 = .ok (.getfield 21, 3) := by decide +kernel
theorem dX1_takeToken_8 : decode cX1_takeToken 8 = .ok (.iload_n 2, 1) := by decide +kernel
theorem dX1_takeToken_9 : decode cX1_takeToken 9 = .ok (.iastore, 1) := by decide +kernel
theorem dX1_takeToken_10 : decode cX1_takeToken 10 = .ok (.aload_n 1, 1) := by decide +kernel
theorem dX1_takeToken_11 : decode cX1_takeToken 11 = .ok (.iload_n 2, 1) := by decide +kernel
theorem dX1_takeToken_12 : decode cX1_takeToken 12 = .ok (.bipush 97, 2) := by decide +kernel
theorem dX1_takeToken_14 : decode cX1_takeToken 14 = .ok (.bipush 122, 2) := by decide +kernel
theorem dX1_takeToken_16 : decode cX1_takeToken 16 = .ok (.invokevirtual 37, 3) := by decide +kernel
theorem dX1_takeToken_19 : decode cX1_takeToken 19 = .ok (.istore_n 3, 1) := by decide +kernel
theorem dX1_takeToken_20 : decode cX1_takeToken 20 = .ok (.iload_n 3, 1) := by decide +kernel
theorem dX1_takeToken_21 : decode cX1_takeToken 21 = .ok (.iload_n 2, 1) := by decide +kernel
theorem dX1_takeToken_22 : decode cX1_takeToken 22 = .ok (.if_icmp .le 20, 3) := by decide +kernel
theorem dX1_takeToken_25 : decode cX1_takeToken 25 = .ok (.aload_n 0, 1) := by decide +kernel
theorem dX1_takeToken_26 : decode cX1_takeToken 26 = .ok (.getfield 9, 3) := by decide +kernel
theorem dX1_takeToken_29 : decode cX1_takeToken 29 = .ok (.aload_n 0, 1) := by decide +kernel
theorem dX1_takeToken_30 : decode cX1_takeToken 30 = .ok (.getfield 21, 3) := by decide +kernel
theorem dX1_takeToken_33 : decode cX1_takeToken 33 = .ok (.aload_n 1, 1) := by decide +kernel
theorem dX1_takeToken_34 : decode cX1_takeToken 34 = .ok (.iload_n 2, 1) := by decide +kernel
theorem dX1_takeToken_35 : decode cX1_takeToken 35 = .ok (.iload_n 3, 1) := by decide +kernel
theorem dX1_takeToken_36 : decode cX1_takeToken 36 = .ok (.invokestatic 41, 3) := by decide +kernel
theorem dX1_takeToken_39 : decode cX1_takeToken 39 = .ok (.iastore, 1) := by decide +kernel
theorem dX1_takeToken_40 : decode cX1_takeToken 40 = .ok (.iload_n 3, 1) := by decide +kernel
theorem dX1_takeToken_41 : decode cX1_takeToken 41 = .ok (.ireturn, 1) := by decide +kernel
theorem dX1_takeToken_42 : decode cX1_takeToken 42 = .ok (.aload_n 1, 1) := by decide +kernel
theorem dX1_takeToken_43 : decode cX1_takeToken 43 = .ok (.iload_n 2, 1) := by decide +kernel
theorem dX1_takeToken_44 : decode cX1_takeToken 44 = .ok (.bipush 48, 2) := by decide +kernel
theorem dX1_takeToken_46 : decode cX1_takeToken 46 = .ok (.bipush 57, 2) := by decide +kernel
theorem dX1_takeToken_48 : decode cX1_takeToken 48 = .ok (.invokevirtual 37, 3) := by decide +kernel
theorem dX1_takeToken_51 : decode cX1_takeToken 51 = .ok (.istore_n 3, 1) := by decide +kernel
theorem dX1_takeToken_52 : decode cX1_takeToken 52 = .ok (.iload_n 3, 1) := by decide +kernel
theorem dX1_takeToken_53 : decode cX1_takeToken 53 = .ok (.iload_n 2, 1) := by decide +kernel
theorem dX1_takeToken_54 : decode cX1_takeToken 54 = .ok (.if_icmp .le 31, 3) := by decide +kernel
theorem dX1_takeToken_57 : decode cX1_takeToken 57 = .ok (.aload_n 0, 1) := by decide +kernel
theorem dX1_takeToken_58 : decode cX1_takeToken 58 = .ok (.getfield 9, 3) := by decide +kernel
theorem dX1_takeToken_61 : decode cX1_takeToken 61 = .ok (.aload_n 0, 1) := by decide +kernel
theorem dX1_takeToken_62 : decode cX1_takeToken 62 = .ok (.getfield 21, 3) := by decide +kernel
theorem dX1_takeToken_65 : decode cX1_takeToken 65 = .ok (.bipush 17, 2) := by decide +kernel
theorem dX1_takeToken_67 : decode cX1_takeToken 67 = .ok (.iastore, 1) := by decide +kernel
theorem dX1_takeToken_68 : decode cX1_takeToken 68 = .ok (.aload_n 0, 1) := by decide +kernel
theorem dX1_takeToken_69 : decode cX1_takeToken 69 = .ok (.getfield 18, 3) := by decide +kernel
theorem dX1_takeToken_72 : decode cX1_takeToken 72 = .ok (.aload_n 0, 1) := by decide +kernel
theorem dX1_takeToken_73 : decode cX1_takeToken 73 = .ok (.getfield 21, 3) := by decide +kernel
theorem dX1_takeToken_76 : decode cX1_takeToken 76 = .ok (.aload_n 1, 1) := by decide +kernel
theorem dX1_takeToken_77 : decode cX1_takeToken 77 = .ok (.iload_n 2, 1) := by decide +kernel
theorem dX1_takeToken_78 : decode cX1_takeToken 78 = .ok (.iload_n 3, 1) := by decide +kernel
theorem dX1_takeToken_79 : decode cX1_takeToken 79 = .ok (.invokevirtual 45, 3) := by decide +kernel
theorem dX1_takeToken_82 : decode cX1_takeToken 82 = .ok (.iastore, 1) := by decide +kernel
theorem dX1_takeToken_83 : decode cX1_takeToken 83 = .ok (.iload_n 3, 1) := by decide +kernel
theorem dX1_takeToken_84 : decode cX1_takeToken 84 = .ok (.ireturn, 1) := by decide +kernel
theorem dX1_takeToken_85 : decode cX1_takeToken 85 = .ok (.aload_n 0, 1) := by decide +kernel
theorem dX1_takeToken_86 : decode cX1_takeToken 86 = .ok (.getfield 9, 3) := by decide +kernel
theorem dX1_takeToken_89 : decode cX1_takeToken 89 = .ok (.aload_n 0, 1) := by decide +kernel
theorem dX1_takeToken_90 : decode cX1_takeToken 90 = .ok (.getfield 21, 3) := by decide +kernel
theorem dX1_takeToken_93 : decode cX1_takeToken 93 = .ok (.aload_n 1, 1) := by decide +kernel
theorem dX1_takeToken_94 : decode cX1_takeToken 94 = .ok (.getfield 30, 3) := by decide +kernel
theorem dX1_takeToken_97 : decode cX1_takeToken 97 = .ok (.iload_n 2, 1) := by decide +kernel
theorem dX1_takeToken_98 : decode cX1_takeToken 98 = .ok (.iaload, 1) := by decide +kernel
theorem dX1_takeToken_99 : decode cX1_takeToken 99 = .ok (.invokestatic 49, 3) := by decide +kernel
theorem dX1_takeToken_102 : decode cX1_takeToken 102 = .ok (.iastore, 1) := by decide +kernel
theorem dX1_takeToken_103 : decode cX1_takeToken 103 = .ok (.iload_n 2, 1) := by decide +kernel
theorem dX1_takeToken_104 : decode cX1_takeToken 104 = .ok (.iconst 1, 1) := by decide +kernel
theorem dX1_takeToken_105 : decode cX1_takeToken 105 = .ok (.iadd, 1) := by decide +kernel
theorem dX1_takeToken_106 : decode cX1_takeToken 106 = .ok (.ireturn, 1) := by decide +kernel
theorem dX1_wordAt_0 : decode cX1_wordAt 0 = .ok (.iconst 0, 1) := by decide +kernel
theorem dX1_wordAt_1 : decode cX1_wordAt 1 = .ok (.istore_n 3, 1) := by decide +kernel
theorem dX1_wordAt_2 : decode cX1_wordAt 2 = .ok (.iload_n 3, 1) := by decide +kernel
theorem dX1_wordAt_3 : decode cX1_wordAt 3 = .ok (.bipush 17, 2) := by decide +kernel
theorem dX1_wordAt_5 : decode cX1_wordAt 5 = .ok (.if_icmp .ge 24, 3) := by decide +kernel
theorem dX1_wordAt_8 : decode cX1_wordAt 8 = .ok (.aload_n 0, 1) := by decide +kernel
theorem dX1_wordAt_9 : decode cX1_wordAt 9 = .ok (.iload_n 1, 1) := by decide +kernel
theorem dX1_wordAt_10 : decode cX1_wordAt 10 = .ok (.iload_n 2, 1) := by decide +kernel
theorem dX1_wordAt_11 : decode cX1_wordAt 11 = .ok (.iload_n 3, 1) := by decide +kernel
theorem dX1_wordAt_12 : decode cX1_wordAt 12 = .ok (.invokestatic 53, 3) := by decide +kernel
theorem dX1_wordAt_15 : decode cX1_wordAt 15 = .ok (.invokevirtual 57, 3) := by decide +kernel
theorem dX1_wordAt_18 : decode cX1_wordAt 18 = .ok (.ifCond .eq 5, 3) := by decide +kernel
theorem dX1_wordAt_21 : decode cX1_wordAt 21 = .ok (.iload_n 3, 1) := by decide +kernel
theorem dX1_wordAt_22 : decode cX1_wordAt 22 = .ok (.ireturn, 1) := by decide +kernel
theorem dX1_wordAt_23 : decode cX1_wordAt 23 = .ok (.iinc 3 1, 3) := by decide +kernel
theorem dX1_wordAt_26 : decode cX1_wordAt 26 = .ok (.goto (-24), 3) := by decide +kernel
theorem dX1_wordAt_29 : decode cX1_wordAt 29 = .ok (.bipush 21, 2) := by decide +kernel
theorem dX1_wordAt_31 : decode cX1_wordAt 31 = .ok (.ireturn, 1) := by decide +kernel
theorem dX1_signOf_0 : decode cX1_signOf 0 = .ok (.iload_n 0, 1) := by decide +kernel
theorem dX1_signOf_1 : decode cX1_signOf 1 = .ok (.bipush 59, 2) := by decide +kernel
theorem dX1_signOf_3 : decode cX1_signOf 3 = .ok (.if_icmp .ne 6, 3) := by decide +kernel
theorem dX1_signOf_6 : decode cX1_signOf 6 = .ok (.bipush 18, 2) := by decide +kernel
theorem dX1_signOf_8 : decode cX1_signOf 8 = .ok (.ireturn, 1) := by decide +kernel
theorem dX1_signOf_9 : decode cX1_signOf 9 = .ok (.iload_n 0, 1) := by decide +kernel
theorem dX1_signOf_10 : decode cX1_signOf 10 = .ok (.bipush 45, 2) := by decide +kernel
theorem dX1_signOf_12 : decode cX1_signOf 12 = .ok (.if_icmp .ne 8, 3) := by decide +kernel
theorem dX1_signOf_15 : decode cX1_signOf 15 = .ok (.bipush 19, 2) := by decide +kernel
theorem dX1_signOf_17 : decode cX1_signOf 17 = .ok (.goto 5, 3) := by decide +kernel
theorem dX1_signOf_20 : decode cX1_signOf 20 = .ok (.bipush 21, 2) := by decide +kernel
theorem dX1_signOf_22 : decode cX1_signOf 22 = .ok (.ireturn, 1) := by decide +kernel
theorem dX1_spelled_0 : decode cX1_spelled 0 = .ok (.iload_n 0, 1) := by decide +kernel
theorem dX1_spelled_1 : decode cX1_spelled 1 = .ok (.tableswitch 134 0 16 #[83, 86, 89, 92, 95, 98, 101, 104, 107, 110, 113, 116, 119, 122, 125, 128, 131], 83) := by decide +kernel
theorem dX1_spelled_84 : decode cX1_spelled 84 = .ok (.ldc 61, 2) := by decide +kernel
theorem dX1_spelled_86 : decode cX1_spelled 86 = .ok (.areturn, 1) := by decide +kernel
theorem dX1_spelled_87 : decode cX1_spelled 87 = .ok (.ldc 63, 2) := by decide +kernel
theorem dX1_spelled_89 : decode cX1_spelled 89 = .ok (.areturn, 1) := by decide +kernel
theorem dX1_spelled_90 : decode cX1_spelled 90 = .ok (.ldc 65, 2) := by decide +kernel
theorem dX1_spelled_92 : decode cX1_spelled 92 = .ok (.areturn, 1) := by decide +kernel
theorem dX1_spelled_93 : decode cX1_spelled 93 = .ok (.ldc 67, 2) := by decide +kernel
theorem dX1_spelled_95 : decode cX1_spelled 95 = .ok (.areturn, 1) := by decide +kernel
theorem dX1_spelled_96 : decode cX1_spelled 96 = .ok (.ldc 69, 2) := by decide +kernel
theorem dX1_spelled_98 : decode cX1_spelled 98 = .ok (.areturn, 1) := by decide +kernel
theorem dX1_spelled_99 : decode cX1_spelled 99 = .ok (.ldc 71, 2) := by decide +kernel
theorem dX1_spelled_101 : decode cX1_spelled 101 = .ok (.areturn, 1) := by decide +kernel
theorem dX1_spelled_102 : decode cX1_spelled 102 = .ok (.ldc 73, 2) := by decide +kernel
theorem dX1_spelled_104 : decode cX1_spelled 104 = .ok (.areturn, 1) := by decide +kernel
theorem dX1_spelled_105 : decode cX1_spelled 105 = .ok (.ldc 75, 2) := by decide +kernel
theorem dX1_spelled_107 : decode cX1_spelled 107 = .ok (.areturn, 1) := by decide +kernel
theorem dX1_spelled_108 : decode cX1_spelled 108 = .ok (.ldc 77, 2) := by decide +kernel
theorem dX1_spelled_110 : decode cX1_spelled 110 = .ok (.areturn, 1) := by decide +kernel
theorem dX1_spelled_111 : decode cX1_spelled 111 = .ok (.ldc 79, 2) := by decide +kernel
theorem dX1_spelled_113 : decode cX1_spelled 113 = .ok (.areturn, 1) := by decide +kernel
theorem dX1_spelled_114 : decode cX1_spelled 114 = .ok (.ldc 81, 2) := by decide +kernel
theorem dX1_spelled_116 : decode cX1_spelled 116 = .ok (.areturn, 1) := by decide +kernel
theorem dX1_spelled_117 : decode cX1_spelled 117 = .ok (.ldc 83, 2) := by decide +kernel
theorem dX1_spelled_119 : decode cX1_spelled 119 = .ok (.areturn, 1) := by decide +kernel
theorem dX1_spelled_120 : decode cX1_spelled 120 = .ok (.ldc 85, 2) := by decide +kernel
theorem dX1_spelled_122 : decode cX1_spelled 122 = .ok (.areturn, 1) := by decide +kernel
theorem dX1_spelled_123 : decode cX1_spelled 123 = .ok (.ldc 87, 2) := by decide +kernel
theorem dX1_spelled_125 : decode cX1_spelled 125 = .ok (.areturn, 1) := by decide +kernel
theorem dX1_spelled_126 : decode cX1_spelled 126 = .ok (.ldc 89, 2) := by decide +kernel
theorem dX1_spelled_128 : decode cX1_spelled 128 = .ok (.areturn, 1) := by decide +kernel
theorem dX1_spelled_129 : decode cX1_spelled 129 = .ok (.ldc 91, 2) := by decide +kernel
theorem dX1_spelled_131 : decode cX1_spelled 131 = .ok (.areturn, 1) := by decide +kernel
theorem dX1_spelled_132 : decode cX1_spelled 132 = .ok (.ldc 93, 2) := by decide +kernel
theorem dX1_spelled_134 : decode cX1_spelled 134 = .ok (.areturn, 1) := by decide +kernel
theorem dX1_spelled_135 : decode cX1_spelled 135 = .ok (.ldc 95, 2) := by decide +kernel
theorem dX1_spelled_137 : decode cX1_spelled 137 = .ok (.areturn, 1) := by decide +kernel
theorem dX1_read_0 : decode cX1_read 0 = .ok (.aload_n 0, 1) := by decide +kernel
theorem dX1_read_1 : decode cX1_read 1 = .ok (.iload_n 2, 1) := by decide +kernel
theorem dX1_read_2 : decode cX1_read 2 = .ok (.putfield 97, 3) := by decide +kernel
theorem dX1_read_5 : decode cX1_read 5 = .ok (.aload_n 0, 1) := by decide +kernel
theorem dX1_read_6 : decode cX1_read 6 = .ok (.iconst 0, 1) := by decide +kernel
theorem dX1_read_7 : decode cX1_read 7 = .ok (.putfield 101, 3) := by decide +kernel
theorem dX1_read_10 : decode cX1_read 10 = .ok (.aload_n 0, 1) := by decide +kernel
theorem dX1_read_11 : decode cX1_read 11 = .ok (.aload_n 1, 1) := by decide +kernel
theorem dX1_read_12 : decode cX1_read 12 = .ok (.getfield 104, 3) := by decide +kernel
theorem dX1_read_15 : decode cX1_read 15 = .ok (.putfield 109, 3) := by decide +kernel
theorem dX1_read_18 : decode cX1_read 18 = .ok (.aload_n 0, 1) := by decide +kernel
theorem dX1_read_19 : decode cX1_read 19 = .ok (.iconst 0, 1) := by decide +kernel
theorem dX1_read_20 : decode cX1_read 20 = .ok (.putfield 110, 3) := by decide +kernel
theorem dX1_read_23 : decode cX1_read 23 = .ok (.iconst 1, 1) := by decide +kernel
theorem dX1_read_24 : decode cX1_read 24 = .ok (.istore_n 3, 1) := by decide +kernel
theorem dX1_read_25 : decode cX1_read 25 = .ok (.iload_n 3, 1) := by decide +kernel
theorem dX1_read_26 : decode cX1_read 26 = .ok (.bipush 120, 2) := by decide +kernel
theorem dX1_read_28 : decode cX1_read 28 = .ok (.if_icmp .gt 65, 3) := by decide +kernel
theorem dX1_read_31 : decode cX1_read 31 = .ok (.aload_n 0, 1) := by decide +kernel
theorem dX1_read_32 : decode cX1_read 32 = .ok (.aload_n 1, 1) := by decide +kernel
theorem dX1_read_33 : decode cX1_read 33 = .ok (.invokevirtual 113, 3) := by decide +kernel
theorem dX1_read_36 : decode cX1_read 36 = .ok (.aload_n 0, 1) := by decide +kernel
theorem dX1_read_37 : decode cX1_read 37 = .ok (.getfield 101, 3) := by decide +kernel
theorem dX1_read_40 : decode cX1_read 40 = .ok (.ifCond .ne 19, 3) := by decide +kernel
theorem dX1_read_43 : decode cX1_read 43 = .ok (.aload_n 0, 1) := by decide +kernel
theorem dX1_read_44 : decode cX1_read 44 = .ok (.getfield 9, 3) := by decide +kernel
theorem dX1_read_47 : decode cX1_read 47 = .ok (.aload_n 0, 1) := by decide +kernel
theorem dX1_read_48 : decode cX1_read 48 = .ok (.getfield 110, 3) := by decide +kernel
theorem dX1_read_51 : decode cX1_read 51 = .ok (.iaload, 1) := by decide +kernel
theorem dX1_read_52 : decode cX1_read 52 = .ok (.bipush 20, 2) := by decide +kernel
theorem dX1_read_54 : decode cX1_read 54 = .ok (.if_icmp .ne 5, 3) := by decide +kernel
theorem dX1_read_57 : decode cX1_read 57 = .ok (.iload_n 3, 1) := by decide +kernel
theorem dX1_read_58 : decode cX1_read 58 = .ok (.ireturn, 1) := by decide +kernel
theorem dX1_read_59 : decode cX1_read 59 = .ok (.aload_n 0, 1) := by decide +kernel
theorem dX1_read_60 : decode cX1_read 60 = .ok (.getfield 101, 3) := by decide +kernel
theorem dX1_read_63 : decode cX1_read 63 = .ok (.ifCond .ne 30, 3) := by decide +kernel
theorem dX1_read_66 : decode cX1_read 66 = .ok (.aload_n 0, 1) := by decide +kernel
theorem dX1_read_67 : decode cX1_read 67 = .ok (.getfield 9, 3) := by decide +kernel
theorem dX1_read_70 : decode cX1_read 70 = .ok (.aload_n 0, 1) := by decide +kernel
theorem dX1_read_71 : decode cX1_read 71 = .ok (.getfield 110, 3) := by decide +kernel
theorem dX1_read_74 : decode cX1_read 74 = .ok (.iaload, 1) := by decide +kernel
theorem dX1_read_75 : decode cX1_read 75 = .ok (.bipush 18, 2) := by decide +kernel
theorem dX1_read_77 : decode cX1_read 77 = .ok (.if_icmp .eq 6, 3) := by decide +kernel
theorem dX1_read_80 : decode cX1_read 80 = .ok (.goto 13, 3) := by decide +kernel
theorem dX1_read_83 : decode cX1_read 83 = .ok (.aload_n 0, 1) := by decide +kernel
theorem dX1_read_84 : decode cX1_read 84 = .ok (.invokevirtual 117, 3) := by decide +kernel
theorem dX1_read_87 : decode cX1_read 87 = .ok (.iinc 3 1, 3) := by decide +kernel
theorem dX1_read_90 : decode cX1_read 90 = .ok (.goto (-65), 3) := by decide +kernel
theorem dX1_read_93 : decode cX1_read 93 = .ok (.iconst (-1), 1) := by decide +kernel
theorem dX1_read_94 : decode cX1_read 94 = .ok (.aload_n 0, 1) := by decide +kernel
theorem dX1_read_95 : decode cX1_read 95 = .ok (.getfield 15, 3) := by decide +kernel
theorem dX1_read_98 : decode cX1_read 98 = .ok (.aload_n 0, 1) := by decide +kernel
theorem dX1_read_99 : decode cX1_read 99 = .ok (.getfield 110, 3) := by decide +kernel
theorem dX1_read_102 : decode cX1_read 102 = .ok (.iaload, 1) := by decide +kernel
theorem dX1_read_103 : decode cX1_read 103 = .ok (.isub, 1) := by decide +kernel
theorem dX1_read_104 : decode cX1_read 104 = .ok (.ireturn, 1) := by decide +kernel
theorem dX1_advance_0 : decode cX1_advance 0 = .ok (.aload_n 0, 1) := by decide +kernel
theorem dX1_advance_1 : decode cX1_advance 1 = .ok (.getfield 110, 3) := by decide +kernel
theorem dX1_advance_4 : decode cX1_advance 4 = .ok (.aload_n 0, 1) := by decide +kernel
theorem dX1_advance_5 : decode cX1_advance 5 = .ok (.getfield 21, 3) := by decide +kernel
theorem dX1_advance_8 : decode cX1_advance 8 = .ok (.if_icmp .ge 13, 3) := by decide +kernel
theorem dX1_advance_11 : decode cX1_advance 11 = .ok (.aload_n 0, 1) := by decide +kernel
theorem dX1_advance_12 : decode cX1_advance 12 = .ok (.dup, 1) := by decide +kernel
theorem dX1_advance_13 : decode cX1_advance 13 = .ok (.getfield 110, 3) := by decide +kernel
theorem dX1_advance_16 : decode cX1_advance 16 = .ok (.iconst 1, 1) := by decide +kernel
theorem dX1_advance_17 : decode cX1_advance 17 = .ok (.iadd, 1) := by decide +kernel
theorem dX1_advance_18 : decode cX1_advance 18 = .ok (.putfield 110, 3) := by decide +kernel
theorem dX1_advance_21 : decode cX1_advance 21 = .ok (.return_, 1) := by decide +kernel
theorem dX1_readItem_0 : decode cX1_readItem 0 = .ok (.aload_n 0, 1) := by decide +kernel
theorem dX1_readItem_1 : decode cX1_readItem 1 = .ok (.getfield 9, 3) := by decide +kernel
theorem dX1_readItem_4 : decode cX1_readItem 4 = .ok (.aload_n 0, 1) := by decide +kernel
theorem dX1_readItem_5 : decode cX1_readItem 5 = .ok (.getfield 110, 3) := by decide +kernel
theorem dX1_readItem_8 : decode cX1_readItem 8 = .ok (.iaload, 1) := by decide +kernel
theorem dX1_readItem_9 : decode cX1_readItem 9 = .ok (.istore_n 2, 1) := by decide +kernel
theorem dX1_readItem_10 : decode cX1_readItem 10 = .ok (.iload_n 2, 1) := by decide +kernel
theorem dX1_readItem_11 : decode cX1_readItem 11 = .ok (.invokestatic 120, 3) := by decide +kernel
theorem dX1_readItem_14 : decode cX1_readItem 14 = .ok (.ifCond .eq 10, 3) := by decide +kernel
theorem dX1_readItem_17 : decode cX1_readItem 17 = .ok (.aload_n 0, 1) := by decide +kernel
theorem dX1_readItem_18 : decode cX1_readItem 18 = .ok (.aload_n 1, 1) := by decide +kernel
theorem dX1_readItem_19 : decode cX1_readItem 19 = .ok (.iload_n 2, 1) := by decide +kernel
theorem dX1_readItem_20 : decode cX1_readItem 20 = .ok (.invokevirtual 124, 3) := by decide +kernel
theorem dX1_readItem_23 : decode cX1_readItem 23 = .ok (.return_, 1) := by decide +kernel
theorem dX1_readItem_24 : decode cX1_readItem 24 = .ok (.iload_n 2, 1) := by decide +kernel
theorem dX1_readItem_25 : decode cX1_readItem 25 = .ok (.tableswitch 103 7 11 #[35, 43, 51, 68, 85], 35) := by decide +kernel
theorem dX1_readItem_60 : decode cX1_readItem 60 = .ok (.aload_n 0, 1) := by decide +kernel
theorem dX1_readItem_61 : decode cX1_readItem 61 = .ok (.aload_n 1, 1) := by decide +kernel
theorem dX1_readItem_62 : decode cX1_readItem 62 = .ok (.invokevirtual 128, 3) := by decide +kernel
theorem dX1_readItem_65 : decode cX1_readItem 65 = .ok (.goto 68, 3) := by decide +kernel
theorem dX1_readItem_68 : decode cX1_readItem 68 = .ok (.aload_n 0, 1) := by decide +kernel
theorem dX1_readItem_69 : decode cX1_readItem 69 = .ok (.aload_n 1, 1) := by decide +kernel
theorem dX1_readItem_70 : decode cX1_readItem 70 = .ok (.invokevirtual 131, 3) := by decide +kernel
theorem dX1_readItem_73 : decode cX1_readItem 73 = .ok (.goto 60, 3) := by decide +kernel
theorem dX1_readItem_76 : decode cX1_readItem 76 = .ok (.aload_n 1, 1) := by decide +kernel
theorem dX1_readItem_77 : decode cX1_readItem 77 = .ok (.aload_n 0, 1) := by decide +kernel
theorem dX1_readItem_78 : decode cX1_readItem 78 = .ok (.aload_n 1, 1) := by decide +kernel
theorem dX1_readItem_79 : decode cX1_readItem 79 = .ok (.getfield 134, 3) := by decide +kernel
theorem dX1_readItem_82 : decode cX1_readItem 82 = .ok (.bipush 7, 2) := by decide +kernel
theorem dX1_readItem_84 : decode cX1_readItem 84 = .ok (.invokevirtual 137, 3) := by decide +kernel
theorem dX1_readItem_87 : decode cX1_readItem 87 = .ok (.putfield 134, 3) := by decide +kernel
theorem dX1_readItem_90 : decode cX1_readItem 90 = .ok (.goto 43, 3) := by decide +kernel
theorem dX1_readItem_93 : decode cX1_readItem 93 = .ok (.aload_n 1, 1) := by decide +kernel
theorem dX1_readItem_94 : decode cX1_readItem 94 = .ok (.aload_n 0, 1) := by decide +kernel
theorem dX1_readItem_95 : decode cX1_readItem 95 = .ok (.aload_n 1, 1) := by decide +kernel
theorem dX1_readItem_96 : decode cX1_readItem 96 = .ok (.getfield 140, 3) := by decide +kernel
theorem dX1_readItem_99 : decode cX1_readItem 99 = .ok (.ldc 143, 2) := by decide +kernel
theorem dX1_readItem_101 : decode cX1_readItem 101 = .ok (.invokevirtual 137, 3) := by decide +kernel
theorem dX1_readItem_104 : decode cX1_readItem 104 = .ok (.putfield 140, 3) := by decide +kernel
theorem dX1_readItem_107 : decode cX1_readItem 107 = .ok (.goto 26, 3) := by decide +kernel
theorem dX1_readItem_110 : decode cX1_readItem 110 = .ok (.aload_n 1, 1) := by decide +kernel
theorem dX1_readItem_111 : decode cX1_readItem 111 = .ok (.aload_n 0, 1) := by decide +kernel
theorem dX1_readItem_112 : decode cX1_readItem 112 = .ok (.aload_n 1, 1) := by decide +kernel
theorem dX1_readItem_113 : decode cX1_readItem 113 = .ok (.getfield 144, 3) := by decide +kernel
theorem dX1_readItem_116 : decode cX1_readItem 116 = .ok (.sipush 9999, 3) := by decide +kernel
theorem dX1_readItem_119 : decode cX1_readItem 119 = .ok (.invokevirtual 137, 3) := by decide +kernel
theorem dX1_readItem_122 : decode cX1_readItem 122 = .ok (.putfield 144, 3) := by decide +kernel
theorem dX1_readItem_125 : decode cX1_readItem 125 = .ok (.goto 8, 3) := by decide +kernel
theorem dX1_readItem_128 : decode cX1_readItem 128 = .ok (.aload_n 0, 1) := by decide +kernel
theorem dX1_readItem_129 : decode cX1_readItem 129 = .ok (.iconst 1, 1) := by decide +kernel
theorem dX1_readItem_130 : decode cX1_readItem 130 = .ok (.putfield 101, 3) := by decide +kernel
theorem dX1_readItem_133 : decode cX1_readItem 133 = .ok (.return_, 1) := by decide +kernel
theorem dX1_readCat_0 : decode cX1_readCat 0 = .ok (.aload_n 0, 1) := by decide +kernel
theorem dX1_readCat_1 : decode cX1_readCat 1 = .ok (.getfield 109, 3) := by decide +kernel
theorem dX1_readCat_4 : decode cX1_readCat 4 = .ok (.bipush 8, 2) := by decide +kernel
theorem dX1_readCat_6 : decode cX1_readCat 6 = .ok (.if_icmp .lt 9, 3) := by decide +kernel
theorem dX1_readCat_9 : decode cX1_readCat 9 = .ok (.aload_n 0, 1) := by decide +kernel
theorem dX1_readCat_10 : decode cX1_readCat 10 = .ok (.iconst 1, 1) := by decide +kernel
theorem dX1_readCat_11 : decode cX1_readCat 11 = .ok (.putfield 101, 3) := by decide +kernel
theorem dX1_readCat_14 : decode cX1_readCat 14 = .ok (.return_, 1) := by decide +kernel
theorem dX1_readCat_15 : decode cX1_readCat 15 = .ok (.aload_n 0, 1) := by decide +kernel
theorem dX1_readCat_16 : decode cX1_readCat 16 = .ok (.invokevirtual 117, 3) := by decide +kernel
theorem dX1_readCat_19 : decode cX1_readCat 19 = .ok (.aload_n 0, 1) := by decide +kernel
theorem dX1_readCat_20 : decode cX1_readCat 20 = .ok (.bipush 12, 2) := by decide +kernel
theorem dX1_readCat_22 : decode cX1_readCat 22 = .ok (.bipush 99, 2) := by decide +kernel
theorem dX1_readCat_24 : decode cX1_readCat 24 = .ok (.invokevirtual 147, 3) := by decide +kernel
theorem dX1_readCat_27 : decode cX1_readCat 27 = .ok (.istore_n 3, 1) := by decide +kernel
theorem dX1_readCat_28 : decode cX1_readCat 28 = .ok (.aload_n 0, 1) := by decide +kernel
theorem dX1_readCat_29 : decode cX1_readCat 29 = .ok (.invokevirtual 150, 3) := by decide +kernel
theorem dX1_readCat_32 : decode cX1_readCat 32 = .ok (.istore 4, 2) := by decide +kernel
theorem dX1_readCat_34 : decode cX1_readCat 34 = .ok (.aload_n 0, 1) := by decide +kernel
theorem dX1_readCat_35 : decode cX1_readCat 35 = .ok (.dup, 1) := by decide +kernel
theorem dX1_readCat_36 : decode cX1_readCat 36 = .ok (.getfield 109, 3) := by decide +kernel
theorem dX1_readCat_39 : decode cX1_readCat 39 = .ok (.iconst 1, 1) := by decide +kernel
theorem dX1_readCat_40 : decode cX1_readCat 40 = .ok (.iadd, 1) := by decide +kernel
theorem dX1_readCat_41 : decode cX1_readCat 41 = .ok (.putfield 109, 3) := by decide +kernel
theorem dX1_readCat_44 : decode cX1_readCat 44 = .ok (.aload_n 0, 1) := by decide +kernel
theorem dX1_readCat_45 : decode cX1_readCat 45 = .ok (.getfield 97, 3) := by decide +kernel
theorem dX1_readCat_48 : decode cX1_readCat 48 = .ok (.ifCond .eq 28, 3) := by decide +kernel
theorem dX1_readCat_51 : decode cX1_readCat 51 = .ok (.aload_n 0, 1) := by decide +kernel
theorem dX1_readCat_52 : decode cX1_readCat 52 = .ok (.getfield 101, 3) := by decide +kernel
theorem dX1_readCat_55 : decode cX1_readCat 55 = .ok (.ifCond .ne 21, 3) := by decide +kernel
theorem dX1_readCat_58 : decode cX1_readCat 58 = .ok (.aload_n 1, 1) := by decide +kernel
theorem dX1_readCat_59 : decode cX1_readCat 59 = .ok (.iload_n 2, 1) := by decide +kernel
theorem dX1_readCat_60 : decode cX1_readCat 60 = .ok (.iload_n 3, 1) := by decide +kernel
theorem dX1_readCat_61 : decode cX1_readCat 61 = .ok (.iconst (-1), 1) := by decide +kernel
theorem dX1_readCat_62 : decode cX1_readCat 62 = .ok (.if_icmp .ne 7, 3) := by decide +kernel
theorem dX1_readCat_65 : decode cX1_readCat 65 = .ok (.iconst 0, 1) := by decide +kernel
theorem dX1_readCat_66 : decode cX1_readCat 66 = .ok (.goto 4, 3) := by decide +kernel
theorem dX1_readCat_69 : decode cX1_readCat 69 = .ok (.iload_n 3, 1) := by decide +kernel
theorem dX1_readCat_70 : decode cX1_readCat 70 = .ok (.iload 4, 2) := by decide +kernel
theorem dX1_readCat_72 : decode cX1_readCat 72 = .ok (.invokevirtual 154, 3) := by decide +kernel
theorem dX1_readCat_75 : decode cX1_readCat 75 = .ok (.pop, 1) := by decide +kernel
theorem dX1_readCat_76 : decode cX1_readCat 76 = .ok (.return_, 1) := by decide +kernel
theorem dX1_readHabit_0 : decode cX1_readHabit 0 = .ok (.aload_n 0, 1) := by decide +kernel
theorem dX1_readHabit_1 : decode cX1_readHabit 1 = .ok (.getfield 101, 3) := by decide +kernel
theorem dX1_readHabit_4 : decode cX1_readHabit 4 = .ok (.ifCond .ne 17, 3) := by decide +kernel
theorem dX1_readHabit_7 : decode cX1_readHabit 7 = .ok (.aload_n 0, 1) := by decide +kernel
theorem dX1_readHabit_8 : decode cX1_readHabit 8 = .ok (.getfield 9, 3) := by decide +kernel
theorem dX1_readHabit_11 : decode cX1_readHabit 11 = .ok (.aload_n 0, 1) := by decide +kernel
theorem dX1_readHabit_12 : decode cX1_readHabit 12 = .ok (.getfield 110, 3) := by decide +kernel
theorem dX1_readHabit_15 : decode cX1_readHabit 15 = .ok (.iaload, 1) := by decide +kernel
theorem dX1_readHabit_16 : decode cX1_readHabit 16 = .ok (.bipush 13, 2) := by decide +kernel
theorem dX1_readHabit_18 : decode cX1_readHabit 18 = .ok (.if_icmp .eq 5, 3) := by decide +kernel
theorem dX1_readHabit_21 : decode cX1_readHabit 21 = .ok (.iconst 0, 1) := by decide +kernel
theorem dX1_readHabit_22 : decode cX1_readHabit 22 = .ok (.ireturn, 1) := by decide +kernel
theorem dX1_readHabit_23 : decode cX1_readHabit 23 = .ok (.aload_n 0, 1) := by decide +kernel
theorem dX1_readHabit_24 : decode cX1_readHabit 24 = .ok (.invokevirtual 117, 3) := by decide +kernel
theorem dX1_readHabit_27 : decode cX1_readHabit 27 = .ok (.aload_n 0, 1) := by decide +kernel
theorem dX1_readHabit_28 : decode cX1_readHabit 28 = .ok (.getfield 9, 3) := by decide +kernel
theorem dX1_readHabit_31 : decode cX1_readHabit 31 = .ok (.aload_n 0, 1) := by decide +kernel
theorem dX1_readHabit_32 : decode cX1_readHabit 32 = .ok (.getfield 110, 3) := by decide +kernel
theorem dX1_readHabit_35 : decode cX1_readHabit 35 = .ok (.iaload, 1) := by decide +kernel
theorem dX1_readHabit_36 : decode cX1_readHabit 36 = .ok (.bipush 19, 2) := by decide +kernel
theorem dX1_readHabit_38 : decode cX1_readHabit 38 = .ok (.if_icmp .ne 7, 3) := by decide +kernel
theorem dX1_readHabit_41 : decode cX1_readHabit 41 = .ok (.iconst 1, 1) := by decide +kernel
theorem dX1_readHabit_42 : decode cX1_readHabit 42 = .ok (.goto 4, 3) := by decide +kernel
theorem dX1_readHabit_45 : decode cX1_readHabit 45 = .ok (.iconst 0, 1) := by decide +kernel
theorem dX1_readHabit_46 : decode cX1_readHabit 46 = .ok (.istore_n 1, 1) := by decide +kernel
theorem dX1_readHabit_47 : decode cX1_readHabit 47 = .ok (.iload_n 1, 1) := by decide +kernel
theorem dX1_readHabit_48 : decode cX1_readHabit 48 = .ok (.ifCond .eq 7, 3) := by decide +kernel
theorem dX1_readHabit_51 : decode cX1_readHabit 51 = .ok (.aload_n 0, 1) := by decide +kernel
theorem dX1_readHabit_52 : decode cX1_readHabit 52 = .ok (.invokevirtual 117, 3) := by decide +kernel
theorem dX1_readHabit_55 : decode cX1_readHabit 55 = .ok (.aload_n 0, 1) := by decide +kernel
theorem dX1_readHabit_56 : decode cX1_readHabit 56 = .ok (.bipush 15, 2) := by decide +kernel
theorem dX1_readHabit_58 : decode cX1_readHabit 58 = .ok (.invokevirtual 158, 3) := by decide +kernel
theorem dX1_readHabit_61 : decode cX1_readHabit 61 = .ok (.istore_n 2, 1) := by decide +kernel
theorem dX1_readHabit_62 : decode cX1_readHabit 62 = .ok (.iload_n 1, 1) := by decide +kernel
theorem dX1_readHabit_63 : decode cX1_readHabit 63 = .ok (.ifCond .eq 8, 3) := by decide +kernel
theorem dX1_readHabit_66 : decode cX1_readHabit 66 = .ok (.iload_n 2, 1) := by decide +kernel
theorem dX1_readHabit_67 : decode cX1_readHabit 67 = .ok (.ineg, 1) := by decide +kernel
theorem dX1_readHabit_68 : decode cX1_readHabit 68 = .ok (.goto 4, 3) := by decide +kernel
theorem dX1_readHabit_71 : decode cX1_readHabit 71 = .ok (.iload_n 2, 1) := by decide +kernel
theorem dX1_readHabit_72 : decode cX1_readHabit 72 = .ok (.ireturn, 1) := by decide +kernel
theorem dX1_readIsland_0 : decode cX1_readIsland 0 = .ok (.aload_n 0, 1) := by decide +kernel
theorem dX1_readIsland_1 : decode cX1_readIsland 1 = .ok (.bipush 7, 2) := by decide +kernel
theorem dX1_readIsland_3 : decode cX1_readIsland 3 = .ok (.bipush 99, 2) := by decide +kernel
theorem dX1_readIsland_5 : decode cX1_readIsland 5 = .ok (.invokevirtual 147, 3) := by decide +kernel
theorem dX1_readIsland_8 : decode cX1_readIsland 8 = .ok (.istore_n 2, 1) := by decide +kernel
theorem dX1_readIsland_9 : decode cX1_readIsland 9 = .ok (.aload_n 0, 1) := by decide +kernel
theorem dX1_readIsland_10 : decode cX1_readIsland 10 = .ok (.getfield 97, 3) := by decide +kernel
theorem dX1_readIsland_13 : decode cX1_readIsland 13 = .ok (.ifCond .eq 17, 3) := by decide +kernel
theorem dX1_readIsland_16 : decode cX1_readIsland 16 = .ok (.iload_n 2, 1) := by decide +kernel
theorem dX1_readIsland_17 : decode cX1_readIsland 17 = .ok (.invokestatic 161, 3) := by decide +kernel
theorem dX1_readIsland_20 : decode cX1_readIsland 20 = .ok (.ifCond .eq 10, 3) := by decide +kernel
theorem dX1_readIsland_23 : decode cX1_readIsland 23 = .ok (.aload_n 1, 1) := by decide +kernel
theorem dX1_readIsland_24 : decode cX1_readIsland 24 = .ok (.getfield 164, 3) := by decide +kernel
theorem dX1_readIsland_27 : decode cX1_readIsland 27 = .ok (.iload_n 2, 1) := by decide +kernel
theorem dX1_readIsland_28 : decode cX1_readIsland 28 = .ok (.iconst 1, 1) := by decide +kernel
theorem dX1_readIsland_29 : decode cX1_readIsland 29 = .ok (.bastore, 1) := by decide +kernel
theorem dX1_readIsland_30 : decode cX1_readIsland 30 = .ok (.return_, 1) := by decide +kernel
theorem dX1_readShip_0 : decode cX1_readShip 0 = .ok (.aload_n 0, 1) := by decide +kernel
theorem dX1_readShip_1 : decode cX1_readShip 1 = .ok (.bipush 8, 2) := by decide +kernel
theorem dX1_readShip_3 : decode cX1_readShip 3 = .ok (.iconst 3, 1) := by decide +kernel
theorem dX1_readShip_4 : decode cX1_readShip 4 = .ok (.invokevirtual 147, 3) := by decide +kernel
theorem dX1_readShip_7 : decode cX1_readShip 7 = .ok (.istore_n 2, 1) := by decide +kernel
theorem dX1_readShip_8 : decode cX1_readShip 8 = .ok (.aload_n 0, 1) := by decide +kernel
theorem dX1_readShip_9 : decode cX1_readShip 9 = .ok (.bipush 14, 2) := by decide +kernel
theorem dX1_readShip_11 : decode cX1_readShip 11 = .ok (.bipush 99, 2) := by decide +kernel
theorem dX1_readShip_13 : decode cX1_readShip 13 = .ok (.invokevirtual 147, 3) := by decide +kernel
theorem dX1_readShip_16 : decode cX1_readShip 16 = .ok (.istore_n 3, 1) := by decide +kernel
theorem dX1_readShip_17 : decode cX1_readShip 17 = .ok (.aload_n 0, 1) := by decide +kernel
theorem dX1_readShip_18 : decode cX1_readShip 18 = .ok (.bipush 15, 2) := by decide +kernel
theorem dX1_readShip_20 : decode cX1_readShip 20 = .ok (.bipush 31, 2) := by decide +kernel
theorem dX1_readShip_22 : decode cX1_readShip 22 = .ok (.invokevirtual 147, 3) := by decide +kernel
theorem dX1_readShip_25 : decode cX1_readShip 25 = .ok (.istore 4, 2) := by decide +kernel
theorem dX1_readShip_27 : decode cX1_readShip 27 = .ok (.aload_n 0, 1) := by decide +kernel
theorem dX1_readShip_28 : decode cX1_readShip 28 = .ok (.bipush 16, 2) := by decide +kernel
theorem dX1_readShip_30 : decode cX1_readShip 30 = .ok (.iconst 1, 1) := by decide +kernel
theorem dX1_readShip_31 : decode cX1_readShip 31 = .ok (.aload_n 0, 1) := by decide +kernel
theorem dX1_readShip_32 : decode cX1_readShip 32 = .ok (.getfield 109, 3) := by decide +kernel
theorem dX1_readShip_35 : decode cX1_readShip 35 = .ok (.ishl, 1) := by decide +kernel
theorem dX1_readShip_36 : decode cX1_readShip 36 = .ok (.iconst 1, 1) := by decide +kernel
theorem dX1_readShip_37 : decode cX1_readShip 37 = .ok (.isub, 1) := by decide +kernel
theorem dX1_readShip_38 : decode cX1_readShip 38 = .ok (.invokevirtual 147, 3) := by decide +kernel
theorem dX1_readShip_41 : decode cX1_readShip 41 = .ok (.istore 5, 2) := by decide +kernel
theorem dX1_readShip_43 : decode cX1_readShip 43 = .ok (.aload_n 0, 1) := by decide +kernel
theorem dX1_readShip_44 : decode cX1_readShip 44 = .ok (.getfield 97, 3) := by decide +kernel
theorem dX1_readShip_47 : decode cX1_readShip 47 = .ok (.ifCond .eq 17, 3) := by decide +kernel
theorem dX1_readShip_50 : decode cX1_readShip 50 = .ok (.aload_n 0, 1) := by decide +kernel
theorem dX1_readShip_51 : decode cX1_readShip 51 = .ok (.getfield 101, 3) := by decide +kernel
theorem dX1_readShip_54 : decode cX1_readShip 54 = .ok (.ifCond .ne 10, 3) := by decide +kernel
theorem dX1_readShip_57 : decode cX1_readShip 57 = .ok (.iload_n 2, 1) := by decide +kernel
theorem dX1_readShip_58 : decode cX1_readShip 58 = .ok (.invokestatic 168, 3) := by decide +kernel
theorem dX1_readShip_61 : decode cX1_readShip 61 = .ok (.ifCond .ne 4, 3) := by decide +kernel
theorem dX1_readShip_64 : decode cX1_readShip 64 = .ok (.return_, 1) := by decide +kernel
theorem dX1_readShip_65 : decode cX1_readShip 65 = .ok (.aload_n 1, 1) := by decide +kernel
theorem dX1_readShip_66 : decode cX1_readShip 66 = .ok (.getfield 171, 3) := by decide +kernel
theorem dX1_readShip_69 : decode cX1_readShip 69 = .ok (.iload_n 2, 1) := by decide +kernel
theorem dX1_readShip_70 : decode cX1_readShip 70 = .ok (.iload_n 3, 1) := by decide +kernel
theorem dX1_readShip_71 : decode cX1_readShip 71 = .ok (.iconst (-1), 1) := by decide +kernel
theorem dX1_readShip_72 : decode cX1_readShip 72 = .ok (.if_icmp .ne 12, 3) := by decide +kernel
theorem dX1_readShip_75 : decode cX1_readShip 75 = .ok (.aload_n 1, 1) := by decide +kernel
theorem dX1_readShip_76 : decode cX1_readShip 76 = .ok (.getfield 171, 3) := by decide +kernel
theorem dX1_readShip_79 : decode cX1_readShip 79 = .ok (.iload_n 2, 1) := by decide +kernel
theorem dX1_readShip_80 : decode cX1_readShip 80 = .ok (.iaload, 1) := by decide +kernel
theorem dX1_readShip_81 : decode cX1_readShip 81 = .ok (.goto 4, 3) := by decide +kernel
theorem dX1_readShip_84 : decode cX1_readShip 84 = .ok (.iload_n 3, 1) := by decide +kernel
theorem dX1_readShip_85 : decode cX1_readShip 85 = .ok (.iastore, 1) := by decide +kernel
theorem dX1_readShip_86 : decode cX1_readShip 86 = .ok (.aload_n 1, 1) := by decide +kernel
theorem dX1_readShip_87 : decode cX1_readShip 87 = .ok (.getfield 174, 3) := by decide +kernel
theorem dX1_readShip_90 : decode cX1_readShip 90 = .ok (.iload_n 2, 1) := by decide +kernel
theorem dX1_readShip_91 : decode cX1_readShip 91 = .ok (.iload 4, 2) := by decide +kernel
theorem dX1_readShip_93 : decode cX1_readShip 93 = .ok (.iconst (-1), 1) := by decide +kernel
theorem dX1_readShip_94 : decode cX1_readShip 94 = .ok (.if_icmp .ne 12, 3) := by decide +kernel
theorem dX1_readShip_97 : decode cX1_readShip 97 = .ok (.aload_n 1, 1) := by decide +kernel
theorem dX1_readShip_98 : decode cX1_readShip 98 = .ok (.getfield 174, 3) := by decide +kernel
theorem dX1_readShip_101 : decode cX1_readShip 101 = .ok (.iload_n 2, 1) := by decide +kernel
theorem dX1_readShip_102 : decode cX1_readShip 102 = .ok (.iaload, 1) := by decide +kernel
theorem dX1_readShip_103 : decode cX1_readShip 103 = .ok (.goto 5, 3) := by decide +kernel
theorem dX1_readShip_106 : decode cX1_readShip 106 = .ok (.iload 4, 2) := by decide +kernel
theorem dX1_readShip_108 : decode cX1_readShip 108 = .ok (.iastore, 1) := by decide +kernel
theorem dX1_readShip_109 : decode cX1_readShip 109 = .ok (.aload_n 1, 1) := by decide +kernel
theorem dX1_readShip_110 : decode cX1_readShip 110 = .ok (.getfield 177, 3) := by decide +kernel
theorem dX1_readShip_113 : decode cX1_readShip 113 = .ok (.iload_n 2, 1) := by decide +kernel
theorem dX1_readShip_114 : decode cX1_readShip 114 = .ok (.iload 5, 2) := by decide +kernel
theorem dX1_readShip_116 : decode cX1_readShip 116 = .ok (.iconst (-1), 1) := by decide +kernel
theorem dX1_readShip_117 : decode cX1_readShip 117 = .ok (.if_icmp .ne 12, 3) := by decide +kernel
theorem dX1_readShip_120 : decode cX1_readShip 120 = .ok (.aload_n 1, 1) := by decide +kernel
theorem dX1_readShip_121 : decode cX1_readShip 121 = .ok (.getfield 177, 3) := by decide +kernel
theorem dX1_readShip_124 : decode cX1_readShip 124 = .ok (.iload_n 2, 1) := by decide +kernel
theorem dX1_readShip_125 : decode cX1_readShip 125 = .ok (.iaload, 1) := by decide +kernel
theorem dX1_readShip_126 : decode cX1_readShip 126 = .ok (.goto 5, 3) := by decide +kernel
theorem dX1_readShip_129 : decode cX1_readShip 129 = .ok (.iload 5, 2) := by decide +kernel
theorem dX1_readShip_131 : decode cX1_readShip 131 = .ok (.iastore, 1) := by decide +kernel
theorem dX1_readShip_132 : decode cX1_readShip 132 = .ok (.return_, 1) := by decide +kernel
theorem dX1_readSetting_0 : decode cX1_readSetting 0 = .ok (.aload_n 0, 1) := by decide +kernel
theorem dX1_readSetting_1 : decode cX1_readSetting 1 = .ok (.invokevirtual 117, 3) := by decide +kernel
theorem dX1_readSetting_4 : decode cX1_readSetting 4 = .ok (.aload_n 0, 1) := by decide +kernel
theorem dX1_readSetting_5 : decode cX1_readSetting 5 = .ok (.iload_n 2, 1) := by decide +kernel
theorem dX1_readSetting_6 : decode cX1_readSetting 6 = .ok (.invokevirtual 158, 3) := by decide +kernel
theorem dX1_readSetting_9 : decode cX1_readSetting 9 = .ok (.istore_n 3, 1) := by decide +kernel
theorem dX1_readSetting_10 : decode cX1_readSetting 10 = .ok (.aload_n 0, 1) := by decide +kernel
theorem dX1_readSetting_11 : decode cX1_readSetting 11 = .ok (.getfield 97, 3) := by decide +kernel
theorem dX1_readSetting_14 : decode cX1_readSetting 14 = .ok (.ifCond .eq 14, 3) := by decide +kernel
theorem dX1_readSetting_17 : decode cX1_readSetting 17 = .ok (.aload_n 0, 1) := by decide +kernel
theorem dX1_readSetting_18 : decode cX1_readSetting 18 = .ok (.getfield 101, 3) := by decide +kernel
theorem dX1_readSetting_21 : decode cX1_readSetting 21 = .ok (.ifCond .ne 7, 3) := by decide +kernel
theorem dX1_readSetting_24 : decode cX1_readSetting 24 = .ok (.iload_n 3, 1) := by decide +kernel
theorem dX1_readSetting_25 : decode cX1_readSetting 25 = .ok (.goto 4, 3) := by decide +kernel
theorem dX1_readSetting_28 : decode cX1_readSetting 28 = .ok (.iload_n 1, 1) := by decide +kernel
theorem dX1_readSetting_29 : decode cX1_readSetting 29 = .ok (.ireturn, 1) := by decide +kernel
theorem dX1_readPart_0 : decode cX1_readPart 0 = .ok (.aload_n 0, 1) := by decide +kernel
theorem dX1_readPart_1 : decode cX1_readPart 1 = .ok (.getfield 101, 3) := by decide +kernel
theorem dX1_readPart_4 : decode cX1_readPart 4 = .ok (.ifCond .ne 16, 3) := by decide +kernel
theorem dX1_readPart_7 : decode cX1_readPart 7 = .ok (.aload_n 0, 1) := by decide +kernel
theorem dX1_readPart_8 : decode cX1_readPart 8 = .ok (.getfield 9, 3) := by decide +kernel
theorem dX1_readPart_11 : decode cX1_readPart 11 = .ok (.aload_n 0, 1) := by decide +kernel
theorem dX1_readPart_12 : decode cX1_readPart 12 = .ok (.getfield 110, 3) := by decide +kernel
theorem dX1_readPart_15 : decode cX1_readPart 15 = .ok (.iaload, 1) := by decide +kernel
theorem dX1_readPart_16 : decode cX1_readPart 16 = .ok (.iload_n 1, 1) := by decide +kernel
theorem dX1_readPart_17 : decode cX1_readPart 17 = .ok (.if_icmp .eq 5, 3) := by decide +kernel
theorem dX1_readPart_20 : decode cX1_readPart 20 = .ok (.iconst (-1), 1) := by decide +kernel
theorem dX1_readPart_21 : decode cX1_readPart 21 = .ok (.ireturn, 1) := by decide +kernel
theorem dX1_readPart_22 : decode cX1_readPart 22 = .ok (.aload_n 0, 1) := by decide +kernel
theorem dX1_readPart_23 : decode cX1_readPart 23 = .ok (.invokevirtual 117, 3) := by decide +kernel
theorem dX1_readPart_26 : decode cX1_readPart 26 = .ok (.aload_n 0, 1) := by decide +kernel
theorem dX1_readPart_27 : decode cX1_readPart 27 = .ok (.iload_n 2, 1) := by decide +kernel
theorem dX1_readPart_28 : decode cX1_readPart 28 = .ok (.invokevirtual 158, 3) := by decide +kernel
theorem dX1_readPart_31 : decode cX1_readPart 31 = .ok (.ireturn, 1) := by decide +kernel
theorem dX1_takeNumber_0 : decode cX1_takeNumber 0 = .ok (.aload_n 0, 1) := by decide +kernel
theorem dX1_takeNumber_1 : decode cX1_takeNumber 1 = .ok (.getfield 9, 3) := by decide +kernel
theorem dX1_takeNumber_4 : decode cX1_takeNumber 4 = .ok (.aload_n 0, 1) := by decide +kernel
theorem dX1_takeNumber_5 : decode cX1_takeNumber 5 = .ok (.getfield 110, 3) := by decide +kernel
theorem dX1_takeNumber_8 : decode cX1_takeNumber 8 = .ok (.iaload, 1) := by decide +kernel
theorem dX1_takeNumber_9 : decode cX1_takeNumber 9 = .ok (.bipush 17, 2) := by decide +kernel
theorem dX1_takeNumber_11 : decode cX1_takeNumber 11 = .ok (.if_icmp .ne 16, 3) := by decide +kernel
theorem dX1_takeNumber_14 : decode cX1_takeNumber 14 = .ok (.aload_n 0, 1) := by decide +kernel
theorem dX1_takeNumber_15 : decode cX1_takeNumber 15 = .ok (.getfield 18, 3) := by decide +kernel
theorem dX1_takeNumber_18 : decode cX1_takeNumber 18 = .ok (.aload_n 0, 1) := by decide +kernel
theorem dX1_takeNumber_19 : decode cX1_takeNumber 19 = .ok (.getfield 110, 3) := by decide +kernel
theorem dX1_takeNumber_22 : decode cX1_takeNumber 22 = .ok (.iaload, 1) := by decide +kernel
theorem dX1_takeNumber_23 : decode cX1_takeNumber 23 = .ok (.iload_n 1, 1) := by decide +kernel
theorem dX1_takeNumber_24 : decode cX1_takeNumber 24 = .ok (.if_icmp .le 10, 3) := by decide +kernel
theorem dX1_takeNumber_27 : decode cX1_takeNumber 27 = .ok (.aload_n 0, 1) := by decide +kernel
theorem dX1_takeNumber_28 : decode cX1_takeNumber 28 = .ok (.iconst 1, 1) := by decide +kernel
theorem dX1_takeNumber_29 : decode cX1_takeNumber 29 = .ok (.putfield 101, 3) := by decide +kernel
theorem dX1_takeNumber_32 : decode cX1_takeNumber 32 = .ok (.iconst (-1), 1) := by decide +kernel
theorem dX1_takeNumber_33 : decode cX1_takeNumber 33 = .ok (.ireturn, 1) := by decide +kernel
theorem dX1_takeNumber_34 : decode cX1_takeNumber 34 = .ok (.aload_n 0, 1) := by decide +kernel
theorem dX1_takeNumber_35 : decode cX1_takeNumber 35 = .ok (.getfield 18, 3) := by decide +kernel
theorem dX1_takeNumber_38 : decode cX1_takeNumber 38 = .ok (.aload_n 0, 1) := by decide +kernel
theorem dX1_takeNumber_39 : decode cX1_takeNumber 39 = .ok (.getfield 110, 3) := by decide +kernel
theorem dX1_takeNumber_42 : decode cX1_takeNumber 42 = .ok (.iaload, 1) := by decide +kernel
theorem dX1_takeNumber_43 : decode cX1_takeNumber 43 = .ok (.istore_n 2, 1) := by decide +kernel
theorem dX1_takeNumber_44 : decode cX1_takeNumber 44 = .ok (.aload_n 0, 1) := by decide +kernel
theorem dX1_takeNumber_45 : decode cX1_takeNumber 45 = .ok (.invokevirtual 117, 3) := by decide +kernel
theorem dX1_takeNumber_48 : decode cX1_takeNumber 48 = .ok (.iload_n 2, 1) := by decide +kernel
theorem dX1_takeNumber_49 : decode cX1_takeNumber 49 = .ok (.ireturn, 1) := by decide +kernel
theorem dX2_init_0 : decode cX2_init 0 = .ok (.aload_n 0, 1) := by decide +kernel
theorem dX2_init_1 : decode cX2_init 1 = .ok (.invokespecial 3, 3) := by decide +kernel
theorem dX2_init_4 : decode cX2_init 4 = .ok (.aload_n 0, 1) := by decide +kernel
theorem dX2_init_5 : decode cX2_init 5 = .ok (.bipush 40, 2) := by decide +kernel
theorem dX2_init_7 : decode cX2_init 7 = .ok (.newarray .int, 2) := by decide +kernel
theorem dX2_init_9 : decode cX2_init 9 = .ok (.putfield 9, 3) := by decide +kernel
theorem dX2_init_12 : decode cX2_init 12 = .ok (.return_, 1) := by decide +kernel
theorem dX2_begin_0 : decode cX2_begin 0 = .ok (.aload_n 0, 1) := by decide +kernel
theorem dX2_begin_1 : decode cX2_begin 1 = .ok (.iload_n 1, 1) := by decide +kernel
theorem dX2_begin_2 : decode cX2_begin 2 = .ok (.putfield 15, 3) := by decide +kernel
theorem dX2_begin_5 : decode cX2_begin 5 = .ok (.aload_n 0, 1) := by decide +kernel
theorem dX2_begin_6 : decode cX2_begin 6 = .ok (.iload_n 2, 1) := by decide +kernel
theorem dX2_begin_7 : decode cX2_begin 7 = .ok (.putfield 19, 3) := by decide +kernel
theorem dX2_begin_10 : decode cX2_begin 10 = .ok (.aload_n 0, 1) := by decide +kernel
theorem dX2_begin_11 : decode cX2_begin 11 = .ok (.getfield 9, 3) := by decide +kernel
theorem dX2_begin_14 : decode cX2_begin 14 = .ok (.iconst 0, 1) := by decide +kernel
theorem dX2_begin_15 : decode cX2_begin 15 = .ok (.invokestatic 22, 3) := by decide +kernel
theorem dX2_begin_18 : decode cX2_begin 18 = .ok (.return_, 1) := by decide +kernel
theorem dX2_isMissing_0 : decode cX2_isMissing 0 = .ok (.aload_n 0, 1) := by decide +kernel
theorem dX2_isMissing_1 : decode cX2_isMissing 1 = .ok (.getfield 15, 3) := by decide +kernel
theorem dX2_isMissing_4 : decode cX2_isMissing 4 = .ok (.ifCond .ne 7, 3) := by decide +kernel
theorem dX2_isMissing_7 : decode cX2_isMissing 7 = .ok (.iconst 1, 1) := by decide +kernel
theorem dX2_isMissing_8 : decode cX2_isMissing 8 = .ok (.goto 4, 3) := by decide +kernel
theorem dX2_isMissing_11 : decode cX2_isMissing 11 = .ok (.iconst 0, 1) := by decide +kernel
theorem dX2_isMissing_12 : decode cX2_isMissing 12 = .ok (.ireturn, 1) := by decide +kernel
theorem dX2_lowest_0 : decode cX2_lowest 0 = .ok (.aload_n 0, 1) := by decide +kernel
theorem dX2_lowest_1 : decode cX2_lowest 1 = .ok (.getfield 15, 3) := by decide +kernel
theorem dX2_lowest_4 : decode cX2_lowest 4 = .ok (.bipush 8, 2) := by decide +kernel
theorem dX2_lowest_6 : decode cX2_lowest 6 = .ok (.if_icmp .ne 6, 3) := by decide +kernel
theorem dX2_lowest_9 : decode cX2_lowest 9 = .ok (.iload_n 1, 1) := by decide +kernel
theorem dX2_lowest_10 : decode cX2_lowest 10 = .ok (.i2b, 1) := by decide +kernel
theorem dX2_lowest_11 : decode cX2_lowest 11 = .ok (.ireturn, 1) := by decide +kernel
theorem dX2_lowest_12 : decode cX2_lowest 12 = .ok (.aload_n 0, 1) := by decide +kernel
theorem dX2_lowest_13 : decode cX2_lowest 13 = .ok (.getfield 15, 3) := by decide +kernel
theorem dX2_lowest_16 : decode cX2_lowest 16 = .ok (.bipush 16, 2) := by decide +kernel
theorem dX2_lowest_18 : decode cX2_lowest 18 = .ok (.if_icmp .ne 8, 3) := by decide +kernel
theorem dX2_lowest_21 : decode cX2_lowest 21 = .ok (.iload_n 1, 1) := by decide +kernel
theorem dX2_lowest_22 : decode cX2_lowest 22 = .ok (.i2s, 1) := by decide +kernel
theorem dX2_lowest_23 : decode cX2_lowest 23 = .ok (.goto 4, 3) := by decide +kernel
theorem dX2_lowest_26 : decode cX2_lowest 26 = .ok (.iload_n 1, 1) := by decide +kernel
theorem dX2_lowest_27 : decode cX2_lowest 27 = .ok (.ireturn, 1) := by decide +kernel
theorem dX2_has_0 : decode cX2_has 0 = .ok (.iload_n 1, 1) := by decide +kernel
theorem dX2_has_1 : decode cX2_has 1 = .ok (.ifCond .lt 29, 3) := by decide +kernel
theorem dX2_has_4 : decode cX2_has 4 = .ok (.iload_n 2, 1) := by decide +kernel
theorem dX2_has_5 : decode cX2_has 5 = .ok (.ifCond .lt 25, 3) := by decide +kernel
theorem dX2_has_8 : decode cX2_has 8 = .ok (.iload_n 1, 1) := by decide +kernel
theorem dX2_has_9 : decode cX2_has 9 = .ok (.aload_n 0, 1) := by decide +kernel
theorem dX2_has_10 : decode cX2_has 10 = .ok (.getfield 19, 3) := by decide +kernel
theorem dX2_has_13 : decode cX2_has 13 = .ok (.if_icmp .gt 17, 3) := by decide +kernel
theorem dX2_has_16 : decode cX2_has 16 = .ok (.iload_n 2, 1) := by decide +kernel
theorem dX2_has_17 : decode cX2_has 17 = .ok (.aload_n 0, 1) := by decide +kernel
theorem dX2_has_18 : decode cX2_has 18 = .ok (.getfield 19, 3) := by decide +kernel
theorem dX2_has_21 : decode cX2_has 21 = .ok (.iload_n 1, 1) := by decide +kernel
theorem dX2_has_22 : decode cX2_has 22 = .ok (.isub, 1) := by decide +kernel
theorem dX2_has_23 : decode cX2_has 23 = .ok (.if_icmp .gt 7, 3) := by decide +kernel
theorem dX2_has_26 : decode cX2_has 26 = .ok (.iconst 1, 1) := by decide +kernel
theorem dX2_has_27 : decode cX2_has 27 = .ok (.goto 4, 3) := by decide +kernel
theorem dX2_has_30 : decode cX2_has 30 = .ok (.iconst 0, 1) := by decide +kernel
theorem dX2_has_31 : decode cX2_has 31 = .ok (.ireturn, 1) := by decide +kernel
theorem dX3_init_0 : decode cX3_init 0 = .ok (.aload_n 0, 1) := by decide +kernel
theorem dX3_init_1 : decode cX3_init 1 = .ok (.invokespecial 3, 3) := by decide +kernel
theorem dX3_init_4 : decode cX3_init 4 = .ok (.aload_n 0, 1) := by decide +kernel
theorem dX3_init_5 : decode cX3_init 5 = .ok (.bipush 120, 2) := by decide +kernel
theorem dX3_init_7 : decode cX3_init 7 = .ok (.newarray .int, 2) := by decide +kernel
theorem dX3_init_9 : decode cX3_init 9 = .ok (.putfield 9, 3) := by decide +kernel
theorem dX3_init_12 : decode cX3_init 12 = .ok (.return_, 1) := by decide +kernel
theorem dX3_add_0 : decode cX3_add 0 = .ok (.aload_n 0, 1) := by decide +kernel
theorem dX3_add_1 : decode cX3_add 1 = .ok (.getfield 15, 3) := by decide +kernel
theorem dX3_add_4 : decode cX3_add 4 = .ok (.bipush 120, 2) := by decide +kernel
theorem dX3_add_6 : decode cX3_add 6 = .ok (.if_icmp .ge 23, 3) := by decide +kernel
theorem dX3_add_9 : decode cX3_add 9 = .ok (.aload_n 0, 1) := by decide +kernel
theorem dX3_add_10 : decode cX3_add 10 = .ok (.getfield 9, 3) := by decide +kernel
theorem dX3_add_13 : decode cX3_add 13 = .ok (.aload_n 0, 1) := by decide +kernel
theorem dX3_add_14 : decode cX3_add 14 = .ok (.getfield 15, 3) := by decide +kernel
theorem dX3_add_17 : decode cX3_add 17 = .ok (.iload_n 1, 1) := by decide +kernel
theorem dX3_add_18 : decode cX3_add 18 = .ok (.iastore, 1) := by decide +kernel
theorem dX3_add_19 : decode cX3_add 19 = .ok (.aload_n 0, 1) := by decide +kernel
theorem dX3_add_20 : decode cX3_add 20 = .ok (.dup, 1) := by decide +kernel
theorem dX3_add_21 : decode cX3_add 21 = .ok (.getfield 15, 3) := by decide +kernel
theorem dX3_add_24 : decode cX3_add 24 = .ok (.iconst 1, 1) := by decide +kernel
theorem dX3_add_25 : decode cX3_add 25 = .ok (.iadd, 1) := by decide +kernel
theorem dX3_add_26 : decode cX3_add 26 = .ok (.putfield 15, 3) := by decide +kernel
theorem dX3_add_29 : decode cX3_add 29 = .ok (.return_, 1) := by decide +kernel
theorem dX3_runEnd_0 : decode cX3_runEnd 0 = .ok (.iload_n 1, 1) := by decide +kernel
theorem dX3_runEnd_1 : decode cX3_runEnd 1 = .ok (.istore 4, 2) := by decide +kernel
theorem dX3_runEnd_3 : decode cX3_runEnd 3 = .ok (.iload 4, 2) := by decide +kernel
theorem dX3_runEnd_5 : decode cX3_runEnd 5 = .ok (.aload_n 0, 1) := by decide +kernel
theorem dX3_runEnd_6 : decode cX3_runEnd 6 = .ok (.getfield 15, 3) := by decide +kernel
theorem dX3_runEnd_9 : decode cX3_runEnd 9 = .ok (.if_icmp .ge 24, 3) := by decide +kernel
theorem dX3_runEnd_12 : decode cX3_runEnd 12 = .ok (.aload_n 0, 1) := by decide +kernel
theorem dX3_runEnd_13 : decode cX3_runEnd 13 = .ok (.getfield 9, 3) := by decide +kernel
theorem dX3_runEnd_16 : decode cX3_runEnd 16 = .ok (.iload 4, 2) := by decide +kernel
theorem dX3_runEnd_18 : decode cX3_runEnd 18 = .ok (.iaload, 1) := by decide +kernel
theorem dX3_runEnd_19 : decode cX3_runEnd 19 = .ok (.iload_n 2, 1) := by decide +kernel
theorem dX3_runEnd_20 : decode cX3_runEnd 20 = .ok (.iload_n 3, 1) := by decide +kernel
theorem dX3_runEnd_21 : decode cX3_runEnd 21 = .ok (.invokestatic 19, 3) := by decide +kernel
theorem dX3_runEnd_24 : decode cX3_runEnd 24 = .ok (.ifCond .eq 9, 3) := by decide +kernel
theorem dX3_runEnd_27 : decode cX3_runEnd 27 = .ok (.iinc 4 1, 3) := by decide +kernel
theorem dX3_runEnd_30 : decode cX3_runEnd 30 = .ok (.goto (-27), 3) := by decide +kernel
theorem dX3_runEnd_33 : decode cX3_runEnd 33 = .ok (.iload 4, 2) := by decide +kernel
theorem dX3_runEnd_35 : decode cX3_runEnd 35 = .ok (.ireturn, 1) := by decide +kernel
theorem dX3_numberAt_0 : decode cX3_numberAt 0 = .ok (.iconst 0, 1) := by decide +kernel
theorem dX3_numberAt_1 : decode cX3_numberAt 1 = .ok (.istore_n 3, 1) := by decide +kernel
theorem dX3_numberAt_2 : decode cX3_numberAt 2 = .ok (.iload_n 1, 1) := by decide +kernel
theorem dX3_numberAt_3 : decode cX3_numberAt 3 = .ok (.istore 4, 2) := by decide +kernel
theorem dX3_numberAt_5 : decode cX3_numberAt 5 = .ok (.iload 4, 2) := by decide +kernel
theorem dX3_numberAt_7 : decode cX3_numberAt 7 = .ok (.iload_n 2, 1) := by decide +kernel
theorem dX3_numberAt_8 : decode cX3_numberAt 8 = .ok (.if_icmp .ge 39, 3) := by decide +kernel
theorem dX3_numberAt_11 : decode cX3_numberAt 11 = .ok (.iload 4, 2) := by decide +kernel
theorem dX3_numberAt_13 : decode cX3_numberAt 13 = .ok (.aload_n 0, 1) := by decide +kernel
theorem dX3_numberAt_14 : decode cX3_numberAt 14 = .ok (.getfield 15, 3) := by decide +kernel
theorem dX3_numberAt_17 : decode cX3_numberAt 17 = .ok (.if_icmp .ge 30, 3) := by decide +kernel
theorem dX3_numberAt_20 : decode cX3_numberAt 20 = .ok (.iload_n 3, 1) := by decide +kernel
theorem dX3_numberAt_21 : decode cX3_numberAt 21 = .ok (.bipush 10, 2) := by decide +kernel
theorem dX3_numberAt_23 : decode cX3_numberAt 23 = .ok (.imul, 1) := by decide +kernel
theorem dX3_numberAt_24 : decode cX3_numberAt 24 = .ok (.aload_n 0, 1) := by decide +kernel
theorem dX3_numberAt_25 : decode cX3_numberAt 25 = .ok (.getfield 9, 3) := by decide +kernel
theorem dX3_numberAt_28 : decode cX3_numberAt 28 = .ok (.iload 4, 2) := by decide +kernel
theorem dX3_numberAt_30 : decode cX3_numberAt 30 = .ok (.iaload, 1) := by decide +kernel
theorem dX3_numberAt_31 : decode cX3_numberAt 31 = .ok (.iadd, 1) := by decide +kernel
theorem dX3_numberAt_32 : decode cX3_numberAt 32 = .ok (.bipush 48, 2) := by decide +kernel
theorem dX3_numberAt_34 : decode cX3_numberAt 34 = .ok (.isub, 1) := by decide +kernel
theorem dX3_numberAt_35 : decode cX3_numberAt 35 = .ok (.ldc 23, 2) := by decide +kernel
theorem dX3_numberAt_37 : decode cX3_numberAt 37 = .ok (.invokestatic 24, 3) := by decide +kernel
theorem dX3_numberAt_40 : decode cX3_numberAt 40 = .ok (.istore_n 3, 1) := by decide +kernel
theorem dX3_numberAt_41 : decode cX3_numberAt 41 = .ok (.iinc 4 1, 3) := by decide +kernel
theorem dX3_numberAt_44 : decode cX3_numberAt 44 = .ok (.goto (-39), 3) := by decide +kernel
theorem dX3_numberAt_47 : decode cX3_numberAt 47 = .ok (.iload_n 3, 1) := by decide +kernel
theorem dX3_numberAt_48 : decode cX3_numberAt 48 = .ok (.ireturn, 1) := by decide +kernel
theorem dX3_isWordAt_0 : decode cX3_isWordAt 0 = .ok (.iload_n 2, 1) := by decide +kernel
theorem dX3_isWordAt_1 : decode cX3_isWordAt 1 = .ok (.iload_n 1, 1) := by decide +kernel
theorem dX3_isWordAt_2 : decode cX3_isWordAt 2 = .ok (.isub, 1) := by decide +kernel
theorem dX3_isWordAt_3 : decode cX3_isWordAt 3 = .ok (.aload_n 3, 1) := by decide +kernel
theorem dX3_isWordAt_4 : decode cX3_isWordAt 4 = .ok (.invokevirtual 30, 3) := by decide +kernel
theorem dX3_isWordAt_7 : decode cX3_isWordAt 7 = .ok (.if_icmp .ne 11, 3) := by decide +kernel
theorem dX3_isWordAt_10 : decode cX3_isWordAt 10 = .ok (.iload_n 2, 1) := by decide +kernel
theorem dX3_isWordAt_11 : decode cX3_isWordAt 11 = .ok (.aload_n 0, 1) := by decide +kernel
theorem dX3_isWordAt_12 : decode cX3_isWordAt 12 = .ok (.getfield 15, 3) := by decide +kernel
theorem dX3_isWordAt_15 : decode cX3_isWordAt 15 = .ok (.if_icmp .le 5, 3) := by decide +kernel
theorem dX3_isWordAt_18 : decode cX3_isWordAt 18 = .ok (.iconst 0, 1) := by decide +kernel
theorem dX3_isWordAt_19 : decode cX3_isWordAt 19 = .ok (.ireturn, 1) := by decide +kernel
theorem dX3_isWordAt_20 : decode cX3_isWordAt 20 = .ok (.iload_n 1, 1) := by decide +kernel
theorem dX3_isWordAt_21 : decode cX3_isWordAt 21 = .ok (.istore 4, 2) := by decide +kernel
theorem dX3_isWordAt_23 : decode cX3_isWordAt 23 = .ok (.iload 4, 2) := by decide +kernel
theorem dX3_isWordAt_25 : decode cX3_isWordAt 25 = .ok (.iload_n 2, 1) := by decide +kernel
theorem dX3_isWordAt_26 : decode cX3_isWordAt 26 = .ok (.if_icmp .ge 29, 3) := by decide +kernel
theorem dX3_isWordAt_29 : decode cX3_isWordAt 29 = .ok (.aload_n 0, 1) := by decide +kernel
theorem dX3_isWordAt_30 : decode cX3_isWordAt 30 = .ok (.getfield 9, 3) := by decide +kernel
theorem dX3_isWordAt_33 : decode cX3_isWordAt 33 = .ok (.iload 4, 2) := by decide +kernel
theorem dX3_isWordAt_35 : decode cX3_isWordAt 35 = .ok (.iaload, 1) := by decide +kernel
theorem dX3_isWordAt_36 : decode cX3_isWordAt 36 = .ok (.aload_n 3, 1) := by decide +kernel
theorem dX3_isWordAt_37 : decode cX3_isWordAt 37 = .ok (.iload 4, 2) := by decide +kernel
theorem dX3_isWordAt_39 : decode cX3_isWordAt 39 = .ok (.iload_n 1, 1) := by decide +kernel
theorem dX3_isWordAt_40 : decode cX3_isWordAt 40 = .ok (.isub, 1) := by decide +kernel
theorem dX3_isWordAt_41 : decode cX3_isWordAt 41 = .ok (.invokevirtual 35, 3) := by decide +kernel
theorem dX3_isWordAt_44 : decode cX3_isWordAt 44 = .ok (.if_icmp .eq 5, 3) := by decide +kernel
theorem dX3_isWordAt_47 : decode cX3_isWordAt 47 = .ok (.iconst 0, 1) := by decide +kernel
theorem dX3_isWordAt_48 : decode cX3_isWordAt 48 = .ok (.ireturn, 1) := by decide +kernel
theorem dX3_isWordAt_49 : decode cX3_isWordAt 49 = .ok (.iinc 4 1, 3) := by decide +kernel
theorem dX3_isWordAt_52 : decode cX3_isWordAt 52 = .ok (.goto (-29), 3) := by decide +kernel
theorem dX3_isWordAt_55 : decode cX3_isWordAt 55 = .ok (.iconst 1, 1) := by decide +kernel
theorem dX3_isWordAt_56 : decode cX3_isWordAt 56 = .ok (.ireturn, 1) := by decide +kernel
theorem dJ6_bitCount_0f7a4_0 : decode cJ6_bitCount_0f7a4 0 = .ok (.iload_n 0, 1) := by decide +kernel
theorem dJ6_bitCount_0f7a4_1 : decode cJ6_bitCount_0f7a4 1 = .ok (.iload_n 0, 1) := by decide +kernel
theorem dJ6_bitCount_0f7a4_2 : decode cJ6_bitCount_0f7a4 2 = .ok (.iconst 1, 1) := by decide +kernel
theorem dJ6_bitCount_0f7a4_3 : decode cJ6_bitCount_0f7a4 3 = .ok (.iushr, 1) := by decide +kernel
theorem dJ6_bitCount_0f7a4_4 : decode cJ6_bitCount_0f7a4 4 = .ok (.ldc_w 265, 3) := by decide +kernel
theorem dJ6_bitCount_0f7a4_7 : decode cJ6_bitCount_0f7a4 7 = .ok (.iand, 1) := by decide +kernel
theorem dJ6_bitCount_0f7a4_8 : decode cJ6_bitCount_0f7a4 8 = .ok (.isub, 1) := by decide +kernel
theorem dJ6_bitCount_0f7a4_9 : decode cJ6_bitCount_0f7a4 9 = .ok (.istore_n 0, 1) := by decide +kernel
theorem dJ6_bitCount_0f7a4_10 : decode cJ6_bitCount_0f7a4 10 = .ok (.iload_n 0, 1) := by decide +kernel
theorem dJ6_bitCount_0f7a4_11 : decode cJ6_bitCount_0f7a4 11 = .ok (.ldc_w 266, 3) := by decide +kernel
theorem dJ6_bitCount_0f7a4_14 : decode cJ6_bitCount_0f7a4 14 = .ok (.iand, 1) := by decide +kernel
theorem dJ6_bitCount_0f7a4_15 : decode cJ6_bitCount_0f7a4 15 = .ok (.iload_n 0, 1) := by decide +kernel
theorem dJ6_bitCount_0f7a4_16 : decode cJ6_bitCount_0f7a4 16 = .ok (.iconst 2, 1) := by decide +kernel
theorem dJ6_bitCount_0f7a4_17 : decode cJ6_bitCount_0f7a4 17 = .ok (.iushr, 1) := by decide +kernel
theorem dJ6_bitCount_0f7a4_18 : decode cJ6_bitCount_0f7a4 18 = .ok (.ldc_w 266, 3) := by decide +kernel
theorem dJ6_bitCount_0f7a4_21 : decode cJ6_bitCount_0f7a4 21 = .ok (.iand, 1) := by decide +kernel
theorem dJ6_bitCount_0f7a4_22 : decode cJ6_bitCount_0f7a4 22 = .ok (.iadd, 1) := by decide +kernel
theorem dJ6_bitCount_0f7a4_23 : decode cJ6_bitCount_0f7a4 23 = .ok (.istore_n 0, 1) := by decide +kernel
theorem dJ6_bitCount_0f7a4_24 : decode cJ6_bitCount_0f7a4 24 = .ok (.iload_n 0, 1) := by decide +kernel
theorem dJ6_bitCount_0f7a4_25 : decode cJ6_bitCount_0f7a4 25 = .ok (.iload_n 0, 1) := by decide +kernel
theorem dJ6_bitCount_0f7a4_26 : decode cJ6_bitCount_0f7a4 26 = .ok (.iconst 4, 1) := by decide +kernel
theorem dJ6_bitCount_0f7a4_27 : decode cJ6_bitCount_0f7a4 27 = .ok (.iushr, 1) := by decide +kernel
theorem dJ6_bitCount_0f7a4_28 : decode cJ6_bitCount_0f7a4 28 = .ok (.iadd, 1) := by decide +kernel
theorem dJ6_bitCount_0f7a4_29 : decode cJ6_bitCount_0f7a4 29 = .ok (.ldc_w 267, 3) := by decide +kernel
theorem dJ6_bitCount_0f7a4_32 : decode cJ6_bitCount_0f7a4 32 = .ok (.iand, 1) := by decide +kernel
theorem dJ6_bitCount_0f7a4_33 : decode cJ6_bitCount_0f7a4 33 = .ok (.istore_n 0, 1) := by decide +kernel
theorem dJ6_bitCount_0f7a4_34 : decode cJ6_bitCount_0f7a4 34 = .ok (.iload_n 0, 1) := by decide +kernel
theorem dJ6_bitCount_0f7a4_35 : decode cJ6_bitCount_0f7a4 35 = .ok (.iload_n 0, 1) := by decide +kernel
theorem dJ6_bitCount_0f7a4_36 : decode cJ6_bitCount_0f7a4 36 = .ok (.bipush 8, 2) := by decide +kernel
theorem dJ6_bitCount_0f7a4_38 : decode cJ6_bitCount_0f7a4 38 = .ok (.iushr, 1) := by decide +kernel
theorem dJ6_bitCount_0f7a4_39 : decode cJ6_bitCount_0f7a4 39 = .ok (.iadd, 1) := by decide +kernel
theorem dJ6_bitCount_0f7a4_40 : decode cJ6_bitCount_0f7a4 40 = .ok (.istore_n 0, 1) := by decide +kernel
theorem dJ6_bitCount_0f7a4_41 : decode cJ6_bitCount_0f7a4 41 = .ok (.iload_n 0, 1) := by decide +kernel
theorem dJ6_bitCount_0f7a4_42 : decode cJ6_bitCount_0f7a4 42 = .ok (.iload_n 0, 1) := by decide +kernel
theorem dJ6_bitCount_0f7a4_43 : decode cJ6_bitCount_0f7a4 43 = .ok (.bipush 16, 2) := by decide +kernel
theorem dJ6_bitCount_0f7a4_45 : decode cJ6_bitCount_0f7a4 45 = .ok (.iushr, 1) := by decide +kernel
theorem dJ6_bitCount_0f7a4_46 : decode cJ6_bitCount_0f7a4 46 = .ok (.iadd, 1) := by decide +kernel
theorem dJ6_bitCount_0f7a4_47 : decode cJ6_bitCount_0f7a4 47 = .ok (.istore_n 0, 1) := by decide +kernel
theorem dJ6_bitCount_0f7a4_48 : decode cJ6_bitCount_0f7a4 48 = .ok (.iload_n 0, 1) := by decide +kernel
theorem dJ6_bitCount_0f7a4_49 : decode cJ6_bitCount_0f7a4 49 = .ok (.bipush 63, 2) := by decide +kernel
theorem dJ6_bitCount_0f7a4_51 : decode cJ6_bitCount_0f7a4 51 = .ok (.iand, 1) := by decide +kernel
theorem dJ6_bitCount_0f7a4_52 : decode cJ6_bitCount_0f7a4 52 = .ok (.ireturn, 1) := by decide +kernel
theorem dJ9_floorMod_7cf53_0 : decode cJ9_floorMod_7cf53 0 = .ok (.iload_n 0, 1) := by decide +kernel
theorem dJ9_floorMod_7cf53_1 : decode cJ9_floorMod_7cf53 1 = .ok (.iload_n 1, 1) := by decide +kernel
theorem dJ9_floorMod_7cf53_2 : decode cJ9_floorMod_7cf53 2 = .ok (.irem, 1) := by decide +kernel
theorem dJ9_floorMod_7cf53_3 : decode cJ9_floorMod_7cf53 3 = .ok (.istore_n 2, 1) := by decide +kernel
theorem dJ9_floorMod_7cf53_4 : decode cJ9_floorMod_7cf53 4 = .ok (.iload_n 0, 1) := by decide +kernel
theorem dJ9_floorMod_7cf53_5 : decode cJ9_floorMod_7cf53 5 = .ok (.iload_n 1, 1) := by decide +kernel
theorem dJ9_floorMod_7cf53_6 : decode cJ9_floorMod_7cf53 6 = .ok (.ixor, 1) := by decide +kernel
theorem dJ9_floorMod_7cf53_7 : decode cJ9_floorMod_7cf53 7 = .ok (.ifCond .ge 11, 3) := by decide +kernel
theorem dJ9_floorMod_7cf53_10 : decode cJ9_floorMod_7cf53 10 = .ok (.iload_n 2, 1) := by decide +kernel
theorem dJ9_floorMod_7cf53_11 : decode cJ9_floorMod_7cf53 11 = .ok (.ifCond .eq 7, 3) := by decide +kernel
theorem dJ9_floorMod_7cf53_14 : decode cJ9_floorMod_7cf53 14 = .ok (.iload_n 2, 1) := by decide +kernel
theorem dJ9_floorMod_7cf53_15 : decode cJ9_floorMod_7cf53 15 = .ok (.iload_n 1, 1) := by decide +kernel
theorem dJ9_floorMod_7cf53_16 : decode cJ9_floorMod_7cf53 16 = .ok (.iadd, 1) := by decide +kernel
theorem dJ9_floorMod_7cf53_17 : decode cJ9_floorMod_7cf53 17 = .ok (.ireturn, 1) := by decide +kernel
theorem dJ9_floorMod_7cf53_18 : decode cJ9_floorMod_7cf53 18 = .ok (.iload_n 2, 1) := by decide +kernel
theorem dJ9_floorMod_7cf53_19 : decode cJ9_floorMod_7cf53 19 = .ok (.ireturn, 1) := by decide +kernel
theorem dJ9_abs_0f7a4_0 : decode cJ9_abs_0f7a4 0 = .ok (.iload_n 0, 1) := by decide +kernel
theorem dJ9_abs_0f7a4_1 : decode cJ9_abs_0f7a4 1 = .ok (.ifCond .ge 8, 3) := by decide +kernel
theorem dJ9_abs_0f7a4_4 : decode cJ9_abs_0f7a4 4 = .ok (.iload_n 0, 1) := by decide +kernel
theorem dJ9_abs_0f7a4_5 : decode cJ9_abs_0f7a4 5 = .ok (.ineg, 1) := by decide +kernel
theorem dJ9_abs_0f7a4_6 : decode cJ9_abs_0f7a4 6 = .ok (.goto 4, 3) := by decide +kernel
theorem dJ9_abs_0f7a4_9 : decode cJ9_abs_0f7a4 9 = .ok (.iload_n 0, 1) := by decide +kernel
theorem dJ9_abs_0f7a4_10 : decode cJ9_abs_0f7a4 10 = .ok (.ireturn, 1) := by decide +kernel
theorem dJ9_max_7cf53_0 : decode cJ9_max_7cf53 0 = .ok (.iload_n 0, 1) := by decide +kernel
theorem dJ9_max_7cf53_1 : decode cJ9_max_7cf53 1 = .ok (.iload_n 1, 1) := by decide +kernel
theorem dJ9_max_7cf53_2 : decode cJ9_max_7cf53 2 = .ok (.if_icmp .lt 7, 3) := by decide +kernel
theorem dJ9_max_7cf53_5 : decode cJ9_max_7cf53 5 = .ok (.iload_n 0, 1) := by decide +kernel
theorem dJ9_max_7cf53_6 : decode cJ9_max_7cf53 6 = .ok (.goto 4, 3) := by decide +kernel
theorem dJ9_max_7cf53_9 : decode cJ9_max_7cf53 9 = .ok (.iload_n 1, 1) := by decide +kernel
theorem dJ9_max_7cf53_10 : decode cJ9_max_7cf53 10 = .ok (.ireturn, 1) := by decide +kernel
theorem dJ9_min_7cf53_0 : decode cJ9_min_7cf53 0 = .ok (.iload_n 0, 1) := by decide +kernel
theorem dJ9_min_7cf53_1 : decode cJ9_min_7cf53 1 = .ok (.iload_n 1, 1) := by decide +kernel
theorem dJ9_min_7cf53_2 : decode cJ9_min_7cf53 2 = .ok (.if_icmp .gt 7, 3) := by decide +kernel
theorem dJ9_min_7cf53_5 : decode cJ9_min_7cf53 5 = .ok (.iload_n 0, 1) := by decide +kernel
theorem dJ9_min_7cf53_6 : decode cJ9_min_7cf53 6 = .ok (.goto 4, 3) := by decide +kernel
theorem dJ9_min_7cf53_9 : decode cJ9_min_7cf53 9 = .ok (.iload_n 1, 1) := by decide +kernel
theorem dJ9_min_7cf53_10 : decode cJ9_min_7cf53 10 = .ok (.ireturn, 1) := by decide +kernel
theorem dJ0_length_8abf5_0 : decode cJ0_length_8abf5 0 = .ok (.aload_n 0, 1) := by decide +kernel
theorem dJ0_length_8abf5_1 : decode cJ0_length_8abf5 1 = .ok (.getfield 9, 3) := by decide +kernel
theorem dJ0_length_8abf5_4 : decode cJ0_length_8abf5 4 = .ok (.arraylength, 1) := by decide +kernel
theorem dJ0_length_8abf5_5 : decode cJ0_length_8abf5 5 = .ok (.aload_n 0, 1) := by decide +kernel
theorem dJ0_length_8abf5_6 : decode cJ0_length_8abf5 6 = .ok (.invokevirtual 335, 3) := by decide +kernel
theorem dJ0_length_8abf5_9 : decode cJ0_length_8abf5 9 = .ok (.ishr, 1) := by decide +kernel
theorem dJ0_length_8abf5_10 : decode cJ0_length_8abf5 10 = .ok (.ireturn, 1) := by decide +kernel
theorem dJ0_charAt_5068e_0 : decode cJ0_charAt_5068e 0 = .ok (.aload_n 0, 1) := by decide +kernel
theorem dJ0_charAt_5068e_1 : decode cJ0_charAt_5068e 1 = .ok (.invokevirtual 492, 3) := by decide +kernel
theorem dJ0_charAt_5068e_4 : decode cJ0_charAt_5068e 4 = .ok (.ifCond .eq 12, 3) := by decide +kernel
theorem dJ0_charAt_5068e_7 : decode cJ0_charAt_5068e 7 = .ok (.aload_n 0, 1) := by decide +kernel
theorem dJ0_charAt_5068e_8 : decode cJ0_charAt_5068e 8 = .ok (.getfield 9, 3) := by decide +kernel
theorem dJ0_charAt_5068e_11 : decode cJ0_charAt_5068e 11 = .ok (.iload_n 1, 1) := by decide +kernel
theorem dJ0_charAt_5068e_12 : decode cJ0_charAt_5068e 12 = .ok (.invokestatic 495, 3) := by decide +kernel
theorem dJ0_charAt_5068e_15 : decode cJ0_charAt_5068e 15 = .ok (.ireturn, 1) := by decide +kernel
theorem dJ0_charAt_5068e_16 : decode cJ0_charAt_5068e 16 = .ok (.aload_n 0, 1) := by decide +kernel
theorem dJ0_charAt_5068e_17 : decode cJ0_charAt_5068e 17 = .ok (.getfield 9, 3) := by decide +kernel
theorem dJ0_charAt_5068e_20 : decode cJ0_charAt_5068e 20 = .ok (.iload_n 1, 1) := by decide +kernel
theorem dJ0_charAt_5068e_21 : decode cJ0_charAt_5068e 21 = .ok (.invokestatic 498, 3) := by decide +kernel
theorem dJ0_charAt_5068e_24 : decode cJ0_charAt_5068e 24 = .ok (.ireturn, 1) := by decide +kernel
theorem dJ0_coder_7d493_0 : decode cJ0_coder_7d493 0 = .ok (.getstatic 38, 3) := by decide +kernel
theorem dJ0_coder_7d493_3 : decode cJ0_coder_7d493 3 = .ok (.ifCond .eq 10, 3) := by decide +kernel
theorem dJ0_coder_7d493_6 : decode cJ0_coder_7d493 6 = .ok (.aload_n 0, 1) := by decide +kernel
theorem dJ0_coder_7d493_7 : decode cJ0_coder_7d493 7 = .ok (.getfield 15, 3) := by decide +kernel
theorem dJ0_coder_7d493_10 : decode cJ0_coder_7d493 10 = .ok (.goto 4, 3) := by decide +kernel
theorem dJ0_coder_7d493_13 : decode cJ0_coder_7d493 13 = .ok (.iconst 1, 1) := by decide +kernel
theorem dJ0_coder_7d493_14 : decode cJ0_coder_7d493 14 = .ok (.ireturn, 1) := by decide +kernel
theorem dJ0_isLatin1_aae02_0 : decode cJ0_isLatin1_aae02 0 = .ok (.getstatic 38, 3) := by decide +kernel
theorem dJ0_isLatin1_aae02_3 : decode cJ0_isLatin1_aae02 3 = .ok (.ifCond .eq 14, 3) := by decide +kernel
theorem dJ0_isLatin1_aae02_6 : decode cJ0_isLatin1_aae02 6 = .ok (.aload_n 0, 1) := by decide +kernel
theorem dJ0_isLatin1_aae02_7 : decode cJ0_isLatin1_aae02 7 = .ok (.getfield 15, 3) := by decide +kernel
theorem dJ0_isLatin1_aae02_10 : decode cJ0_isLatin1_aae02 10 = .ok (.ifCond .ne 7, 3) := by decide +kernel
theorem dJ0_isLatin1_aae02_13 : decode cJ0_isLatin1_aae02 13 = .ok (.iconst 1, 1) := by decide +kernel
theorem dJ0_isLatin1_aae02_14 : decode cJ0_isLatin1_aae02 14 = .ok (.goto 4, 3) := by decide +kernel
theorem dJ0_isLatin1_aae02_17 : decode cJ0_isLatin1_aae02 17 = .ok (.iconst 0, 1) := by decide +kernel
theorem dJ0_isLatin1_aae02_18 : decode cJ0_isLatin1_aae02 18 = .ok (.ireturn, 1) := by decide +kernel
theorem dJ0_checkIndex_df160_0 : decode cJ0_checkIndex_df160 0 = .ok (.iload_n 0, 1) := by decide +kernel
theorem dJ0_checkIndex_df160_1 : decode cJ0_checkIndex_df160 1 = .ok (.iload_n 1, 1) := by decide +kernel
theorem dJ0_checkIndex_df160_2 : decode cJ0_checkIndex_df160 2 = .ok (.getstatic 1053, 3) := by decide +kernel
theorem dJ0_checkIndex_df160_5 : decode cJ0_checkIndex_df160 5 = .ok (.invokestatic 1059, 3) := by decide +kernel
theorem dJ0_checkIndex_df160_8 : decode cJ0_checkIndex_df160 8 = .ok (.pop, 1) := by decide +kernel
theorem dJ0_checkIndex_df160_9 : decode cJ0_checkIndex_df160 9 = .ok (.return_, 1) := by decide +kernel
theorem dJ1_charAt_3b067_0 : decode cJ1_charAt_3b067 0 = .ok (.iload_n 1, 1) := by decide +kernel
theorem dJ1_charAt_3b067_1 : decode cJ1_charAt_3b067 1 = .ok (.aload_n 0, 1) := by decide +kernel
theorem dJ1_charAt_3b067_2 : decode cJ1_charAt_3b067 2 = .ok (.arraylength, 1) := by decide +kernel
theorem dJ1_charAt_3b067_3 : decode cJ1_charAt_3b067 3 = .ok (.invokestatic 9, 3) := by decide +kernel
theorem dJ1_charAt_3b067_6 : decode cJ1_charAt_3b067 6 = .ok (.aload_n 0, 1) := by decide +kernel
theorem dJ1_charAt_3b067_7 : decode cJ1_charAt_3b067 7 = .ok (.iload_n 1, 1) := by decide +kernel
theorem dJ1_charAt_3b067_8 : decode cJ1_charAt_3b067 8 = .ok (.baload, 1) := by decide +kernel
theorem dJ1_charAt_3b067_9 : decode cJ1_charAt_3b067 9 = .ok (.sipush 255, 3) := by decide +kernel
theorem dJ1_charAt_3b067_12 : decode cJ1_charAt_3b067 12 = .ok (.iand, 1) := by decide +kernel
theorem dJ1_charAt_3b067_13 : decode cJ1_charAt_3b067 13 = .ok (.i2c, 1) := by decide +kernel
theorem dJ1_charAt_3b067_14 : decode cJ1_charAt_3b067 14 = .ok (.ireturn, 1) := by decide +kernel
theorem dJ2_getChar_3b067_0 : decode cJ2_getChar_3b067 0 = .ok (.getstatic 44, 3) := by decide +kernel
theorem dJ2_getChar_3b067_3 : decode cJ2_getChar_3b067 3 = .ok (.ifCond .ne 25, 3) := by decide +kernel
theorem dJ2_getChar_3b067_6 : decode cJ2_getChar_3b067 6 = .ok (.iload_n 1, 1) := by decide +kernel
theorem dJ2_getChar_3b067_7 : decode cJ2_getChar_3b067 7 = .ok (.ifCond .lt 11, 3) := by decide +kernel
theorem dJ2_getChar_3b067_10 : decode cJ2_getChar_3b067 10 = .ok (.iload_n 1, 1) := by decide +kernel
theorem dJ2_getChar_3b067_11 : decode cJ2_getChar_3b067 11 = .ok (.aload_n 0, 1) := by decide +kernel
theorem dJ2_getChar_3b067_12 : decode cJ2_getChar_3b067 12 = .ok (.invokestatic 48, 3) := by decide +kernel
theorem dJ2_getChar_3b067_15 : decode cJ2_getChar_3b067 15 = .ok (.if_icmp .lt 13, 3) := by decide +kernel
theorem dJ2_getChar_3b067_18 : decode cJ2_getChar_3b067 18 = .ok (.new 52, 3) := by decide +kernel
theorem dJ2_getChar_3b067_21 : decode cJ2_getChar_3b067 21 = .ok (.dup, 1) := by decide +kernel
theorem dJ2_getChar_3b067_22 : decode cJ2_getChar_3b067 22 = .ok (.ldc 54, 2) := by decide +kernel
theorem dJ2_getChar_3b067_24 : decode cJ2_getChar_3b067 24 = .ok (.invokespecial 56, 3) := by decide +kernel
theorem dJ2_getChar_3b067_27 : decode cJ2_getChar_3b067 27 = .ok (.athrow, 1) := by decide +kernel
theorem dJ2_getChar_3b067_28 : decode cJ2_getChar_3b067 28 = .ok (.iload_n 1, 1) := by decide +kernel
theorem dJ2_getChar_3b067_29 : decode cJ2_getChar_3b067 29 = .ok (.iconst 1, 1) := by decide +kernel
theorem dJ2_getChar_3b067_30 : decode cJ2_getChar_3b067 30 = .ok (.ishl, 1) := by decide +kernel
theorem dJ2_getChar_3b067_31 : decode cJ2_getChar_3b067 31 = .ok (.istore_n 1, 1) := by decide +kernel
theorem dJ2_getChar_3b067_32 : decode cJ2_getChar_3b067 32 = .ok (.aload_n 0, 1) := by decide +kernel
theorem dJ2_getChar_3b067_33 : decode cJ2_getChar_3b067 33 = .ok (.iload_n 1, 1) := by decide +kernel
theorem dJ2_getChar_3b067_34 : decode cJ2_getChar_3b067 34 = .ok (.iinc 1 1, 3) := by decide +kernel
theorem dJ2_getChar_3b067_37 : decode cJ2_getChar_3b067 37 = .ok (.baload, 1) := by decide +kernel
theorem dJ2_getChar_3b067_38 : decode cJ2_getChar_3b067 38 = .ok (.sipush 255, 3) := by decide +kernel
theorem dJ2_getChar_3b067_41 : decode cJ2_getChar_3b067 41 = .ok (.iand, 1) := by decide +kernel
theorem dJ2_getChar_3b067_42 : decode cJ2_getChar_3b067 42 = .ok (.getstatic 59, 3) := by decide +kernel
theorem dJ2_getChar_3b067_45 : decode cJ2_getChar_3b067 45 = .ok (.ishl, 1) := by decide +kernel
theorem dJ2_getChar_3b067_46 : decode cJ2_getChar_3b067 46 = .ok (.aload_n 0, 1) := by decide +kernel
theorem dJ2_getChar_3b067_47 : decode cJ2_getChar_3b067 47 = .ok (.iload_n 1, 1) := by decide +kernel
theorem dJ2_getChar_3b067_48 : decode cJ2_getChar_3b067 48 = .ok (.baload, 1) := by decide +kernel
theorem dJ2_getChar_3b067_49 : decode cJ2_getChar_3b067 49 = .ok (.sipush 255, 3) := by decide +kernel
theorem dJ2_getChar_3b067_52 : decode cJ2_getChar_3b067 52 = .ok (.iand, 1) := by decide +kernel
theorem dJ2_getChar_3b067_53 : decode cJ2_getChar_3b067 53 = .ok (.getstatic 63, 3) := by decide +kernel
theorem dJ2_getChar_3b067_56 : decode cJ2_getChar_3b067 56 = .ok (.ishl, 1) := by decide +kernel
theorem dJ2_getChar_3b067_57 : decode cJ2_getChar_3b067 57 = .ok (.ior, 1) := by decide +kernel
theorem dJ2_getChar_3b067_58 : decode cJ2_getChar_3b067 58 = .ok (.i2c, 1) := by decide +kernel
theorem dJ2_getChar_3b067_59 : decode cJ2_getChar_3b067 59 = .ok (.ireturn, 1) := by decide +kernel
theorem dJ2_length_9d52b_0 : decode cJ2_length_9d52b 0 = .ok (.aload_n 0, 1) := by decide +kernel
theorem dJ2_length_9d52b_1 : decode cJ2_length_9d52b 1 = .ok (.arraylength, 1) := by decide +kernel
theorem dJ2_length_9d52b_2 : decode cJ2_length_9d52b 2 = .ok (.iconst 1, 1) := by decide +kernel
theorem dJ2_length_9d52b_3 : decode cJ2_length_9d52b 3 = .ok (.ishr, 1) := by decide +kernel
theorem dJ2_length_9d52b_4 : decode cJ2_length_9d52b 4 = .ok (.ireturn, 1) := by decide +kernel
theorem dJ2_charAt_3b067_0 : decode cJ2_charAt_3b067 0 = .ok (.iload_n 1, 1) := by decide +kernel
theorem dJ2_charAt_3b067_1 : decode cJ2_charAt_3b067 1 = .ok (.aload_n 0, 1) := by decide +kernel
theorem dJ2_charAt_3b067_2 : decode cJ2_charAt_3b067 2 = .ok (.invokestatic 67, 3) := by decide +kernel
theorem dJ2_charAt_3b067_5 : decode cJ2_charAt_3b067 5 = .ok (.aload_n 0, 1) := by decide +kernel
theorem dJ2_charAt_3b067_6 : decode cJ2_charAt_3b067 6 = .ok (.iload_n 1, 1) := by decide +kernel
theorem dJ2_charAt_3b067_7 : decode cJ2_charAt_3b067 7 = .ok (.invokestatic 71, 3) := by decide +kernel
theorem dJ2_charAt_3b067_10 : decode cJ2_charAt_3b067 10 = .ok (.ireturn, 1) := by decide +kernel
theorem dJ2_checkIndex_2214a_0 : decode cJ2_checkIndex_2214a 0 = .ok (.iload_n 0, 1) := by decide +kernel
theorem dJ2_checkIndex_2214a_1 : decode cJ2_checkIndex_2214a 1 = .ok (.aload_n 1, 1) := by decide +kernel
theorem dJ2_checkIndex_2214a_2 : decode cJ2_checkIndex_2214a 2 = .ok (.invokestatic 48, 3) := by decide +kernel
theorem dJ2_checkIndex_2214a_5 : decode cJ2_checkIndex_2214a 5 = .ok (.invokestatic 414, 3) := by decide +kernel
theorem dJ2_checkIndex_2214a_8 : decode cJ2_checkIndex_2214a 8 = .ok (.return_, 1) := by decide +kernel
theorem dJ7_fill_53178_0 : decode cJ7_fill_53178 0 = .ok (.iconst 0, 1) := by decide +kernel
theorem dJ7_fill_53178_1 : decode cJ7_fill_53178 1 = .ok (.istore_n 2, 1) := by decide +kernel
theorem dJ7_fill_53178_2 : decode cJ7_fill_53178 2 = .ok (.aload_n 0, 1) := by decide +kernel
theorem dJ7_fill_53178_3 : decode cJ7_fill_53178 3 = .ok (.arraylength, 1) := by decide +kernel
theorem dJ7_fill_53178_4 : decode cJ7_fill_53178 4 = .ok (.istore_n 3, 1) := by decide +kernel
theorem dJ7_fill_53178_5 : decode cJ7_fill_53178 5 = .ok (.iload_n 2, 1) := by decide +kernel
theorem dJ7_fill_53178_6 : decode cJ7_fill_53178 6 = .ok (.iload_n 3, 1) := by decide +kernel
theorem dJ7_fill_53178_7 : decode cJ7_fill_53178 7 = .ok (.if_icmp .ge 13, 3) := by decide +kernel
theorem dJ7_fill_53178_10 : decode cJ7_fill_53178 10 = .ok (.aload_n 0, 1) := by decide +kernel
theorem dJ7_fill_53178_11 : decode cJ7_fill_53178 11 = .ok (.iload_n 2, 1) := by decide +kernel
theorem dJ7_fill_53178_12 : decode cJ7_fill_53178 12 = .ok (.iload_n 1, 1) := by decide +kernel
theorem dJ7_fill_53178_13 : decode cJ7_fill_53178 13 = .ok (.iastore, 1) := by decide +kernel
theorem dJ7_fill_53178_14 : decode cJ7_fill_53178 14 = .ok (.iinc 2 1, 3) := by decide +kernel
theorem dJ7_fill_53178_17 : decode cJ7_fill_53178 17 = .ok (.goto (-12), 3) := by decide +kernel
theorem dJ7_fill_53178_20 : decode cJ7_fill_53178 20 = .ok (.return_, 1) := by decide +kernel
theorem dJ3_checkIndex_8e157_0 : decode cJ3_checkIndex_8e157 0 = .ok (.iload_n 0, 1) := by decide +kernel
theorem dJ3_checkIndex_8e157_1 : decode cJ3_checkIndex_8e157 1 = .ok (.ifCond .lt 8, 3) := by decide +kernel
theorem dJ3_checkIndex_8e157_4 : decode cJ3_checkIndex_8e157 4 = .ok (.iload_n 0, 1) := by decide +kernel
theorem dJ3_checkIndex_8e157_5 : decode cJ3_checkIndex_8e157 5 = .ok (.iload_n 1, 1) := by decide +kernel
theorem dJ3_checkIndex_8e157_6 : decode cJ3_checkIndex_8e157 6 = .ok (.if_icmp .lt 10, 3) := by decide +kernel
theorem dJ3_checkIndex_8e157_9 : decode cJ3_checkIndex_8e157 9 = .ok (.aload_n 2, 1) := by decide +kernel
theorem dJ3_checkIndex_8e157_10 : decode cJ3_checkIndex_8e157 10 = .ok (.iload_n 0, 1) := by decide +kernel
theorem dJ3_checkIndex_8e157_11 : decode cJ3_checkIndex_8e157 11 = .ok (.iload_n 1, 1) := by decide +kernel
theorem dJ3_checkIndex_8e157_12 : decode cJ3_checkIndex_8e157 12 = .ok (.invokestatic 95, 3) := by decide +kernel
theorem dJ3_checkIndex_8e157_15 : decode cJ3_checkIndex_8e157 15 = .ok (.athrow, 1) := by decide +kernel
theorem dJ3_checkIndex_8e157_16 : decode cJ3_checkIndex_8e157 16 = .ok (.iload_n 0, 1) := by decide +kernel
theorem dJ3_checkIndex_8e157_17 : decode cJ3_checkIndex_8e157 17 = .ok (.ireturn, 1) := by decide +kernel
end
section
theorem dX4_init_0 : decode cX4_init 0 = .ok (.aload_n 0, 1) := by decide +kernel
theorem dX4_init_1 : decode cX4_init 1 = .ok (.invokespecial 3, 3) := by decide +kernel
theorem dX4_init_4 : decode cX4_init 4 = .ok (.aload_n 0, 1) := by decide +kernel
theorem dX4_init_5 : decode cX4_init 5 = .ok (.new 9, 3) := by decide +kernel
theorem dX4_init_8 : decode cX4_init 8 = .ok (.dup, 1) := by decide +kernel
theorem dX4_init_9 : decode cX4_init 9 = .ok (.invokespecial 11, 3) := by decide +kernel
theorem dX4_init_12 : decode cX4_init 12 = .ok (.putfield 12, 3) := by decide +kernel
theorem dX4_init_15 : decode cX4_init 15 = .ok (.aload_n 0, 1) := by decide +kernel
theorem dX4_init_16 : decode cX4_init 16 = .ok (.new 9, 3) := by decide +kernel
theorem dX4_init_19 : decode cX4_init 19 = .ok (.dup, 1) := by decide +kernel
theorem dX4_init_20 : decode cX4_init 20 = .ok (.invokespecial 11, 3) := by decide +kernel
theorem dX4_init_23 : decode cX4_init 23 = .ok (.putfield 16, 3) := by decide +kernel
theorem dX4_init_26 : decode cX4_init 26 = .ok (.aload_n 0, 1) := by decide +kernel
theorem dX4_init_27 : decode cX4_init 27 = .ok (.new 19, 3) := by decide +kernel
theorem dX4_init_30 : decode cX4_init 30 = .ok (.dup, 1) := by decide +kernel
theorem dX4_init_31 : decode cX4_init 31 = .ok (.invokespecial 21, 3) := by decide +kernel
theorem dX4_init_34 : decode cX4_init 34 = .ok (.putfield 22, 3) := by decide +kernel
theorem dX4_init_37 : decode cX4_init 37 = .ok (.aload_n 0, 1) := by decide +kernel
theorem dX4_init_38 : decode cX4_init 38 = .ok (.new 26, 3) := by decide +kernel
theorem dX4_init_41 : decode cX4_init 41 = .ok (.dup, 1) := by decide +kernel
theorem dX4_init_42 : decode cX4_init 42 = .ok (.invokespecial 28, 3) := by decide +kernel
theorem dX4_init_45 : decode cX4_init 45 = .ok (.putfield 29, 3) := by decide +kernel
theorem dX4_init_48 : decode cX4_init 48 = .ok (.aload_n 0, 1) := by decide +kernel
theorem dX4_init_49 : decode cX4_init 49 = .ok (.iconst 4, 1) := by decide +kernel
theorem dX4_init_50 : decode cX4_init 50 = .ok (.anewarray 33, 3) := by decide +kernel
theorem dX4_init_53 : decode cX4_init 53 = .ok (.putfield 35, 3) := by decide +kernel
theorem dX4_init_56 : decode cX4_init 56 = .ok (.aload_n 0, 1) := by decide +kernel
theorem dX4_init_57 : decode cX4_init 57 = .ok (.bipush 7, 2) := by decide +kernel
theorem dX4_init_59 : decode cX4_init 59 = .ok (.newarray .int, 2) := by decide +kernel
theorem dX4_init_61 : decode cX4_init 61 = .ok (.putfield 39, 3) := by decide +kernel
theorem dX4_init_64 : decode cX4_init 64 = .ok (.aload_n 0, 1) := by decide +kernel
theorem dX4_init_65 : decode cX4_init 65 = .ok (.bipush 60, 2) := by decide +kernel
theorem dX4_init_67 : decode cX4_init 67 = .ok (.newarray .int, 2) := by decide +kernel
theorem dX4_init_69 : decode cX4_init 69 = .ok (.putfield 43, 3) := by decide +kernel
theorem dX4_init_72 : decode cX4_init 72 = .ok (.aload_n 0, 1) := by decide +kernel
theorem dX4_init_73 : decode cX4_init 73 = .ok (.iconst 4, 1) := by decide +kernel
theorem dX4_init_74 : decode cX4_init 74 = .ok (.newarray .int, 2) := by decide +kernel
theorem dX4_init_76 : decode cX4_init 76 = .ok (.putfield 46, 3) := by decide +kernel
theorem dX4_init_79 : decode cX4_init 79 = .ok (.iconst 0, 1) := by decide +kernel
theorem dX4_init_80 : decode cX4_init 80 = .ok (.istore_n 1, 1) := by decide +kernel
theorem dX4_init_81 : decode cX4_init 81 = .ok (.iload_n 1, 1) := by decide +kernel
theorem dX4_init_82 : decode cX4_init 82 = .ok (.iconst 4, 1) := by decide +kernel
theorem dX4_init_83 : decode cX4_init 83 = .ok (.if_icmp .ge 22, 3) := by decide +kernel
theorem dX4_init_86 : decode cX4_init 86 = .ok (.aload_n 0, 1) := by decide +kernel
theorem dX4_init_87 : decode cX4_init 87 = .ok (.getfield 35, 3) := by decide +kernel
theorem dX4_init_90 : decode cX4_init 90 = .ok (.iload_n 1, 1) := by decide +kernel
theorem dX4_init_91 : decode cX4_init 91 = .ok (.new 33, 3) := by decide +kernel
theorem dX4_init_94 : decode cX4_init 94 = .ok (.dup, 1) := by decide +kernel
theorem dX4_init_95 : decode cX4_init 95 = .ok (.invokespecial 49, 3) := by decide +kernel
theorem dX4_init_98 : decode cX4_init 98 = .ok (.aastore, 1) := by decide +kernel
theorem dX4_init_99 : decode cX4_init 99 = .ok (.iinc 1 1, 3) := by decide +kernel
theorem dX4_init_102 : decode cX4_init 102 = .ok (.goto (-21), 3) := by decide +kernel
theorem dX4_init_105 : decode cX4_init 105 = .ok (.return_, 1) := by decide +kernel
theorem dX4_cat_0 : decode cX4_cat 0 = .ok (.iload_n 1, 1) := by decide +kernel
theorem dX4_cat_1 : decode cX4_cat 1 = .ok (.invokestatic 50, 3) := by decide +kernel
theorem dX4_cat_4 : decode cX4_cat 4 = .ok (.ifCond .ne 10, 3) := by decide +kernel
theorem dX4_cat_7 : decode cX4_cat 7 = .ok (.aload_n 0, 1) := by decide +kernel
theorem dX4_cat_8 : decode cX4_cat 8 = .ok (.ldc 54, 2) := by decide +kernel
theorem dX4_cat_10 : decode cX4_cat 10 = .ok (.invokevirtual 55, 3) := by decide +kernel
theorem dX4_cat_13 : decode cX4_cat 13 = .ok (.ireturn, 1) := by decide +kernel
theorem dX4_cat_14 : decode cX4_cat 14 = .ok (.aload_n 0, 1) := by decide +kernel
theorem dX4_cat_15 : decode cX4_cat 15 = .ok (.getfield 12, 3) := by decide +kernel
theorem dX4_cat_18 : decode cX4_cat 18 = .ok (.getfield 59, 3) := by decide +kernel
theorem dX4_cat_21 : decode cX4_cat 21 = .ok (.bipush 8, 2) := by decide +kernel
theorem dX4_cat_23 : decode cX4_cat 23 = .ok (.if_icmp .lt 10, 3) := by decide +kernel
theorem dX4_cat_26 : decode cX4_cat 26 = .ok (.aload_n 0, 1) := by decide +kernel
theorem dX4_cat_27 : decode cX4_cat 27 = .ok (.ldc 63, 2) := by decide +kernel
theorem dX4_cat_29 : decode cX4_cat 29 = .ok (.invokevirtual 55, 3) := by decide +kernel
theorem dX4_cat_32 : decode cX4_cat 32 = .ok (.ireturn, 1) := by decide +kernel
theorem dX4_cat_33 : decode cX4_cat 33 = .ok (.aload_n 0, 1) := by decide +kernel
theorem dX4_cat_34 : decode cX4_cat 34 = .ok (.getfield 12, 3) := by decide +kernel
theorem dX4_cat_37 : decode cX4_cat 37 = .ok (.iload_n 1, 1) := by decide +kernel
theorem dX4_cat_38 : decode cX4_cat 38 = .ok (.iconst 0, 1) := by decide +kernel
theorem dX4_cat_39 : decode cX4_cat 39 = .ok (.iconst 0, 1) := by decide +kernel
theorem dX4_cat_40 : decode cX4_cat 40 = .ok (.invokevirtual 64, 3) := by decide +kernel
theorem dX4_cat_43 : decode cX4_cat 43 = .ok (.ireturn, 1) := by decide +kernel
theorem dX4_of_0 : decode cX4_of 0 = .ok (.aload_n 0, 1) := by decide +kernel
theorem dX4_of_1 : decode cX4_of 1 = .ok (.iload_n 1, 1) := by decide +kernel
theorem dX4_of_2 : decode cX4_of 2 = .ok (.invokevirtual 68, 3) := by decide +kernel
theorem dX4_of_5 : decode cX4_of 5 = .ok (.ifCond .ne 10, 3) := by decide +kernel
theorem dX4_of_8 : decode cX4_of 8 = .ok (.aload_n 0, 1) := by decide +kernel
theorem dX4_of_9 : decode cX4_of 9 = .ok (.ldc 54, 2) := by decide +kernel
theorem dX4_of_11 : decode cX4_of 11 = .ok (.invokevirtual 55, 3) := by decide +kernel
theorem dX4_of_14 : decode cX4_of 14 = .ok (.ireturn, 1) := by decide +kernel
theorem dX4_of_15 : decode cX4_of 15 = .ok (.iload_n 2, 1) := by decide +kernel
theorem dX4_of_16 : decode cX4_of 16 = .ok (.tableswitch 72 0 3 #[32, 42, 52, 62], 32) := by decide +kernel
theorem dX4_of_48 : decode cX4_of 48 = .ok (.aload_n 0, 1) := by decide +kernel
theorem dX4_of_49 : decode cX4_of 49 = .ok (.getfield 12, 3) := by decide +kernel
theorem dX4_of_52 : decode cX4_of 52 = .ok (.getfield 71, 3) := by decide +kernel
theorem dX4_of_55 : decode cX4_of 55 = .ok (.iload_n 1, 1) := by decide +kernel
theorem dX4_of_56 : decode cX4_of 56 = .ok (.iaload, 1) := by decide +kernel
theorem dX4_of_57 : decode cX4_of 57 = .ok (.ireturn, 1) := by decide +kernel
theorem dX4_of_58 : decode cX4_of 58 = .ok (.aload_n 0, 1) := by decide +kernel
theorem dX4_of_59 : decode cX4_of 59 = .ok (.getfield 12, 3) := by decide +kernel
theorem dX4_of_62 : decode cX4_of 62 = .ok (.getfield 74, 3) := by decide +kernel
theorem dX4_of_65 : decode cX4_of 65 = .ok (.iload_n 1, 1) := by decide +kernel
theorem dX4_of_66 : decode cX4_of 66 = .ok (.iaload, 1) := by decide +kernel
theorem dX4_of_67 : decode cX4_of 67 = .ok (.ireturn, 1) := by decide +kernel
theorem dX4_of_68 : decode cX4_of 68 = .ok (.aload_n 0, 1) := by decide +kernel
theorem dX4_of_69 : decode cX4_of 69 = .ok (.getfield 12, 3) := by decide +kernel
theorem dX4_of_72 : decode cX4_of 72 = .ok (.getfield 77, 3) := by decide +kernel
theorem dX4_of_75 : decode cX4_of 75 = .ok (.iload_n 1, 1) := by decide +kernel
theorem dX4_of_76 : decode cX4_of 76 = .ok (.iaload, 1) := by decide +kernel
theorem dX4_of_77 : decode cX4_of 77 = .ok (.ireturn, 1) := by decide +kernel
theorem dX4_of_78 : decode cX4_of 78 = .ok (.aload_n 0, 1) := by decide +kernel
theorem dX4_of_79 : decode cX4_of 79 = .ok (.getfield 12, 3) := by decide +kernel
theorem dX4_of_82 : decode cX4_of 82 = .ok (.iload_n 1, 1) := by decide +kernel
theorem dX4_of_83 : decode cX4_of 83 = .ok (.iconst 0, 1) := by decide +kernel
theorem dX4_of_84 : decode cX4_of 84 = .ok (.invokevirtual 80, 3) := by decide +kernel
theorem dX4_of_87 : decode cX4_of 87 = .ok (.ireturn, 1) := by decide +kernel
theorem dX4_of_88 : decode cX4_of 88 = .ok (.aload_n 0, 1) := by decide +kernel
theorem dX4_of_89 : decode cX4_of 89 = .ok (.ldc 54, 2) := by decide +kernel
theorem dX4_of_91 : decode cX4_of 91 = .ok (.invokevirtual 55, 3) := by decide +kernel
theorem dX4_of_94 : decode cX4_of 94 = .ok (.ireturn, 1) := by decide +kernel
theorem dX4_change_0 : decode cX4_change 0 = .ok (.aload_n 0, 1) := by decide +kernel
theorem dX4_change_1 : decode cX4_change 1 = .ok (.iload_n 1, 1) := by decide +kernel
theorem dX4_change_2 : decode cX4_change 2 = .ok (.invokevirtual 68, 3) := by decide +kernel
theorem dX4_change_5 : decode cX4_change 5 = .ok (.ifCond .ne 10, 3) := by decide +kernel
theorem dX4_change_8 : decode cX4_change 8 = .ok (.aload_n 0, 1) := by decide +kernel
theorem dX4_change_9 : decode cX4_change 9 = .ok (.ldc 54, 2) := by decide +kernel
theorem dX4_change_11 : decode cX4_change 11 = .ok (.invokevirtual 55, 3) := by decide +kernel
theorem dX4_change_14 : decode cX4_change 14 = .ok (.ireturn, 1) := by decide +kernel
theorem dX4_change_15 : decode cX4_change 15 = .ok (.iload_n 2, 1) := by decide +kernel
theorem dX4_change_16 : decode cX4_change 16 = .ok (.ifCond .ne 23, 3) := by decide +kernel
theorem dX4_change_19 : decode cX4_change 19 = .ok (.iload_n 3, 1) := by decide +kernel
theorem dX4_change_20 : decode cX4_change 20 = .ok (.invokestatic 50, 3) := by decide +kernel
theorem dX4_change_23 : decode cX4_change 23 = .ok (.ifCond .eq 16, 3) := by decide +kernel
theorem dX4_change_26 : decode cX4_change 26 = .ok (.aload_n 0, 1) := by decide +kernel
theorem dX4_change_27 : decode cX4_change 27 = .ok (.getfield 12, 3) := by decide +kernel
theorem dX4_change_30 : decode cX4_change 30 = .ok (.getfield 71, 3) := by decide +kernel
theorem dX4_change_33 : decode cX4_change 33 = .ok (.iload_n 1, 1) := by decide +kernel
theorem dX4_change_34 : decode cX4_change 34 = .ok (.iload_n 3, 1) := by decide +kernel
theorem dX4_change_35 : decode cX4_change 35 = .ok (.invokestatic 84, 3) := by decide +kernel
theorem dX4_change_38 : decode cX4_change 38 = .ok (.ireturn, 1) := by decide +kernel
theorem dX4_change_39 : decode cX4_change 39 = .ok (.iload_n 2, 1) := by decide +kernel
theorem dX4_change_40 : decode cX4_change 40 = .ok (.iconst 1, 1) := by decide +kernel
theorem dX4_change_41 : decode cX4_change 41 = .ok (.if_icmp .ne 26, 3) := by decide +kernel
theorem dX4_change_44 : decode cX4_change 44 = .ok (.iload_n 3, 1) := by decide +kernel
theorem dX4_change_45 : decode cX4_change 45 = .ok (.iconst 0, 1) := by decide +kernel
theorem dX4_change_46 : decode cX4_change 46 = .ok (.bipush 99, 2) := by decide +kernel
theorem dX4_change_48 : decode cX4_change 48 = .ok (.invokestatic 88, 3) := by decide +kernel
theorem dX4_change_51 : decode cX4_change 51 = .ok (.ifCond .eq 16, 3) := by decide +kernel
theorem dX4_change_54 : decode cX4_change 54 = .ok (.aload_n 0, 1) := by decide +kernel
theorem dX4_change_55 : decode cX4_change 55 = .ok (.getfield 12, 3) := by decide +kernel
theorem dX4_change_58 : decode cX4_change 58 = .ok (.getfield 74, 3) := by decide +kernel
theorem dX4_change_61 : decode cX4_change 61 = .ok (.iload_n 1, 1) := by decide +kernel
theorem dX4_change_62 : decode cX4_change 62 = .ok (.iload_n 3, 1) := by decide +kernel
theorem dX4_change_63 : decode cX4_change 63 = .ok (.invokestatic 84, 3) := by decide +kernel
theorem dX4_change_66 : decode cX4_change 66 = .ok (.ireturn, 1) := by decide +kernel
theorem dX4_change_67 : decode cX4_change 67 = .ok (.iload_n 2, 1) := by decide +kernel
theorem dX4_change_68 : decode cX4_change 68 = .ok (.iconst 2, 1) := by decide +kernel
theorem dX4_change_69 : decode cX4_change 69 = .ok (.if_icmp .ne 27, 3) := by decide +kernel
theorem dX4_change_72 : decode cX4_change 72 = .ok (.iload_n 3, 1) := by decide +kernel
theorem dX4_change_73 : decode cX4_change 73 = .ok (.bipush (-15), 2) := by decide +kernel
theorem dX4_change_75 : decode cX4_change 75 = .ok (.bipush 15, 2) := by decide +kernel
theorem dX4_change_77 : decode cX4_change 77 = .ok (.invokestatic 88, 3) := by decide +kernel
theorem dX4_change_80 : decode cX4_change 80 = .ok (.ifCond .eq 16, 3) := by decide +kernel
theorem dX4_change_83 : decode cX4_change 83 = .ok (.aload_n 0, 1) := by decide +kernel
theorem dX4_change_84 : decode cX4_change 84 = .ok (.getfield 12, 3) := by decide +kernel
theorem dX4_change_87 : decode cX4_change 87 = .ok (.getfield 77, 3) := by decide +kernel
theorem dX4_change_90 : decode cX4_change 90 = .ok (.iload_n 1, 1) := by decide +kernel
theorem dX4_change_91 : decode cX4_change 91 = .ok (.iload_n 3, 1) := by decide +kernel
theorem dX4_change_92 : decode cX4_change 92 = .ok (.invokestatic 84, 3) := by decide +kernel
theorem dX4_change_95 : decode cX4_change 95 = .ok (.ireturn, 1) := by decide +kernel
theorem dX4_change_96 : decode cX4_change 96 = .ok (.aload_n 0, 1) := by decide +kernel
theorem dX4_change_97 : decode cX4_change 97 = .ok (.ldc 54, 2) := by decide +kernel
theorem dX4_change_99 : decode cX4_change 99 = .ok (.invokevirtual 55, 3) := by decide +kernel
theorem dX4_change_102 : decode cX4_change 102 = .ok (.ireturn, 1) := by decide +kernel
theorem dX4_ship_0 : decode cX4_ship 0 = .ok (.iload_n 1, 1) := by decide +kernel
theorem dX4_ship_1 : decode cX4_ship 1 = .ok (.invokestatic 92, 3) := by decide +kernel
theorem dX4_ship_4 : decode cX4_ship 4 = .ok (.ifCond .ne 10, 3) := by decide +kernel
theorem dX4_ship_7 : decode cX4_ship 7 = .ok (.aload_n 0, 1) := by decide +kernel
theorem dX4_ship_8 : decode cX4_ship 8 = .ok (.ldc 54, 2) := by decide +kernel
theorem dX4_ship_10 : decode cX4_ship 10 = .ok (.invokevirtual 55, 3) := by decide +kernel
theorem dX4_ship_13 : decode cX4_ship 13 = .ok (.ireturn, 1) := by decide +kernel
theorem dX4_ship_14 : decode cX4_ship 14 = .ok (.iload_n 2, 1) := by decide +kernel
theorem dX4_ship_15 : decode cX4_ship 15 = .ok (.tableswitch 155 0 6 #[41, 51, 61, 71, 89, 119, 138], 41) := by decide +kernel
theorem dX4_ship_56 : decode cX4_ship 56 = .ok (.aload_n 0, 1) := by decide +kernel
theorem dX4_ship_57 : decode cX4_ship 57 = .ok (.getfield 12, 3) := by decide +kernel
theorem dX4_ship_60 : decode cX4_ship 60 = .ok (.getfield 95, 3) := by decide +kernel
theorem dX4_ship_63 : decode cX4_ship 63 = .ok (.iload_n 1, 1) := by decide +kernel
theorem dX4_ship_64 : decode cX4_ship 64 = .ok (.iaload, 1) := by decide +kernel
theorem dX4_ship_65 : decode cX4_ship 65 = .ok (.ireturn, 1) := by decide +kernel
theorem dX4_ship_66 : decode cX4_ship 66 = .ok (.aload_n 0, 1) := by decide +kernel
theorem dX4_ship_67 : decode cX4_ship 67 = .ok (.getfield 12, 3) := by decide +kernel
theorem dX4_ship_70 : decode cX4_ship 70 = .ok (.getfield 98, 3) := by decide +kernel
theorem dX4_ship_73 : decode cX4_ship 73 = .ok (.iload_n 1, 1) := by decide +kernel
theorem dX4_ship_74 : decode cX4_ship 74 = .ok (.iaload, 1) := by decide +kernel
theorem dX4_ship_75 : decode cX4_ship 75 = .ok (.ireturn, 1) := by decide +kernel
theorem dX4_ship_76 : decode cX4_ship 76 = .ok (.aload_n 0, 1) := by decide +kernel
theorem dX4_ship_77 : decode cX4_ship 77 = .ok (.getfield 12, 3) := by decide +kernel
theorem dX4_ship_80 : decode cX4_ship 80 = .ok (.getfield 101, 3) := by decide +kernel
theorem dX4_ship_83 : decode cX4_ship 83 = .ok (.iload_n 1, 1) := by decide +kernel
theorem dX4_ship_84 : decode cX4_ship 84 = .ok (.iaload, 1) := by decide +kernel
theorem dX4_ship_85 : decode cX4_ship 85 = .ok (.ireturn, 1) := by decide +kernel
theorem dX4_ship_86 : decode cX4_ship 86 = .ok (.aload_n 0, 1) := by decide +kernel
theorem dX4_ship_87 : decode cX4_ship 87 = .ok (.getfield 12, 3) := by decide +kernel
theorem dX4_ship_90 : decode cX4_ship 90 = .ok (.aload_n 0, 1) := by decide +kernel
theorem dX4_ship_91 : decode cX4_ship 91 = .ok (.getfield 12, 3) := by decide +kernel
theorem dX4_ship_94 : decode cX4_ship 94 = .ok (.getfield 101, 3) := by decide +kernel
theorem dX4_ship_97 : decode cX4_ship 97 = .ok (.iload_n 1, 1) := by decide +kernel
theorem dX4_ship_98 : decode cX4_ship 98 = .ok (.iaload, 1) := by decide +kernel
theorem dX4_ship_99 : decode cX4_ship 99 = .ok (.iconst 0, 1) := by decide +kernel
theorem dX4_ship_100 : decode cX4_ship 100 = .ok (.invokevirtual 104, 3) := by decide +kernel
theorem dX4_ship_103 : decode cX4_ship 103 = .ok (.ireturn, 1) := by decide +kernel
theorem dX4_ship_104 : decode cX4_ship 104 = .ok (.aload_n 0, 1) := by decide +kernel
theorem dX4_ship_105 : decode cX4_ship 105 = .ok (.getfield 12, 3) := by decide +kernel
theorem dX4_ship_108 : decode cX4_ship 108 = .ok (.getfield 98, 3) := by decide +kernel
theorem dX4_ship_111 : decode cX4_ship 111 = .ok (.iload_n 1, 1) := by decide +kernel
theorem dX4_ship_112 : decode cX4_ship 112 = .ok (.iaload, 1) := by decide +kernel
theorem dX4_ship_113 : decode cX4_ship 113 = .ok (.aload_n 0, 1) := by decide +kernel
theorem dX4_ship_114 : decode cX4_ship 114 = .ok (.getfield 12, 3) := by decide +kernel
theorem dX4_ship_117 : decode cX4_ship 117 = .ok (.aload_n 0, 1) := by decide +kernel
theorem dX4_ship_118 : decode cX4_ship 118 = .ok (.getfield 12, 3) := by decide +kernel
theorem dX4_ship_121 : decode cX4_ship 121 = .ok (.getfield 101, 3) := by decide +kernel
theorem dX4_ship_124 : decode cX4_ship 124 = .ok (.iload_n 1, 1) := by decide +kernel
theorem dX4_ship_125 : decode cX4_ship 125 = .ok (.iaload, 1) := by decide +kernel
theorem dX4_ship_126 : decode cX4_ship 126 = .ok (.iconst 0, 1) := by decide +kernel
theorem dX4_ship_127 : decode cX4_ship 127 = .ok (.invokevirtual 104, 3) := by decide +kernel
theorem dX4_ship_130 : decode cX4_ship 130 = .ok (.invokestatic 107, 3) := by decide +kernel
theorem dX4_ship_133 : decode cX4_ship 133 = .ok (.ireturn, 1) := by decide +kernel
theorem dX4_ship_134 : decode cX4_ship 134 = .ok (.aload_n 0, 1) := by decide +kernel
theorem dX4_ship_135 : decode cX4_ship 135 = .ok (.getfield 12, 3) := by decide +kernel
theorem dX4_ship_138 : decode cX4_ship 138 = .ok (.iload_n 1, 1) := by decide +kernel
theorem dX4_ship_139 : decode cX4_ship 139 = .ok (.aload_n 0, 1) := by decide +kernel
theorem dX4_ship_140 : decode cX4_ship 140 = .ok (.getfield 12, 3) := by decide +kernel
theorem dX4_ship_143 : decode cX4_ship 143 = .ok (.getfield 95, 3) := by decide +kernel
theorem dX4_ship_146 : decode cX4_ship 146 = .ok (.iload_n 1, 1) := by decide +kernel
theorem dX4_ship_147 : decode cX4_ship 147 = .ok (.iaload, 1) := by decide +kernel
theorem dX4_ship_148 : decode cX4_ship 148 = .ok (.iconst 0, 1) := by decide +kernel
theorem dX4_ship_149 : decode cX4_ship 149 = .ok (.invokevirtual 110, 3) := by decide +kernel
theorem dX4_ship_152 : decode cX4_ship 152 = .ok (.ireturn, 1) := by decide +kernel
theorem dX4_ship_153 : decode cX4_ship 153 = .ok (.aload_n 0, 1) := by decide +kernel
theorem dX4_ship_154 : decode cX4_ship 154 = .ok (.getfield 12, 3) := by decide +kernel
theorem dX4_ship_157 : decode cX4_ship 157 = .ok (.iload_n 1, 1) := by decide +kernel
theorem dX4_ship_158 : decode cX4_ship 158 = .ok (.invokevirtual 113, 3) := by decide +kernel
theorem dX4_ship_161 : decode cX4_ship 161 = .ok (.ifCond .eq 7, 3) := by decide +kernel
theorem dX4_ship_164 : decode cX4_ship 164 = .ok (.iconst 1, 1) := by decide +kernel
theorem dX4_ship_165 : decode cX4_ship 165 = .ok (.goto 4, 3) := by decide +kernel
theorem dX4_ship_168 : decode cX4_ship 168 = .ok (.iconst 0, 1) := by decide +kernel
theorem dX4_ship_169 : decode cX4_ship 169 = .ok (.ireturn, 1) := by decide +kernel
theorem dX4_ship_170 : decode cX4_ship 170 = .ok (.aload_n 0, 1) := by decide +kernel
theorem dX4_ship_171 : decode cX4_ship 171 = .ok (.ldc 54, 2) := by decide +kernel
theorem dX4_ship_173 : decode cX4_ship 173 = .ok (.invokevirtual 55, 3) := by decide +kernel
theorem dX4_ship_176 : decode cX4_ship 176 = .ok (.ireturn, 1) := by decide +kernel
theorem dX4_steer_0 : decode cX4_steer 0 = .ok (.iload_n 1, 1) := by decide +kernel
theorem dX4_steer_1 : decode cX4_steer 1 = .ok (.invokestatic 92, 3) := by decide +kernel
theorem dX4_steer_4 : decode cX4_steer 4 = .ok (.ifCond .ne 10, 3) := by decide +kernel
theorem dX4_steer_7 : decode cX4_steer 7 = .ok (.aload_n 0, 1) := by decide +kernel
theorem dX4_steer_8 : decode cX4_steer 8 = .ok (.ldc 54, 2) := by decide +kernel
theorem dX4_steer_10 : decode cX4_steer 10 = .ok (.invokevirtual 55, 3) := by decide +kernel
theorem dX4_steer_13 : decode cX4_steer 13 = .ok (.ireturn, 1) := by decide +kernel
theorem dX4_steer_14 : decode cX4_steer 14 = .ok (.iload_n 2, 1) := by decide +kernel
theorem dX4_steer_15 : decode cX4_steer 15 = .ok (.ifCond .ne 23, 3) := by decide +kernel
theorem dX4_steer_18 : decode cX4_steer 18 = .ok (.iload_n 3, 1) := by decide +kernel
theorem dX4_steer_19 : decode cX4_steer 19 = .ok (.invokestatic 116, 3) := by decide +kernel
theorem dX4_steer_22 : decode cX4_steer 22 = .ok (.ifCond .eq 16, 3) := by decide +kernel
theorem dX4_steer_25 : decode cX4_steer 25 = .ok (.aload_n 0, 1) := by decide +kernel
theorem dX4_steer_26 : decode cX4_steer 26 = .ok (.getfield 12, 3) := by decide +kernel
theorem dX4_steer_29 : decode cX4_steer 29 = .ok (.getfield 95, 3) := by decide +kernel
theorem dX4_steer_32 : decode cX4_steer 32 = .ok (.iload_n 1, 1) := by decide +kernel
theorem dX4_steer_33 : decode cX4_steer 33 = .ok (.iload_n 3, 1) := by decide +kernel
theorem dX4_steer_34 : decode cX4_steer 34 = .ok (.invokestatic 84, 3) := by decide +kernel
theorem dX4_steer_37 : decode cX4_steer 37 = .ok (.ireturn, 1) := by decide +kernel
theorem dX4_steer_38 : decode cX4_steer 38 = .ok (.iload_n 2, 1) := by decide +kernel
theorem dX4_steer_39 : decode cX4_steer 39 = .ok (.iconst 1, 1) := by decide +kernel
theorem dX4_steer_40 : decode cX4_steer 40 = .ok (.if_icmp .ne 26, 3) := by decide +kernel
theorem dX4_steer_43 : decode cX4_steer 43 = .ok (.iload_n 3, 1) := by decide +kernel
theorem dX4_steer_44 : decode cX4_steer 44 = .ok (.iconst 0, 1) := by decide +kernel
theorem dX4_steer_45 : decode cX4_steer 45 = .ok (.bipush 31, 2) := by decide +kernel
theorem dX4_steer_47 : decode cX4_steer 47 = .ok (.invokestatic 88, 3) := by decide +kernel
theorem dX4_steer_50 : decode cX4_steer 50 = .ok (.ifCond .eq 16, 3) := by decide +kernel
theorem dX4_steer_53 : decode cX4_steer 53 = .ok (.aload_n 0, 1) := by decide +kernel
theorem dX4_steer_54 : decode cX4_steer 54 = .ok (.getfield 12, 3) := by decide +kernel
theorem dX4_steer_57 : decode cX4_steer 57 = .ok (.getfield 98, 3) := by decide +kernel
theorem dX4_steer_60 : decode cX4_steer 60 = .ok (.iload_n 1, 1) := by decide +kernel
theorem dX4_steer_61 : decode cX4_steer 61 = .ok (.iload_n 3, 1) := by decide +kernel
theorem dX4_steer_62 : decode cX4_steer 62 = .ok (.invokestatic 84, 3) := by decide +kernel
theorem dX4_steer_65 : decode cX4_steer 65 = .ok (.ireturn, 1) := by decide +kernel
theorem dX4_steer_66 : decode cX4_steer 66 = .ok (.iload_n 2, 1) := by decide +kernel
theorem dX4_steer_67 : decode cX4_steer 67 = .ok (.iconst 2, 1) := by decide +kernel
theorem dX4_steer_68 : decode cX4_steer 68 = .ok (.if_icmp .ne 24, 3) := by decide +kernel
theorem dX4_steer_71 : decode cX4_steer 71 = .ok (.aload_n 0, 1) := by decide +kernel
theorem dX4_steer_72 : decode cX4_steer 72 = .ok (.iload_n 3, 1) := by decide +kernel
theorem dX4_steer_73 : decode cX4_steer 73 = .ok (.invokevirtual 119, 3) := by decide +kernel
theorem dX4_steer_76 : decode cX4_steer 76 = .ok (.ifCond .eq 16, 3) := by decide +kernel
theorem dX4_steer_79 : decode cX4_steer 79 = .ok (.aload_n 0, 1) := by decide +kernel
theorem dX4_steer_80 : decode cX4_steer 80 = .ok (.getfield 12, 3) := by decide +kernel
theorem dX4_steer_83 : decode cX4_steer 83 = .ok (.getfield 101, 3) := by decide +kernel
theorem dX4_steer_86 : decode cX4_steer 86 = .ok (.iload_n 1, 1) := by decide +kernel
theorem dX4_steer_87 : decode cX4_steer 87 = .ok (.iload_n 3, 1) := by decide +kernel
theorem dX4_steer_88 : decode cX4_steer 88 = .ok (.invokestatic 84, 3) := by decide +kernel
theorem dX4_steer_91 : decode cX4_steer 91 = .ok (.ireturn, 1) := by decide +kernel
theorem dX4_steer_92 : decode cX4_steer 92 = .ok (.aload_n 0, 1) := by decide +kernel
theorem dX4_steer_93 : decode cX4_steer 93 = .ok (.ldc 54, 2) := by decide +kernel
theorem dX4_steer_95 : decode cX4_steer 95 = .ok (.invokevirtual 55, 3) := by decide +kernel
theorem dX4_steer_98 : decode cX4_steer 98 = .ok (.ireturn, 1) := by decide +kernel
theorem dX4_island_0 : decode cX4_island 0 = .ok (.iload_n 1, 1) := by decide +kernel
theorem dX4_island_1 : decode cX4_island 1 = .ok (.invokestatic 116, 3) := by decide +kernel
theorem dX4_island_4 : decode cX4_island 4 = .ok (.ifCond .eq 12, 3) := by decide +kernel
theorem dX4_island_7 : decode cX4_island 7 = .ok (.iload_n 2, 1) := by decide +kernel
theorem dX4_island_8 : decode cX4_island 8 = .ok (.iconst 0, 1) := by decide +kernel
theorem dX4_island_9 : decode cX4_island 9 = .ok (.iconst 1, 1) := by decide +kernel
theorem dX4_island_10 : decode cX4_island 10 = .ok (.invokestatic 88, 3) := by decide +kernel
theorem dX4_island_13 : decode cX4_island 13 = .ok (.ifCond .ne 10, 3) := by decide +kernel
theorem dX4_island_16 : decode cX4_island 16 = .ok (.aload_n 0, 1) := by decide +kernel
theorem dX4_island_17 : decode cX4_island 17 = .ok (.ldc 54, 2) := by decide +kernel
theorem dX4_island_19 : decode cX4_island 19 = .ok (.invokevirtual 55, 3) := by decide +kernel
theorem dX4_island_22 : decode cX4_island 22 = .ok (.ireturn, 1) := by decide +kernel
theorem dX4_island_23 : decode cX4_island 23 = .ok (.aload_n 0, 1) := by decide +kernel
theorem dX4_island_24 : decode cX4_island 24 = .ok (.getfield 12, 3) := by decide +kernel
theorem dX4_island_27 : decode cX4_island 27 = .ok (.getfield 122, 3) := by decide +kernel
theorem dX4_island_30 : decode cX4_island 30 = .ok (.iload_n 1, 1) := by decide +kernel
theorem dX4_island_31 : decode cX4_island 31 = .ok (.baload, 1) := by decide +kernel
theorem dX4_island_32 : decode cX4_island 32 = .ok (.istore_n 3, 1) := by decide +kernel
theorem dX4_island_33 : decode cX4_island 33 = .ok (.aload_n 0, 1) := by decide +kernel
theorem dX4_island_34 : decode cX4_island 34 = .ok (.getfield 12, 3) := by decide +kernel
theorem dX4_island_37 : decode cX4_island 37 = .ok (.getfield 122, 3) := by decide +kernel
theorem dX4_island_40 : decode cX4_island 40 = .ok (.iload_n 1, 1) := by decide +kernel
theorem dX4_island_41 : decode cX4_island 41 = .ok (.iload_n 2, 1) := by decide +kernel
theorem dX4_island_42 : decode cX4_island 42 = .ok (.iconst 1, 1) := by decide +kernel
theorem dX4_island_43 : decode cX4_island 43 = .ok (.if_icmp .ne 7, 3) := by decide +kernel
theorem dX4_island_46 : decode cX4_island 46 = .ok (.iconst 1, 1) := by decide +kernel
theorem dX4_island_47 : decode cX4_island 47 = .ok (.goto 4, 3) := by decide +kernel
theorem dX4_island_50 : decode cX4_island 50 = .ok (.iconst 0, 1) := by decide +kernel
theorem dX4_island_51 : decode cX4_island 51 = .ok (.bastore, 1) := by decide +kernel
theorem dX4_island_52 : decode cX4_island 52 = .ok (.iload_n 3, 1) := by decide +kernel
theorem dX4_island_53 : decode cX4_island 53 = .ok (.iload_n 2, 1) := by decide +kernel
theorem dX4_island_54 : decode cX4_island 54 = .ok (.iconst 1, 1) := by decide +kernel
theorem dX4_island_55 : decode cX4_island 55 = .ok (.if_icmp .ne 7, 3) := by decide +kernel
theorem dX4_island_58 : decode cX4_island 58 = .ok (.iconst 1, 1) := by decide +kernel
theorem dX4_island_59 : decode cX4_island 59 = .ok (.goto 4, 3) := by decide +kernel
theorem dX4_island_62 : decode cX4_island 62 = .ok (.iconst 0, 1) := by decide +kernel
theorem dX4_island_63 : decode cX4_island 63 = .ok (.if_icmp .ne 7, 3) := by decide +kernel
theorem dX4_island_66 : decode cX4_island 66 = .ok (.iconst 0, 1) := by decide +kernel
theorem dX4_island_67 : decode cX4_island 67 = .ok (.goto 4, 3) := by decide +kernel
theorem dX4_island_70 : decode cX4_island 70 = .ok (.iconst 1, 1) := by decide +kernel
theorem dX4_island_71 : decode cX4_island 71 = .ok (.ireturn, 1) := by decide +kernel
theorem dX4_wind_0 : decode cX4_wind 0 = .ok (.iload_n 1, 1) := by decide +kernel
theorem dX4_wind_1 : decode cX4_wind 1 = .ok (.iconst 0, 1) := by decide +kernel
theorem dX4_wind_2 : decode cX4_wind 2 = .ok (.bipush 7, 2) := by decide +kernel
theorem dX4_wind_4 : decode cX4_wind 4 = .ok (.invokestatic 88, 3) := by decide +kernel
theorem dX4_wind_7 : decode cX4_wind 7 = .ok (.ifCond .ne 10, 3) := by decide +kernel
theorem dX4_wind_10 : decode cX4_wind 10 = .ok (.aload_n 0, 1) := by decide +kernel
theorem dX4_wind_11 : decode cX4_wind 11 = .ok (.ldc 54, 2) := by decide +kernel
theorem dX4_wind_13 : decode cX4_wind 13 = .ok (.invokevirtual 55, 3) := by decide +kernel
theorem dX4_wind_16 : decode cX4_wind 16 = .ok (.ireturn, 1) := by decide +kernel
theorem dX4_wind_17 : decode cX4_wind 17 = .ok (.aload_n 0, 1) := by decide +kernel
theorem dX4_wind_18 : decode cX4_wind 18 = .ok (.getfield 12, 3) := by decide +kernel
theorem dX4_wind_21 : decode cX4_wind 21 = .ok (.getfield 126, 3) := by decide +kernel
theorem dX4_wind_24 : decode cX4_wind 24 = .ok (.istore_n 2, 1) := by decide +kernel
theorem dX4_wind_25 : decode cX4_wind 25 = .ok (.aload_n 0, 1) := by decide +kernel
theorem dX4_wind_26 : decode cX4_wind 26 = .ok (.getfield 12, 3) := by decide +kernel
theorem dX4_wind_29 : decode cX4_wind 29 = .ok (.iload_n 1, 1) := by decide +kernel
theorem dX4_wind_30 : decode cX4_wind 30 = .ok (.putfield 126, 3) := by decide +kernel
theorem dX4_wind_33 : decode cX4_wind 33 = .ok (.iload_n 2, 1) := by decide +kernel
theorem dX4_wind_34 : decode cX4_wind 34 = .ok (.ireturn, 1) := by decide +kernel
theorem dX4_fish_0 : decode cX4_fish 0 = .ok (.iload_n 1, 1) := by decide +kernel
theorem dX4_fish_1 : decode cX4_fish 1 = .ok (.iconst 0, 1) := by decide +kernel
theorem dX4_fish_2 : decode cX4_fish 2 = .ok (.ldc 129, 2) := by decide +kernel
theorem dX4_fish_4 : decode cX4_fish 4 = .ok (.invokestatic 88, 3) := by decide +kernel
theorem dX4_fish_7 : decode cX4_fish 7 = .ok (.ifCond .ne 10, 3) := by decide +kernel
theorem dX4_fish_10 : decode cX4_fish 10 = .ok (.aload_n 0, 1) := by decide +kernel
theorem dX4_fish_11 : decode cX4_fish 11 = .ok (.ldc 54, 2) := by decide +kernel
theorem dX4_fish_13 : decode cX4_fish 13 = .ok (.invokevirtual 55, 3) := by decide +kernel
theorem dX4_fish_16 : decode cX4_fish 16 = .ok (.ireturn, 1) := by decide +kernel
theorem dX4_fish_17 : decode cX4_fish 17 = .ok (.aload_n 0, 1) := by decide +kernel
theorem dX4_fish_18 : decode cX4_fish 18 = .ok (.getfield 12, 3) := by decide +kernel
theorem dX4_fish_21 : decode cX4_fish 21 = .ok (.getfield 130, 3) := by decide +kernel
theorem dX4_fish_24 : decode cX4_fish 24 = .ok (.istore_n 2, 1) := by decide +kernel
theorem dX4_fish_25 : decode cX4_fish 25 = .ok (.aload_n 0, 1) := by decide +kernel
theorem dX4_fish_26 : decode cX4_fish 26 = .ok (.getfield 12, 3) := by decide +kernel
theorem dX4_fish_29 : decode cX4_fish 29 = .ok (.iload_n 1, 1) := by decide +kernel
theorem dX4_fish_30 : decode cX4_fish 30 = .ok (.putfield 130, 3) := by decide +kernel
theorem dX4_fish_33 : decode cX4_fish 33 = .ok (.iload_n 2, 1) := by decide +kernel
theorem dX4_fish_34 : decode cX4_fish 34 = .ok (.ireturn, 1) := by decide +kernel
theorem dX4_store_0 : decode cX4_store 0 = .ok (.iload_n 1, 1) := by decide +kernel
theorem dX4_store_1 : decode cX4_store 1 = .ok (.iconst 0, 1) := by decide +kernel
theorem dX4_store_2 : decode cX4_store 2 = .ok (.sipush 9999, 3) := by decide +kernel
theorem dX4_store_5 : decode cX4_store 5 = .ok (.invokestatic 88, 3) := by decide +kernel
theorem dX4_store_8 : decode cX4_store 8 = .ok (.ifCond .ne 10, 3) := by decide +kernel
theorem dX4_store_11 : decode cX4_store 11 = .ok (.aload_n 0, 1) := by decide +kernel
theorem dX4_store_12 : decode cX4_store 12 = .ok (.ldc 54, 2) := by decide +kernel
theorem dX4_store_14 : decode cX4_store 14 = .ok (.invokevirtual 55, 3) := by decide +kernel
theorem dX4_store_17 : decode cX4_store 17 = .ok (.ireturn, 1) := by decide +kernel
theorem dX4_store_18 : decode cX4_store 18 = .ok (.aload_n 0, 1) := by decide +kernel
theorem dX4_store_19 : decode cX4_store 19 = .ok (.getfield 12, 3) := by decide +kernel
theorem dX4_store_22 : decode cX4_store 22 = .ok (.getfield 133, 3) := by decide +kernel
theorem dX4_store_25 : decode cX4_store 25 = .ok (.istore_n 2, 1) := by decide +kernel
theorem dX4_store_26 : decode cX4_store 26 = .ok (.aload_n 0, 1) := by decide +kernel
theorem dX4_store_27 : decode cX4_store 27 = .ok (.getfield 12, 3) := by decide +kernel
theorem dX4_store_30 : decode cX4_store 30 = .ok (.iload_n 1, 1) := by decide +kernel
theorem dX4_store_31 : decode cX4_store 31 = .ok (.putfield 133, 3) := by decide +kernel
theorem dX4_store_34 : decode cX4_store 34 = .ok (.iload_n 2, 1) := by decide +kernel
theorem dX4_store_35 : decode cX4_store 35 = .ok (.ireturn, 1) := by decide +kernel
theorem dX4_go_0 : decode cX4_go 0 = .ok (.iload_n 1, 1) := by decide +kernel
theorem dX4_go_1 : decode cX4_go 1 = .ok (.iconst 1, 1) := by decide +kernel
theorem dX4_go_2 : decode cX4_go 2 = .ok (.bipush 60, 2) := by decide +kernel
theorem dX4_go_4 : decode cX4_go 4 = .ok (.invokestatic 88, 3) := by decide +kernel
theorem dX4_go_7 : decode cX4_go 7 = .ok (.ifCond .ne 10, 3) := by decide +kernel
theorem dX4_go_10 : decode cX4_go 10 = .ok (.aload_n 0, 1) := by decide +kernel
theorem dX4_go_11 : decode cX4_go 11 = .ok (.ldc 54, 2) := by decide +kernel
theorem dX4_go_13 : decode cX4_go 13 = .ok (.invokevirtual 55, 3) := by decide +kernel
theorem dX4_go_16 : decode cX4_go 16 = .ok (.ireturn, 1) := by decide +kernel
theorem dX4_go_17 : decode cX4_go 17 = .ok (.aload_n 0, 1) := by decide +kernel
theorem dX4_go_18 : decode cX4_go 18 = .ok (.getfield 12, 3) := by decide +kernel
theorem dX4_go_21 : decode cX4_go 21 = .ok (.getfield 136, 3) := by decide +kernel
theorem dX4_go_24 : decode cX4_go 24 = .ok (.ldc 139, 2) := by decide +kernel
theorem dX4_go_26 : decode cX4_go 26 = .ok (.iload_n 1, 1) := by decide +kernel
theorem dX4_go_27 : decode cX4_go 27 = .ok (.isub, 1) := by decide +kernel
theorem dX4_go_28 : decode cX4_go 28 = .ok (.if_icmp .le 10, 3) := by decide +kernel
theorem dX4_go_31 : decode cX4_go 31 = .ok (.aload_n 0, 1) := by decide +kernel
theorem dX4_go_32 : decode cX4_go 32 = .ok (.ldc 140, 2) := by decide +kernel
theorem dX4_go_34 : decode cX4_go 34 = .ok (.invokevirtual 55, 3) := by decide +kernel
theorem dX4_go_37 : decode cX4_go 37 = .ok (.ireturn, 1) := by decide +kernel
theorem dX4_go_38 : decode cX4_go 38 = .ok (.iconst 0, 1) := by decide +kernel
theorem dX4_go_39 : decode cX4_go 39 = .ok (.istore_n 2, 1) := by decide +kernel
theorem dX4_go_40 : decode cX4_go 40 = .ok (.iload_n 2, 1) := by decide +kernel
theorem dX4_go_41 : decode cX4_go 41 = .ok (.iload_n 1, 1) := by decide +kernel
theorem dX4_go_42 : decode cX4_go 42 = .ok (.if_icmp .ge 16, 3) := by decide +kernel
theorem dX4_go_45 : decode cX4_go 45 = .ok (.aload_n 0, 1) := by decide +kernel
theorem dX4_go_46 : decode cX4_go 46 = .ok (.getfield 12, 3) := by decide +kernel
theorem dX4_go_49 : decode cX4_go 49 = .ok (.invokevirtual 141, 3) := by decide +kernel
theorem dX4_go_52 : decode cX4_go 52 = .ok (.iinc 2 1, 3) := by decide +kernel
theorem dX4_go_55 : decode cX4_go 55 = .ok (.goto (-15), 3) := by decide +kernel
theorem dX4_go_58 : decode cX4_go 58 = .ok (.aload_n 0, 1) := by decide +kernel
theorem dX4_go_59 : decode cX4_go 59 = .ok (.getfield 12, 3) := by decide +kernel
theorem dX4_go_62 : decode cX4_go 62 = .ok (.invokevirtual 144, 3) := by decide +kernel
theorem dX4_go_65 : decode cX4_go 65 = .ok (.invokestatic 148, 3) := by decide +kernel
theorem dX4_go_68 : decode cX4_go 68 = .ok (.ireturn, 1) := by decide +kernel
theorem dX4_feeds_0 : decode cX4_feeds 0 = .ok (.aload_n 0, 1) := by decide +kernel
theorem dX4_feeds_1 : decode cX4_feeds 1 = .ok (.iload_n 1, 1) := by decide +kernel
theorem dX4_feeds_2 : decode cX4_feeds 2 = .ok (.invokevirtual 119, 3) := by decide +kernel
theorem dX4_feeds_5 : decode cX4_feeds 5 = .ok (.ifCond .ne 10, 3) := by decide +kernel
theorem dX4_feeds_8 : decode cX4_feeds 8 = .ok (.aload_n 0, 1) := by decide +kernel
theorem dX4_feeds_9 : decode cX4_feeds 9 = .ok (.ldc 54, 2) := by decide +kernel
theorem dX4_feeds_11 : decode cX4_feeds 11 = .ok (.invokevirtual 55, 3) := by decide +kernel
theorem dX4_feeds_14 : decode cX4_feeds 14 = .ok (.ireturn, 1) := by decide +kernel
theorem dX4_feeds_15 : decode cX4_feeds 15 = .ok (.iload_n 1, 1) := by decide +kernel
theorem dX4_feeds_16 : decode cX4_feeds 16 = .ok (.invokestatic 148, 3) := by decide +kernel
theorem dX4_feeds_19 : decode cX4_feeds 19 = .ok (.istore_n 2, 1) := by decide +kernel
theorem dX4_feeds_20 : decode cX4_feeds 20 = .ok (.aload_n 0, 1) := by decide +kernel
theorem dX4_feeds_21 : decode cX4_feeds 21 = .ok (.getfield 12, 3) := by decide +kernel
theorem dX4_feeds_24 : decode cX4_feeds 24 = .ok (.getfield 133, 3) := by decide +kernel
theorem dX4_feeds_27 : decode cX4_feeds 27 = .ok (.iload_n 2, 1) := by decide +kernel
theorem dX4_feeds_28 : decode cX4_feeds 28 = .ok (.if_icmp .ge 10, 3) := by decide +kernel
theorem dX4_feeds_31 : decode cX4_feeds 31 = .ok (.aload_n 0, 1) := by decide +kernel
theorem dX4_feeds_32 : decode cX4_feeds 32 = .ok (.ldc 140, 2) := by decide +kernel
theorem dX4_feeds_34 : decode cX4_feeds 34 = .ok (.invokevirtual 55, 3) := by decide +kernel
theorem dX4_feeds_37 : decode cX4_feeds 37 = .ok (.ireturn, 1) := by decide +kernel
theorem dX4_feeds_38 : decode cX4_feeds 38 = .ok (.iconst 0, 1) := by decide +kernel
theorem dX4_feeds_39 : decode cX4_feeds 39 = .ok (.istore_n 3, 1) := by decide +kernel
theorem dX4_feeds_40 : decode cX4_feeds 40 = .ok (.iload_n 3, 1) := by decide +kernel
theorem dX4_feeds_41 : decode cX4_feeds 41 = .ok (.aload_n 0, 1) := by decide +kernel
theorem dX4_feeds_42 : decode cX4_feeds 42 = .ok (.getfield 12, 3) := by decide +kernel
theorem dX4_feeds_45 : decode cX4_feeds 45 = .ok (.getfield 59, 3) := by decide +kernel
theorem dX4_feeds_48 : decode cX4_feeds 48 = .ok (.if_icmp .ge 27, 3) := by decide +kernel
theorem dX4_feeds_51 : decode cX4_feeds 51 = .ok (.iload_n 1, 1) := by decide +kernel
theorem dX4_feeds_52 : decode cX4_feeds 52 = .ok (.iload_n 3, 1) := by decide +kernel
theorem dX4_feeds_53 : decode cX4_feeds 53 = .ok (.invokestatic 153, 3) := by decide +kernel
theorem dX4_feeds_56 : decode cX4_feeds 56 = .ok (.ifCond .eq 13, 3) := by decide +kernel
theorem dX4_feeds_59 : decode cX4_feeds 59 = .ok (.aload_n 0, 1) := by decide +kernel
theorem dX4_feeds_60 : decode cX4_feeds 60 = .ok (.getfield 12, 3) := by decide +kernel
theorem dX4_feeds_63 : decode cX4_feeds 63 = .ok (.getfield 74, 3) := by decide +kernel
theorem dX4_feeds_66 : decode cX4_feeds 66 = .ok (.iload_n 3, 1) := by decide +kernel
theorem dX4_feeds_67 : decode cX4_feeds 67 = .ok (.iconst 0, 1) := by decide +kernel
theorem dX4_feeds_68 : decode cX4_feeds 68 = .ok (.iastore, 1) := by decide +kernel
theorem dX4_feeds_69 : decode cX4_feeds 69 = .ok (.iinc 3 1, 3) := by decide +kernel
theorem dX4_feeds_72 : decode cX4_feeds 72 = .ok (.goto (-32), 3) := by decide +kernel
theorem dX4_feeds_75 : decode cX4_feeds 75 = .ok (.aload_n 0, 1) := by decide +kernel
theorem dX4_feeds_76 : decode cX4_feeds 76 = .ok (.getfield 12, 3) := by decide +kernel
theorem dX4_feeds_79 : decode cX4_feeds 79 = .ok (.dup, 1) := by decide +kernel
theorem dX4_feeds_80 : decode cX4_feeds 80 = .ok (.getfield 133, 3) := by decide +kernel
theorem dX4_feeds_83 : decode cX4_feeds 83 = .ok (.iload_n 2, 1) := by decide +kernel
theorem dX4_feeds_84 : decode cX4_feeds 84 = .ok (.isub, 1) := by decide +kernel
theorem dX4_feeds_85 : decode cX4_feeds 85 = .ok (.putfield 133, 3) := by decide +kernel
theorem dX4_feeds_88 : decode cX4_feeds 88 = .ok (.aload_n 0, 1) := by decide +kernel
theorem dX4_feeds_89 : decode cX4_feeds 89 = .ok (.getfield 12, 3) := by decide +kernel
theorem dX4_feeds_92 : decode cX4_feeds 92 = .ok (.getfield 133, 3) := by decide +kernel
theorem dX4_feeds_95 : decode cX4_feeds 95 = .ok (.ireturn, 1) := by decide +kernel
theorem dX4_now_0 : decode cX4_now 0 = .ok (.iload_n 1, 1) := by decide +kernel
theorem dX4_now_1 : decode cX4_now 1 = .ok (.tableswitch 87 0 5 #[39, 47, 55, 63, 71, 79], 39) := by decide +kernel
theorem dX4_now_40 : decode cX4_now 40 = .ok (.aload_n 0, 1) := by decide +kernel
theorem dX4_now_41 : decode cX4_now 41 = .ok (.getfield 12, 3) := by decide +kernel
theorem dX4_now_44 : decode cX4_now 44 = .ok (.getfield 136, 3) := by decide +kernel
theorem dX4_now_47 : decode cX4_now 47 = .ok (.ireturn, 1) := by decide +kernel
theorem dX4_now_48 : decode cX4_now 48 = .ok (.aload_n 0, 1) := by decide +kernel
theorem dX4_now_49 : decode cX4_now 49 = .ok (.getfield 12, 3) := by decide +kernel
theorem dX4_now_52 : decode cX4_now 52 = .ok (.getfield 133, 3) := by decide +kernel
theorem dX4_now_55 : decode cX4_now 55 = .ok (.ireturn, 1) := by decide +kernel
theorem dX4_now_56 : decode cX4_now 56 = .ok (.aload_n 0, 1) := by decide +kernel
theorem dX4_now_57 : decode cX4_now 57 = .ok (.getfield 12, 3) := by decide +kernel
theorem dX4_now_60 : decode cX4_now 60 = .ok (.getfield 126, 3) := by decide +kernel
theorem dX4_now_63 : decode cX4_now 63 = .ok (.ireturn, 1) := by decide +kernel
theorem dX4_now_64 : decode cX4_now 64 = .ok (.aload_n 0, 1) := by decide +kernel
theorem dX4_now_65 : decode cX4_now 65 = .ok (.getfield 12, 3) := by decide +kernel
theorem dX4_now_68 : decode cX4_now 68 = .ok (.invokevirtual 144, 3) := by decide +kernel
theorem dX4_now_71 : decode cX4_now 71 = .ok (.ireturn, 1) := by decide +kernel
theorem dX4_now_72 : decode cX4_now 72 = .ok (.aload_n 0, 1) := by decide +kernel
theorem dX4_now_73 : decode cX4_now 73 = .ok (.getfield 12, 3) := by decide +kernel
theorem dX4_now_76 : decode cX4_now 76 = .ok (.invokevirtual 157, 3) := by decide +kernel
theorem dX4_now_79 : decode cX4_now 79 = .ok (.ireturn, 1) := by decide +kernel
theorem dX4_now_80 : decode cX4_now 80 = .ok (.aload_n 0, 1) := by decide +kernel
theorem dX4_now_81 : decode cX4_now 81 = .ok (.getfield 12, 3) := by decide +kernel
theorem dX4_now_84 : decode cX4_now 84 = .ok (.invokevirtual 160, 3) := by decide +kernel
theorem dX4_now_87 : decode cX4_now 87 = .ok (.ireturn, 1) := by decide +kernel
theorem dX4_now_88 : decode cX4_now 88 = .ok (.aload_n 0, 1) := by decide +kernel
theorem dX4_now_89 : decode cX4_now 89 = .ok (.ldc 54, 2) := by decide +kernel
theorem dX4_now_91 : decode cX4_now 91 = .ok (.invokevirtual 55, 3) := by decide +kernel
theorem dX4_now_94 : decode cX4_now 94 = .ok (.ireturn, 1) := by decide +kernel
theorem dX4_ahead_0 : decode cX4_ahead 0 = .ok (.iload_n 1, 1) := by decide +kernel
theorem dX4_ahead_1 : decode cX4_ahead 1 = .ok (.invokestatic 92, 3) := by decide +kernel
theorem dX4_ahead_4 : decode cX4_ahead 4 = .ok (.ifCond .eq 14, 3) := by decide +kernel
theorem dX4_ahead_7 : decode cX4_ahead 7 = .ok (.iload_n 2, 1) := by decide +kernel
theorem dX4_ahead_8 : decode cX4_ahead 8 = .ok (.iconst 0, 1) := by decide +kernel
theorem dX4_ahead_9 : decode cX4_ahead 9 = .ok (.sipush 200, 3) := by decide +kernel
theorem dX4_ahead_12 : decode cX4_ahead 12 = .ok (.invokestatic 88, 3) := by decide +kernel
theorem dX4_ahead_15 : decode cX4_ahead 15 = .ok (.ifCond .ne 10, 3) := by decide +kernel
theorem dX4_ahead_18 : decode cX4_ahead 18 = .ok (.aload_n 0, 1) := by decide +kernel
theorem dX4_ahead_19 : decode cX4_ahead 19 = .ok (.ldc 54, 2) := by decide +kernel
theorem dX4_ahead_21 : decode cX4_ahead 21 = .ok (.invokevirtual 55, 3) := by decide +kernel
theorem dX4_ahead_24 : decode cX4_ahead 24 = .ok (.ireturn, 1) := by decide +kernel
theorem dX4_ahead_25 : decode cX4_ahead 25 = .ok (.aload_n 0, 1) := by decide +kernel
theorem dX4_ahead_26 : decode cX4_ahead 26 = .ok (.getfield 12, 3) := by decide +kernel
theorem dX4_ahead_29 : decode cX4_ahead 29 = .ok (.iload_n 1, 1) := by decide +kernel
theorem dX4_ahead_30 : decode cX4_ahead 30 = .ok (.iload_n 2, 1) := by decide +kernel
theorem dX4_ahead_31 : decode cX4_ahead 31 = .ok (.invokevirtual 163, 3) := by decide +kernel
theorem dX4_ahead_34 : decode cX4_ahead 34 = .ok (.ireturn, 1) := by decide +kernel
theorem dX4_lands_0 : decode cX4_lands 0 = .ok (.iload_n 1, 1) := by decide +kernel
theorem dX4_lands_1 : decode cX4_lands 1 = .ok (.invokestatic 92, 3) := by decide +kernel
theorem dX4_lands_4 : decode cX4_lands 4 = .ok (.ifCond .ne 10, 3) := by decide +kernel
theorem dX4_lands_7 : decode cX4_lands 7 = .ok (.aload_n 0, 1) := by decide +kernel
theorem dX4_lands_8 : decode cX4_lands 8 = .ok (.ldc 54, 2) := by decide +kernel
theorem dX4_lands_10 : decode cX4_lands 10 = .ok (.invokevirtual 55, 3) := by decide +kernel
theorem dX4_lands_13 : decode cX4_lands 13 = .ok (.ireturn, 1) := by decide +kernel
theorem dX4_lands_14 : decode cX4_lands 14 = .ok (.aload_n 0, 1) := by decide +kernel
theorem dX4_lands_15 : decode cX4_lands 15 = .ok (.getfield 12, 3) := by decide +kernel
theorem dX4_lands_18 : decode cX4_lands 18 = .ok (.getfield 95, 3) := by decide +kernel
theorem dX4_lands_21 : decode cX4_lands 21 = .ok (.iload_n 1, 1) := by decide +kernel
theorem dX4_lands_22 : decode cX4_lands 22 = .ok (.iaload, 1) := by decide +kernel
theorem dX4_lands_23 : decode cX4_lands 23 = .ok (.istore_n 2, 1) := by decide +kernel
theorem dX4_lands_24 : decode cX4_lands 24 = .ok (.iconst 0, 1) := by decide +kernel
theorem dX4_lands_25 : decode cX4_lands 25 = .ok (.istore_n 3, 1) := by decide +kernel
theorem dX4_lands_26 : decode cX4_lands 26 = .ok (.iload_n 3, 1) := by decide +kernel
theorem dX4_lands_27 : decode cX4_lands 27 = .ok (.sipush 200, 3) := by decide +kernel
theorem dX4_lands_30 : decode cX4_lands 30 = .ok (.if_icmp .gt 34, 3) := by decide +kernel
theorem dX4_lands_33 : decode cX4_lands 33 = .ok (.aload_n 0, 1) := by decide +kernel
theorem dX4_lands_34 : decode cX4_lands 34 = .ok (.getfield 12, 3) := by decide +kernel
theorem dX4_lands_37 : decode cX4_lands 37 = .ok (.getfield 122, 3) := by decide +kernel
theorem dX4_lands_40 : decode cX4_lands 40 = .ok (.iload_n 2, 1) := by decide +kernel
theorem dX4_lands_41 : decode cX4_lands 41 = .ok (.baload, 1) := by decide +kernel
theorem dX4_lands_42 : decode cX4_lands 42 = .ok (.ifCond .eq 5, 3) := by decide +kernel
theorem dX4_lands_45 : decode cX4_lands 45 = .ok (.iload_n 3, 1) := by decide +kernel
theorem dX4_lands_46 : decode cX4_lands 46 = .ok (.ireturn, 1) := by decide +kernel
theorem dX4_lands_47 : decode cX4_lands 47 = .ok (.aload_n 0, 1) := by decide +kernel
theorem dX4_lands_48 : decode cX4_lands 48 = .ok (.getfield 12, 3) := by decide +kernel
theorem dX4_lands_51 : decode cX4_lands 51 = .ok (.iload_n 1, 1) := by decide +kernel
theorem dX4_lands_52 : decode cX4_lands 52 = .ok (.iload_n 2, 1) := by decide +kernel
theorem dX4_lands_53 : decode cX4_lands 53 = .ok (.iload_n 3, 1) := by decide +kernel
theorem dX4_lands_54 : decode cX4_lands 54 = .ok (.invokevirtual 110, 3) := by decide +kernel
theorem dX4_lands_57 : decode cX4_lands 57 = .ok (.istore_n 2, 1) := by decide +kernel
theorem dX4_lands_58 : decode cX4_lands 58 = .ok (.iinc 3 1, 3) := by decide +kernel
theorem dX4_lands_61 : decode cX4_lands 61 = .ok (.goto (-35), 3) := by decide +kernel
theorem dX4_lands_64 : decode cX4_lands 64 = .ok (.aload_n 0, 1) := by decide +kernel
theorem dX4_lands_65 : decode cX4_lands 65 = .ok (.ldc 166, 2) := by decide +kernel
theorem dX4_lands_67 : decode cX4_lands 67 = .ok (.invokevirtual 55, 3) := by decide +kernel
theorem dX4_lands_70 : decode cX4_lands 70 = .ok (.ireturn, 1) := by decide +kernel
theorem dX4_meets_0 : decode cX4_meets 0 = .ok (.iload_n 1, 1) := by decide +kernel
theorem dX4_meets_1 : decode cX4_meets 1 = .ok (.invokestatic 92, 3) := by decide +kernel
theorem dX4_meets_4 : decode cX4_meets 4 = .ok (.ifCond .eq 15, 3) := by decide +kernel
theorem dX4_meets_7 : decode cX4_meets 7 = .ok (.iload_n 2, 1) := by decide +kernel
theorem dX4_meets_8 : decode cX4_meets 8 = .ok (.invokestatic 92, 3) := by decide +kernel
theorem dX4_meets_11 : decode cX4_meets 11 = .ok (.ifCond .eq 8, 3) := by decide +kernel
theorem dX4_meets_14 : decode cX4_meets 14 = .ok (.iload_n 1, 1) := by decide +kernel
theorem dX4_meets_15 : decode cX4_meets 15 = .ok (.iload_n 2, 1) := by decide +kernel
theorem dX4_meets_16 : decode cX4_meets 16 = .ok (.if_icmp .ne 10, 3) := by decide +kernel
theorem dX4_meets_19 : decode cX4_meets 19 = .ok (.aload_n 0, 1) := by decide +kernel
theorem dX4_meets_20 : decode cX4_meets 20 = .ok (.ldc 54, 2) := by decide +kernel
theorem dX4_meets_22 : decode cX4_meets 22 = .ok (.invokevirtual 55, 3) := by decide +kernel
theorem dX4_meets_25 : decode cX4_meets 25 = .ok (.ireturn, 1) := by decide +kernel
theorem dX4_meets_26 : decode cX4_meets 26 = .ok (.aload_n 0, 1) := by decide +kernel
theorem dX4_meets_27 : decode cX4_meets 27 = .ok (.getfield 12, 3) := by decide +kernel
theorem dX4_meets_30 : decode cX4_meets 30 = .ok (.getfield 95, 3) := by decide +kernel
theorem dX4_meets_33 : decode cX4_meets 33 = .ok (.iload_n 1, 1) := by decide +kernel
theorem dX4_meets_34 : decode cX4_meets 34 = .ok (.iaload, 1) := by decide +kernel
theorem dX4_meets_35 : decode cX4_meets 35 = .ok (.istore_n 3, 1) := by decide +kernel
theorem dX4_meets_36 : decode cX4_meets 36 = .ok (.aload_n 0, 1) := by decide +kernel
theorem dX4_meets_37 : decode cX4_meets 37 = .ok (.getfield 12, 3) := by decide +kernel
theorem dX4_meets_40 : decode cX4_meets 40 = .ok (.getfield 95, 3) := by decide +kernel
theorem dX4_meets_43 : decode cX4_meets 43 = .ok (.iload_n 2, 1) := by decide +kernel
theorem dX4_meets_44 : decode cX4_meets 44 = .ok (.iaload, 1) := by decide +kernel
theorem dX4_meets_45 : decode cX4_meets 45 = .ok (.istore 4, 2) := by decide +kernel
theorem dX4_meets_47 : decode cX4_meets 47 = .ok (.iconst 0, 1) := by decide +kernel
theorem dX4_meets_48 : decode cX4_meets 48 = .ok (.istore 5, 2) := by decide +kernel
theorem dX4_meets_50 : decode cX4_meets 50 = .ok (.iload 5, 2) := by decide +kernel
theorem dX4_meets_52 : decode cX4_meets 52 = .ok (.sipush 200, 3) := by decide +kernel
theorem dX4_meets_55 : decode cX4_meets 55 = .ok (.if_icmp .gt 44, 3) := by decide +kernel
theorem dX4_meets_58 : decode cX4_meets 58 = .ok (.iload_n 3, 1) := by decide +kernel
theorem dX4_meets_59 : decode cX4_meets 59 = .ok (.iload 4, 2) := by decide +kernel
theorem dX4_meets_61 : decode cX4_meets 61 = .ok (.if_icmp .ne 6, 3) := by decide +kernel
theorem dX4_meets_64 : decode cX4_meets 64 = .ok (.iload 5, 2) := by decide +kernel
theorem dX4_meets_66 : decode cX4_meets 66 = .ok (.ireturn, 1) := by decide +kernel
theorem dX4_meets_67 : decode cX4_meets 67 = .ok (.aload_n 0, 1) := by decide +kernel
theorem dX4_meets_68 : decode cX4_meets 68 = .ok (.getfield 12, 3) := by decide +kernel
theorem dX4_meets_71 : decode cX4_meets 71 = .ok (.iload_n 1, 1) := by decide +kernel
theorem dX4_meets_72 : decode cX4_meets 72 = .ok (.iload_n 3, 1) := by decide +kernel
theorem dX4_meets_73 : decode cX4_meets 73 = .ok (.iload 5, 2) := by decide +kernel
theorem dX4_meets_75 : decode cX4_meets 75 = .ok (.invokevirtual 110, 3) := by decide +kernel
theorem dX4_meets_78 : decode cX4_meets 78 = .ok (.istore_n 3, 1) := by decide +kernel
theorem dX4_meets_79 : decode cX4_meets 79 = .ok (.aload_n 0, 1) := by decide +kernel
theorem dX4_meets_80 : decode cX4_meets 80 = .ok (.getfield 12, 3) := by decide +kernel
theorem dX4_meets_83 : decode cX4_meets 83 = .ok (.iload_n 2, 1) := by decide +kernel
theorem dX4_meets_84 : decode cX4_meets 84 = .ok (.iload 4, 2) := by decide +kernel
theorem dX4_meets_86 : decode cX4_meets 86 = .ok (.iload 5, 2) := by decide +kernel
theorem dX4_meets_88 : decode cX4_meets 88 = .ok (.invokevirtual 110, 3) := by decide +kernel
theorem dX4_meets_91 : decode cX4_meets 91 = .ok (.istore 4, 2) := by decide +kernel
theorem dX4_meets_93 : decode cX4_meets 93 = .ok (.iinc 5 1, 3) := by decide +kernel
theorem dX4_meets_96 : decode cX4_meets 96 = .ok (.goto (-46), 3) := by decide +kernel
theorem dX4_meets_99 : decode cX4_meets 99 = .ok (.aload_n 0, 1) := by decide +kernel
theorem dX4_meets_100 : decode cX4_meets 100 = .ok (.ldc 166, 2) := by decide +kernel
theorem dX4_meets_102 : decode cX4_meets 102 = .ok (.invokevirtual 55, 3) := by decide +kernel
theorem dX4_meets_105 : decode cX4_meets 105 = .ok (.ireturn, 1) := by decide +kernel
theorem dX4_still_0 : decode cX4_still 0 = .ok (.aload_n 0, 1) := by decide +kernel
theorem dX4_still_1 : decode cX4_still 1 = .ok (.getfield 12, 3) := by decide +kernel
theorem dX4_still_4 : decode cX4_still 4 = .ok (.getfield 95, 3) := by decide +kernel
theorem dX4_still_7 : decode cX4_still 7 = .ok (.iconst 0, 1) := by decide +kernel
theorem dX4_still_8 : decode cX4_still 8 = .ok (.aload_n 0, 1) := by decide +kernel
theorem dX4_still_9 : decode cX4_still 9 = .ok (.getfield 46, 3) := by decide +kernel
theorem dX4_still_12 : decode cX4_still 12 = .ok (.iconst 0, 1) := by decide +kernel
theorem dX4_still_13 : decode cX4_still 13 = .ok (.iconst 4, 1) := by decide +kernel
theorem dX4_still_14 : decode cX4_still 14 = .ok (.invokestatic 167, 3) := by decide +kernel
theorem dX4_still_17 : decode cX4_still 17 = .ok (.iconst 0, 1) := by decide +kernel
theorem dX4_still_18 : decode cX4_still 18 = .ok (.istore_n 1, 1) := by decide +kernel
theorem dX4_still_19 : decode cX4_still 19 = .ok (.iload_n 1, 1) := by decide +kernel
theorem dX4_still_20 : decode cX4_still 20 = .ok (.bipush 60, 2) := by decide +kernel
theorem dX4_still_22 : decode cX4_still 22 = .ok (.if_icmp .gt 19, 3) := by decide +kernel
theorem dX4_still_25 : decode cX4_still 25 = .ok (.aload_n 0, 1) := by decide +kernel
theorem dX4_still_26 : decode cX4_still 26 = .ok (.iload_n 1, 1) := by decide +kernel
theorem dX4_still_27 : decode cX4_still 27 = .ok (.invokevirtual 173, 3) := by decide +kernel
theorem dX4_still_30 : decode cX4_still 30 = .ok (.ifCond .ne 5, 3) := by decide +kernel
theorem dX4_still_33 : decode cX4_still 33 = .ok (.iload_n 1, 1) := by decide +kernel
theorem dX4_still_34 : decode cX4_still 34 = .ok (.ireturn, 1) := by decide +kernel
theorem dX4_still_35 : decode cX4_still 35 = .ok (.iinc 1 1, 3) := by decide +kernel
theorem dX4_still_38 : decode cX4_still 38 = .ok (.goto (-19), 3) := by decide +kernel
theorem dX4_still_41 : decode cX4_still 41 = .ok (.aload_n 0, 1) := by decide +kernel
theorem dX4_still_42 : decode cX4_still 42 = .ok (.ldc 166, 2) := by decide +kernel
theorem dX4_still_44 : decode cX4_still 44 = .ok (.invokevirtual 55, 3) := by decide +kernel
theorem dX4_still_47 : decode cX4_still 47 = .ok (.ireturn, 1) := by decide +kernel
theorem dX4_movesPlaces_0 : decode cX4_movesPlaces 0 = .ok (.iconst 0, 1) := by decide +kernel
theorem dX4_movesPlaces_1 : decode cX4_movesPlaces 1 = .ok (.istore_n 2, 1) := by decide +kernel
theorem dX4_movesPlaces_2 : decode cX4_movesPlaces 2 = .ok (.iconst 0, 1) := by decide +kernel
theorem dX4_movesPlaces_3 : decode cX4_movesPlaces 3 = .ok (.istore_n 3, 1) := by decide +kernel
theorem dX4_movesPlaces_4 : decode cX4_movesPlaces 4 = .ok (.iload_n 3, 1) := by decide +kernel
theorem dX4_movesPlaces_5 : decode cX4_movesPlaces 5 = .ok (.iconst 4, 1) := by decide +kernel
theorem dX4_movesPlaces_6 : decode cX4_movesPlaces 6 = .ok (.if_icmp .ge 47, 3) := by decide +kernel
theorem dX4_movesPlaces_9 : decode cX4_movesPlaces 9 = .ok (.aload_n 0, 1) := by decide +kernel
theorem dX4_movesPlaces_10 : decode cX4_movesPlaces 10 = .ok (.getfield 12, 3) := by decide +kernel
theorem dX4_movesPlaces_13 : decode cX4_movesPlaces 13 = .ok (.iload_n 3, 1) := by decide +kernel
theorem dX4_movesPlaces_14 : decode cX4_movesPlaces 14 = .ok (.aload_n 0, 1) := by decide +kernel
theorem dX4_movesPlaces_15 : decode cX4_movesPlaces 15 = .ok (.getfield 46, 3) := by decide +kernel
theorem dX4_movesPlaces_18 : decode cX4_movesPlaces 18 = .ok (.iload_n 3, 1) := by decide +kernel
theorem dX4_movesPlaces_19 : decode cX4_movesPlaces 19 = .ok (.iaload, 1) := by decide +kernel
theorem dX4_movesPlaces_20 : decode cX4_movesPlaces 20 = .ok (.iload_n 1, 1) := by decide +kernel
theorem dX4_movesPlaces_21 : decode cX4_movesPlaces 21 = .ok (.invokevirtual 110, 3) := by decide +kernel
theorem dX4_movesPlaces_24 : decode cX4_movesPlaces 24 = .ok (.istore 4, 2) := by decide +kernel
theorem dX4_movesPlaces_26 : decode cX4_movesPlaces 26 = .ok (.iload 4, 2) := by decide +kernel
theorem dX4_movesPlaces_28 : decode cX4_movesPlaces 28 = .ok (.aload_n 0, 1) := by decide +kernel
theorem dX4_movesPlaces_29 : decode cX4_movesPlaces 29 = .ok (.getfield 46, 3) := by decide +kernel
theorem dX4_movesPlaces_32 : decode cX4_movesPlaces 32 = .ok (.iload_n 3, 1) := by decide +kernel
theorem dX4_movesPlaces_33 : decode cX4_movesPlaces 33 = .ok (.iaload, 1) := by decide +kernel
theorem dX4_movesPlaces_34 : decode cX4_movesPlaces 34 = .ok (.if_icmp .eq 5, 3) := by decide +kernel
theorem dX4_movesPlaces_37 : decode cX4_movesPlaces 37 = .ok (.iconst 1, 1) := by decide +kernel
theorem dX4_movesPlaces_38 : decode cX4_movesPlaces 38 = .ok (.istore_n 2, 1) := by decide +kernel
theorem dX4_movesPlaces_39 : decode cX4_movesPlaces 39 = .ok (.aload_n 0, 1) := by decide +kernel
theorem dX4_movesPlaces_40 : decode cX4_movesPlaces 40 = .ok (.getfield 46, 3) := by decide +kernel
theorem dX4_movesPlaces_43 : decode cX4_movesPlaces 43 = .ok (.iload_n 3, 1) := by decide +kernel
theorem dX4_movesPlaces_44 : decode cX4_movesPlaces 44 = .ok (.iload 4, 2) := by decide +kernel
theorem dX4_movesPlaces_46 : decode cX4_movesPlaces 46 = .ok (.iastore, 1) := by decide +kernel
theorem dX4_movesPlaces_47 : decode cX4_movesPlaces 47 = .ok (.iinc 3 1, 3) := by decide +kernel
theorem dX4_movesPlaces_50 : decode cX4_movesPlaces 50 = .ok (.goto (-46), 3) := by decide +kernel
theorem dX4_movesPlaces_53 : decode cX4_movesPlaces 53 = .ok (.iload_n 2, 1) := by decide +kernel
theorem dX4_movesPlaces_54 : decode cX4_movesPlaces 54 = .ok (.ireturn, 1) := by decide +kernel
theorem dX4_sits_0 : decode cX4_sits 0 = .ok (.aload_n 0, 1) := by decide +kernel
theorem dX4_sits_1 : decode cX4_sits 1 = .ok (.iload_n 1, 1) := by decide +kernel
theorem dX4_sits_2 : decode cX4_sits 2 = .ok (.invokevirtual 68, 3) := by decide +kernel
theorem dX4_sits_5 : decode cX4_sits 5 = .ok (.ifCond .eq 14, 3) := by decide +kernel
theorem dX4_sits_8 : decode cX4_sits 8 = .ok (.iload_n 2, 1) := by decide +kernel
theorem dX4_sits_9 : decode cX4_sits 9 = .ok (.iconst 0, 1) := by decide +kernel
theorem dX4_sits_10 : decode cX4_sits 10 = .ok (.sipush 200, 3) := by decide +kernel
theorem dX4_sits_13 : decode cX4_sits 13 = .ok (.invokestatic 88, 3) := by decide +kernel
theorem dX4_sits_16 : decode cX4_sits 16 = .ok (.ifCond .ne 10, 3) := by decide +kernel
theorem dX4_sits_19 : decode cX4_sits 19 = .ok (.aload_n 0, 1) := by decide +kernel
theorem dX4_sits_20 : decode cX4_sits 20 = .ok (.ldc 54, 2) := by decide +kernel
theorem dX4_sits_22 : decode cX4_sits 22 = .ok (.invokevirtual 55, 3) := by decide +kernel
theorem dX4_sits_25 : decode cX4_sits 25 = .ok (.ireturn, 1) := by decide +kernel
theorem dX4_sits_26 : decode cX4_sits 26 = .ok (.aload_n 0, 1) := by decide +kernel
theorem dX4_sits_27 : decode cX4_sits 27 = .ok (.getfield 12, 3) := by decide +kernel
theorem dX4_sits_30 : decode cX4_sits 30 = .ok (.iload_n 1, 1) := by decide +kernel
theorem dX4_sits_31 : decode cX4_sits 31 = .ok (.iload_n 2, 1) := by decide +kernel
theorem dX4_sits_32 : decode cX4_sits 32 = .ok (.invokevirtual 80, 3) := by decide +kernel
theorem dX4_sits_35 : decode cX4_sits 35 = .ok (.ireturn, 1) := by decide +kernel
theorem dX4_order_0 : decode cX4_order 0 = .ok (.iload_n 1, 1) := by decide +kernel
theorem dX4_order_1 : decode cX4_order 1 = .ok (.invokestatic 92, 3) := by decide +kernel
theorem dX4_order_4 : decode cX4_order 4 = .ok (.ifCond .ne 10, 3) := by decide +kernel
theorem dX4_order_7 : decode cX4_order 7 = .ok (.aload_n 0, 1) := by decide +kernel
theorem dX4_order_8 : decode cX4_order 8 = .ok (.ldc 54, 2) := by decide +kernel
theorem dX4_order_10 : decode cX4_order 10 = .ok (.invokevirtual 55, 3) := by decide +kernel
theorem dX4_order_13 : decode cX4_order 13 = .ok (.ireturn, 1) := by decide +kernel
theorem dX4_order_14 : decode cX4_order 14 = .ok (.aload_n 0, 1) := by decide +kernel
theorem dX4_order_15 : decode cX4_order 15 = .ok (.iload_n 1, 1) := by decide +kernel
theorem dX4_order_16 : decode cX4_order 16 = .ok (.invokevirtual 176, 3) := by decide +kernel
theorem dX4_order_19 : decode cX4_order 19 = .ok (.istore_n 2, 1) := by decide +kernel
theorem dX4_order_20 : decode cX4_order 20 = .ok (.iload_n 2, 1) := by decide +kernel
theorem dX4_order_21 : decode cX4_order 21 = .ok (.ifCond .ge 12, 3) := by decide +kernel
theorem dX4_order_24 : decode cX4_order 24 = .ok (.aload_n 0, 1) := by decide +kernel
theorem dX4_order_25 : decode cX4_order 25 = .ok (.ldc 166, 2) := by decide +kernel
theorem dX4_order_27 : decode cX4_order 27 = .ok (.invokevirtual 55, 3) := by decide +kernel
theorem dX4_order_30 : decode cX4_order 30 = .ok (.goto 4, 3) := by decide +kernel
theorem dX4_order_33 : decode cX4_order 33 = .ok (.iload_n 2, 1) := by decide +kernel
theorem dX4_order_34 : decode cX4_order 34 = .ok (.ireturn, 1) := by decide +kernel
theorem dX4_soonest_0 : decode cX4_soonest 0 = .ok (.iload_n 1, 1) := by decide +kernel
theorem dX4_soonest_1 : decode cX4_soonest 1 = .ok (.invokestatic 92, 3) := by decide +kernel
theorem dX4_soonest_4 : decode cX4_soonest 4 = .ok (.ifCond .ne 10, 3) := by decide +kernel
theorem dX4_soonest_7 : decode cX4_soonest 7 = .ok (.aload_n 0, 1) := by decide +kernel
theorem dX4_soonest_8 : decode cX4_soonest 8 = .ok (.ldc 54, 2) := by decide +kernel
theorem dX4_soonest_10 : decode cX4_soonest 10 = .ok (.invokevirtual 55, 3) := by decide +kernel
theorem dX4_soonest_13 : decode cX4_soonest 13 = .ok (.ireturn, 1) := by decide +kernel
theorem dX4_soonest_14 : decode cX4_soonest 14 = .ok (.aload_n 0, 1) := by decide +kernel
theorem dX4_soonest_15 : decode cX4_soonest 15 = .ok (.iload_n 1, 1) := by decide +kernel
theorem dX4_soonest_16 : decode cX4_soonest 16 = .ok (.invokevirtual 176, 3) := by decide +kernel
theorem dX4_soonest_19 : decode cX4_soonest 19 = .ok (.istore_n 2, 1) := by decide +kernel
theorem dX4_soonest_20 : decode cX4_soonest 20 = .ok (.iload_n 2, 1) := by decide +kernel
theorem dX4_soonest_21 : decode cX4_soonest 21 = .ok (.ifCond .ge 12, 3) := by decide +kernel
theorem dX4_soonest_24 : decode cX4_soonest 24 = .ok (.aload_n 0, 1) := by decide +kernel
theorem dX4_soonest_25 : decode cX4_soonest 25 = .ok (.ldc 166, 2) := by decide +kernel
theorem dX4_soonest_27 : decode cX4_soonest 27 = .ok (.invokevirtual 55, 3) := by decide +kernel
theorem dX4_soonest_30 : decode cX4_soonest 30 = .ok (.goto 16, 3) := by decide +kernel
theorem dX4_soonest_33 : decode cX4_soonest 33 = .ok (.aload_n 0, 1) := by decide +kernel
theorem dX4_soonest_34 : decode cX4_soonest 34 = .ok (.iload_n 1, 1) := by decide +kernel
theorem dX4_soonest_35 : decode cX4_soonest 35 = .ok (.iload_n 2, 1) := by decide +kernel
theorem dX4_soonest_36 : decode cX4_soonest 36 = .ok (.aload_n 0, 1) := by decide +kernel
theorem dX4_soonest_37 : decode cX4_soonest 37 = .ok (.getfield 12, 3) := by decide +kernel
theorem dX4_soonest_40 : decode cX4_soonest 40 = .ok (.getfield 126, 3) := by decide +kernel
theorem dX4_soonest_43 : decode cX4_soonest 43 = .ok (.invokevirtual 179, 3) := by decide +kernel
theorem dX4_soonest_46 : decode cX4_soonest 46 = .ok (.ireturn, 1) := by decide +kernel
theorem dX4_orders_0 : decode cX4_orders 0 = .ok (.iload_n 1, 1) := by decide +kernel
theorem dX4_orders_1 : decode cX4_orders 1 = .ok (.invokestatic 92, 3) := by decide +kernel
theorem dX4_orders_4 : decode cX4_orders 4 = .ok (.ifCond .eq 10, 3) := by decide +kernel
theorem dX4_orders_7 : decode cX4_orders 7 = .ok (.iload_n 2, 1) := by decide +kernel
theorem dX4_orders_8 : decode cX4_orders 8 = .ok (.invokestatic 116, 3) := by decide +kernel
theorem dX4_orders_11 : decode cX4_orders 11 = .ok (.ifCond .ne 11, 3) := by decide +kernel
theorem dX4_orders_14 : decode cX4_orders 14 = .ok (.aload_n 0, 1) := by decide +kernel
theorem dX4_orders_15 : decode cX4_orders 15 = .ok (.ldc 54, 2) := by decide +kernel
theorem dX4_orders_17 : decode cX4_orders 17 = .ok (.invokevirtual 55, 3) := by decide +kernel
theorem dX4_orders_20 : decode cX4_orders 20 = .ok (.i2l, 1) := by decide +kernel
theorem dX4_orders_21 : decode cX4_orders 21 = .ok (.lreturn, 1) := by decide +kernel
theorem dX4_orders_22 : decode cX4_orders 22 = .ok (.aload_n 0, 1) := by decide +kernel
theorem dX4_orders_23 : decode cX4_orders 23 = .ok (.getfield 12, 3) := by decide +kernel
theorem dX4_orders_26 : decode cX4_orders 26 = .ok (.getfield 122, 3) := by decide +kernel
theorem dX4_orders_29 : decode cX4_orders 29 = .ok (.iload_n 2, 1) := by decide +kernel
theorem dX4_orders_30 : decode cX4_orders 30 = .ok (.baload, 1) := by decide +kernel
theorem dX4_orders_31 : decode cX4_orders 31 = .ok (.ifCond .ne 11, 3) := by decide +kernel
theorem dX4_orders_34 : decode cX4_orders 34 = .ok (.aload_n 0, 1) := by decide +kernel
theorem dX4_orders_35 : decode cX4_orders 35 = .ok (.ldc 140, 2) := by decide +kernel
theorem dX4_orders_37 : decode cX4_orders 37 = .ok (.invokevirtual 55, 3) := by decide +kernel
theorem dX4_orders_40 : decode cX4_orders 40 = .ok (.i2l, 1) := by decide +kernel
theorem dX4_orders_41 : decode cX4_orders 41 = .ok (.lreturn, 1) := by decide +kernel
theorem dX4_orders_42 : decode cX4_orders 42 = .ok (.aload_n 0, 1) := by decide +kernel
theorem dX4_orders_43 : decode cX4_orders 43 = .ok (.iload_n 1, 1) := by decide +kernel
theorem dX4_orders_44 : decode cX4_orders 44 = .ok (.bipush 60, 2) := by decide +kernel
theorem dX4_orders_46 : decode cX4_orders 46 = .ok (.invokevirtual 182, 3) := by decide +kernel
theorem dX4_orders_49 : decode cX4_orders 49 = .ok (.lconst 0, 1) := by decide +kernel
theorem dX4_orders_50 : decode cX4_orders 50 = .ok (.lstore_n 3, 1) := by decide +kernel
theorem dX4_orders_51 : decode cX4_orders 51 = .ok (.iconst 0, 1) := by decide +kernel
theorem dX4_orders_52 : decode cX4_orders 52 = .ok (.istore 5, 2) := by decide +kernel
theorem dX4_orders_54 : decode cX4_orders 54 = .ok (.iload 5, 2) := by decide +kernel
theorem dX4_orders_56 : decode cX4_orders 56 = .ok (.bipush 32, 2) := by decide +kernel
theorem dX4_orders_58 : decode cX4_orders 58 = .ok (.if_icmp .ge 27, 3) := by decide +kernel
theorem dX4_orders_61 : decode cX4_orders 61 = .ok (.aload_n 0, 1) := by decide +kernel
theorem dX4_orders_62 : decode cX4_orders 62 = .ok (.iload_n 1, 1) := by decide +kernel
theorem dX4_orders_63 : decode cX4_orders 63 = .ok (.iload 5, 2) := by decide +kernel
theorem dX4_orders_65 : decode cX4_orders 65 = .ok (.invokevirtual 186, 3) := by decide +kernel
theorem dX4_orders_68 : decode cX4_orders 68 = .ok (.iload_n 2, 1) := by decide +kernel
theorem dX4_orders_69 : decode cX4_orders 69 = .ok (.if_icmp .ne 10, 3) := by decide +kernel
theorem dX4_orders_72 : decode cX4_orders 72 = .ok (.lload_n 3, 1) := by decide +kernel
theorem dX4_orders_73 : decode cX4_orders 73 = .ok (.lconst 1, 1) := by decide +kernel
theorem dX4_orders_74 : decode cX4_orders 74 = .ok (.iload 5, 2) := by decide +kernel
theorem dX4_orders_76 : decode cX4_orders 76 = .ok (.lshl, 1) := by decide +kernel
theorem dX4_orders_77 : decode cX4_orders 77 = .ok (.lor, 1) := by decide +kernel
theorem dX4_orders_78 : decode cX4_orders 78 = .ok (.lstore_n 3, 1) := by decide +kernel
theorem dX4_orders_79 : decode cX4_orders 79 = .ok (.iinc 5 1, 3) := by decide +kernel
theorem dX4_orders_82 : decode cX4_orders 82 = .ok (.goto (-28), 3) := by decide +kernel
theorem dX4_orders_85 : decode cX4_orders 85 = .ok (.lload_n 3, 1) := by decide +kernel
theorem dX4_orders_86 : decode cX4_orders 86 = .ok (.lreturn, 1) := by decide +kernel
theorem dX4_surest_0 : decode cX4_surest 0 = .ok (.iload_n 1, 1) := by decide +kernel
theorem dX4_surest_1 : decode cX4_surest 1 = .ok (.invokestatic 92, 3) := by decide +kernel
theorem dX4_surest_4 : decode cX4_surest 4 = .ok (.ifCond .ne 10, 3) := by decide +kernel
theorem dX4_surest_7 : decode cX4_surest 7 = .ok (.aload_n 0, 1) := by decide +kernel
theorem dX4_surest_8 : decode cX4_surest 8 = .ok (.ldc 54, 2) := by decide +kernel
theorem dX4_surest_10 : decode cX4_surest 10 = .ok (.invokevirtual 55, 3) := by decide +kernel
theorem dX4_surest_13 : decode cX4_surest 13 = .ok (.ireturn, 1) := by decide +kernel
theorem dX4_surest_14 : decode cX4_surest 14 = .ok (.aload_n 0, 1) := by decide +kernel
theorem dX4_surest_15 : decode cX4_surest 15 = .ok (.iload_n 1, 1) := by decide +kernel
theorem dX4_surest_16 : decode cX4_surest 16 = .ok (.invokevirtual 189, 3) := by decide +kernel
theorem dX4_surest_19 : decode cX4_surest 19 = .ok (.ireturn, 1) := by decide +kernel
theorem dX4_winds_0 : decode cX4_winds 0 = .ok (.iload_n 1, 1) := by decide +kernel
theorem dX4_winds_1 : decode cX4_winds 1 = .ok (.invokestatic 92, 3) := by decide +kernel
theorem dX4_winds_4 : decode cX4_winds 4 = .ok (.ifCond .ne 10, 3) := by decide +kernel
theorem dX4_winds_7 : decode cX4_winds 7 = .ok (.aload_n 0, 1) := by decide +kernel
theorem dX4_winds_8 : decode cX4_winds 8 = .ok (.ldc 54, 2) := by decide +kernel
theorem dX4_winds_10 : decode cX4_winds 10 = .ok (.invokevirtual 55, 3) := by decide +kernel
theorem dX4_winds_13 : decode cX4_winds 13 = .ok (.ireturn, 1) := by decide +kernel
theorem dX4_winds_14 : decode cX4_winds 14 = .ok (.aload_n 0, 1) := by decide +kernel
theorem dX4_winds_15 : decode cX4_winds 15 = .ok (.iload_n 1, 1) := by decide +kernel
theorem dX4_winds_16 : decode cX4_winds 16 = .ok (.aload_n 0, 1) := by decide +kernel
theorem dX4_winds_17 : decode cX4_winds 17 = .ok (.iload_n 1, 1) := by decide +kernel
theorem dX4_winds_18 : decode cX4_winds 18 = .ok (.invokevirtual 189, 3) := by decide +kernel
theorem dX4_winds_21 : decode cX4_winds 21 = .ok (.invokevirtual 192, 3) := by decide +kernel
theorem dX4_winds_24 : decode cX4_winds 24 = .ok (.ireturn, 1) := by decide +kernel
theorem dX4_windFor_0 : decode cX4_windFor 0 = .ok (.iload_n 1, 1) := by decide +kernel
theorem dX4_windFor_1 : decode cX4_windFor 1 = .ok (.invokestatic 92, 3) := by decide +kernel
theorem dX4_windFor_4 : decode cX4_windFor 4 = .ok (.ifCond .ne 10, 3) := by decide +kernel
theorem dX4_windFor_7 : decode cX4_windFor 7 = .ok (.aload_n 0, 1) := by decide +kernel
theorem dX4_windFor_8 : decode cX4_windFor 8 = .ok (.ldc 54, 2) := by decide +kernel
theorem dX4_windFor_10 : decode cX4_windFor 10 = .ok (.invokevirtual 55, 3) := by decide +kernel
theorem dX4_windFor_13 : decode cX4_windFor 13 = .ok (.ireturn, 1) := by decide +kernel
theorem dX4_windFor_14 : decode cX4_windFor 14 = .ok (.aload_n 0, 1) := by decide +kernel
theorem dX4_windFor_15 : decode cX4_windFor 15 = .ok (.iload_n 1, 1) := by decide +kernel
theorem dX4_windFor_16 : decode cX4_windFor 16 = .ok (.bipush 60, 2) := by decide +kernel
theorem dX4_windFor_18 : decode cX4_windFor 18 = .ok (.invokevirtual 182, 3) := by decide +kernel
theorem dX4_windFor_21 : decode cX4_windFor 21 = .ok (.iconst (-1), 1) := by decide +kernel
theorem dX4_windFor_22 : decode cX4_windFor 22 = .ok (.istore_n 2, 1) := by decide +kernel
theorem dX4_windFor_23 : decode cX4_windFor 23 = .ok (.bipush 61, 2) := by decide +kernel
theorem dX4_windFor_25 : decode cX4_windFor 25 = .ok (.istore_n 3, 1) := by decide +kernel
theorem dX4_windFor_26 : decode cX4_windFor 26 = .ok (.iconst 0, 1) := by decide +kernel
theorem dX4_windFor_27 : decode cX4_windFor 27 = .ok (.istore 4, 2) := by decide +kernel
theorem dX4_windFor_29 : decode cX4_windFor 29 = .ok (.iload 4, 2) := by decide +kernel
theorem dX4_windFor_31 : decode cX4_windFor 31 = .ok (.bipush 8, 2) := by decide +kernel
theorem dX4_windFor_33 : decode cX4_windFor 33 = .ok (.if_icmp .ge 44, 3) := by decide +kernel
theorem dX4_windFor_36 : decode cX4_windFor 36 = .ok (.aload_n 0, 1) := by decide +kernel
theorem dX4_windFor_37 : decode cX4_windFor 37 = .ok (.iload_n 1, 1) := by decide +kernel
theorem dX4_windFor_38 : decode cX4_windFor 38 = .ok (.aload_n 0, 1) := by decide +kernel
theorem dX4_windFor_39 : decode cX4_windFor 39 = .ok (.getfield 12, 3) := by decide +kernel
theorem dX4_windFor_42 : decode cX4_windFor 42 = .ok (.getfield 98, 3) := by decide +kernel
theorem dX4_windFor_45 : decode cX4_windFor 45 = .ok (.iload_n 1, 1) := by decide +kernel
theorem dX4_windFor_46 : decode cX4_windFor 46 = .ok (.iaload, 1) := by decide +kernel
theorem dX4_windFor_47 : decode cX4_windFor 47 = .ok (.iload 4, 2) := by decide +kernel
theorem dX4_windFor_49 : decode cX4_windFor 49 = .ok (.invokevirtual 179, 3) := by decide +kernel
theorem dX4_windFor_52 : decode cX4_windFor 52 = .ok (.istore 5, 2) := by decide +kernel
theorem dX4_windFor_54 : decode cX4_windFor 54 = .ok (.iload 5, 2) := by decide +kernel
theorem dX4_windFor_56 : decode cX4_windFor 56 = .ok (.ifCond .lt 15, 3) := by decide +kernel
theorem dX4_windFor_59 : decode cX4_windFor 59 = .ok (.iload 5, 2) := by decide +kernel
theorem dX4_windFor_61 : decode cX4_windFor 61 = .ok (.iload_n 3, 1) := by decide +kernel
theorem dX4_windFor_62 : decode cX4_windFor 62 = .ok (.if_icmp .ge 9, 3) := by decide +kernel
theorem dX4_windFor_65 : decode cX4_windFor 65 = .ok (.iload 5, 2) := by decide +kernel
theorem dX4_windFor_67 : decode cX4_windFor 67 = .ok (.istore_n 3, 1) := by decide +kernel
theorem dX4_windFor_68 : decode cX4_windFor 68 = .ok (.iload 4, 2) := by decide +kernel
theorem dX4_windFor_70 : decode cX4_windFor 70 = .ok (.istore_n 2, 1) := by decide +kernel
theorem dX4_windFor_71 : decode cX4_windFor 71 = .ok (.iinc 4 1, 3) := by decide +kernel
theorem dX4_windFor_74 : decode cX4_windFor 74 = .ok (.goto (-45), 3) := by decide +kernel
theorem dX4_windFor_77 : decode cX4_windFor 77 = .ok (.iload_n 2, 1) := by decide +kernel
theorem dX4_windFor_78 : decode cX4_windFor 78 = .ok (.ifCond .ge 12, 3) := by decide +kernel
theorem dX4_windFor_81 : decode cX4_windFor 81 = .ok (.aload_n 0, 1) := by decide +kernel
theorem dX4_windFor_82 : decode cX4_windFor 82 = .ok (.ldc 166, 2) := by decide +kernel
theorem dX4_windFor_84 : decode cX4_windFor 84 = .ok (.invokevirtual 55, 3) := by decide +kernel
theorem dX4_windFor_87 : decode cX4_windFor 87 = .ok (.goto 4, 3) := by decide +kernel
theorem dX4_windFor_90 : decode cX4_windFor 90 = .ok (.iload_n 2, 1) := by decide +kernel
theorem dX4_windFor_91 : decode cX4_windFor 91 = .ok (.ireturn, 1) := by decide +kernel
theorem dX4_quickestOrder_0 : decode cX4_quickestOrder 0 = .ok (.aload_n 0, 1) := by decide +kernel
theorem dX4_quickestOrder_1 : decode cX4_quickestOrder 1 = .ok (.iload_n 1, 1) := by decide +kernel
theorem dX4_quickestOrder_2 : decode cX4_quickestOrder 2 = .ok (.bipush 60, 2) := by decide +kernel
theorem dX4_quickestOrder_4 : decode cX4_quickestOrder 4 = .ok (.invokevirtual 182, 3) := by decide +kernel
theorem dX4_quickestOrder_7 : decode cX4_quickestOrder 7 = .ok (.iconst (-1), 1) := by decide +kernel
theorem dX4_quickestOrder_8 : decode cX4_quickestOrder 8 = .ok (.istore_n 2, 1) := by decide +kernel
theorem dX4_quickestOrder_9 : decode cX4_quickestOrder 9 = .ok (.bipush 61, 2) := by decide +kernel
theorem dX4_quickestOrder_11 : decode cX4_quickestOrder 11 = .ok (.istore_n 3, 1) := by decide +kernel
theorem dX4_quickestOrder_12 : decode cX4_quickestOrder 12 = .ok (.iconst 0, 1) := by decide +kernel
theorem dX4_quickestOrder_13 : decode cX4_quickestOrder 13 = .ok (.istore 4, 2) := by decide +kernel
theorem dX4_quickestOrder_15 : decode cX4_quickestOrder 15 = .ok (.iload 4, 2) := by decide +kernel
theorem dX4_quickestOrder_17 : decode cX4_quickestOrder 17 = .ok (.bipush 32, 2) := by decide +kernel
theorem dX4_quickestOrder_19 : decode cX4_quickestOrder 19 = .ok (.if_icmp .ge 42, 3) := by decide +kernel
theorem dX4_quickestOrder_22 : decode cX4_quickestOrder 22 = .ok (.aload_n 0, 1) := by decide +kernel
theorem dX4_quickestOrder_23 : decode cX4_quickestOrder 23 = .ok (.iload_n 1, 1) := by decide +kernel
theorem dX4_quickestOrder_24 : decode cX4_quickestOrder 24 = .ok (.iload 4, 2) := by decide +kernel
theorem dX4_quickestOrder_26 : decode cX4_quickestOrder 26 = .ok (.aload_n 0, 1) := by decide +kernel
theorem dX4_quickestOrder_27 : decode cX4_quickestOrder 27 = .ok (.getfield 12, 3) := by decide +kernel
theorem dX4_quickestOrder_30 : decode cX4_quickestOrder 30 = .ok (.getfield 126, 3) := by decide +kernel
theorem dX4_quickestOrder_33 : decode cX4_quickestOrder 33 = .ok (.invokevirtual 179, 3) := by decide +kernel
theorem dX4_quickestOrder_36 : decode cX4_quickestOrder 36 = .ok (.istore 5, 2) := by decide +kernel
theorem dX4_quickestOrder_38 : decode cX4_quickestOrder 38 = .ok (.iload 5, 2) := by decide +kernel
theorem dX4_quickestOrder_40 : decode cX4_quickestOrder 40 = .ok (.ifCond .lt 15, 3) := by decide +kernel
theorem dX4_quickestOrder_43 : decode cX4_quickestOrder 43 = .ok (.iload 5, 2) := by decide +kernel
theorem dX4_quickestOrder_45 : decode cX4_quickestOrder 45 = .ok (.iload_n 3, 1) := by decide +kernel
theorem dX4_quickestOrder_46 : decode cX4_quickestOrder 46 = .ok (.if_icmp .ge 9, 3) := by decide +kernel
theorem dX4_quickestOrder_49 : decode cX4_quickestOrder 49 = .ok (.iload 5, 2) := by decide +kernel
theorem dX4_quickestOrder_51 : decode cX4_quickestOrder 51 = .ok (.istore_n 3, 1) := by decide +kernel
theorem dX4_quickestOrder_52 : decode cX4_quickestOrder 52 = .ok (.iload 4, 2) := by decide +kernel
theorem dX4_quickestOrder_54 : decode cX4_quickestOrder 54 = .ok (.istore_n 2, 1) := by decide +kernel
theorem dX4_quickestOrder_55 : decode cX4_quickestOrder 55 = .ok (.iinc 4 1, 3) := by decide +kernel
theorem dX4_quickestOrder_58 : decode cX4_quickestOrder 58 = .ok (.goto (-43), 3) := by decide +kernel
theorem dX4_quickestOrder_61 : decode cX4_quickestOrder 61 = .ok (.iload_n 2, 1) := by decide +kernel
theorem dX4_quickestOrder_62 : decode cX4_quickestOrder 62 = .ok (.ireturn, 1) := by decide +kernel
theorem dX4_surestOrder_0 : decode cX4_surestOrder 0 = .ok (.aload_n 0, 1) := by decide +kernel
theorem dX4_surestOrder_1 : decode cX4_surestOrder 1 = .ok (.iload_n 1, 1) := by decide +kernel
theorem dX4_surestOrder_2 : decode cX4_surestOrder 2 = .ok (.bipush 60, 2) := by decide +kernel
theorem dX4_surestOrder_4 : decode cX4_surestOrder 4 = .ok (.invokevirtual 182, 3) := by decide +kernel
theorem dX4_surestOrder_7 : decode cX4_surestOrder 7 = .ok (.iconst 0, 1) := by decide +kernel
theorem dX4_surestOrder_8 : decode cX4_surestOrder 8 = .ok (.istore_n 2, 1) := by decide +kernel
theorem dX4_surestOrder_9 : decode cX4_surestOrder 9 = .ok (.iconst (-1), 1) := by decide +kernel
theorem dX4_surestOrder_10 : decode cX4_surestOrder 10 = .ok (.istore_n 3, 1) := by decide +kernel
theorem dX4_surestOrder_11 : decode cX4_surestOrder 11 = .ok (.iconst 0, 1) := by decide +kernel
theorem dX4_surestOrder_12 : decode cX4_surestOrder 12 = .ok (.istore 4, 2) := by decide +kernel
theorem dX4_surestOrder_14 : decode cX4_surestOrder 14 = .ok (.iload 4, 2) := by decide +kernel
theorem dX4_surestOrder_16 : decode cX4_surestOrder 16 = .ok (.bipush 32, 2) := by decide +kernel
theorem dX4_surestOrder_18 : decode cX4_surestOrder 18 = .ok (.if_icmp .ge 30, 3) := by decide +kernel
theorem dX4_surestOrder_21 : decode cX4_surestOrder 21 = .ok (.aload_n 0, 1) := by decide +kernel
theorem dX4_surestOrder_22 : decode cX4_surestOrder 22 = .ok (.iload_n 1, 1) := by decide +kernel
theorem dX4_surestOrder_23 : decode cX4_surestOrder 23 = .ok (.iload 4, 2) := by decide +kernel
theorem dX4_surestOrder_25 : decode cX4_surestOrder 25 = .ok (.invokevirtual 192, 3) := by decide +kernel
theorem dX4_surestOrder_28 : decode cX4_surestOrder 28 = .ok (.istore 5, 2) := by decide +kernel
theorem dX4_surestOrder_30 : decode cX4_surestOrder 30 = .ok (.iload 5, 2) := by decide +kernel
theorem dX4_surestOrder_32 : decode cX4_surestOrder 32 = .ok (.iload_n 3, 1) := by decide +kernel
theorem dX4_surestOrder_33 : decode cX4_surestOrder 33 = .ok (.if_icmp .le 9, 3) := by decide +kernel
theorem dX4_surestOrder_36 : decode cX4_surestOrder 36 = .ok (.iload 5, 2) := by decide +kernel
theorem dX4_surestOrder_38 : decode cX4_surestOrder 38 = .ok (.istore_n 3, 1) := by decide +kernel
theorem dX4_surestOrder_39 : decode cX4_surestOrder 39 = .ok (.iload 4, 2) := by decide +kernel
theorem dX4_surestOrder_41 : decode cX4_surestOrder 41 = .ok (.istore_n 2, 1) := by decide +kernel
theorem dX4_surestOrder_42 : decode cX4_surestOrder 42 = .ok (.iinc 4 1, 3) := by decide +kernel
theorem dX4_surestOrder_45 : decode cX4_surestOrder 45 = .ok (.goto (-31), 3) := by decide +kernel
theorem dX4_surestOrder_48 : decode cX4_surestOrder 48 = .ok (.iload_n 2, 1) := by decide +kernel
theorem dX4_surestOrder_49 : decode cX4_surestOrder 49 = .ok (.ireturn, 1) := by decide +kernel
theorem dX4_windsThatLand_0 : decode cX4_windsThatLand 0 = .ok (.iconst 0, 1) := by decide +kernel
theorem dX4_windsThatLand_1 : decode cX4_windsThatLand 1 = .ok (.istore_n 3, 1) := by decide +kernel
theorem dX4_windsThatLand_2 : decode cX4_windsThatLand 2 = .ok (.iconst 0, 1) := by decide +kernel
theorem dX4_windsThatLand_3 : decode cX4_windsThatLand 3 = .ok (.istore 4, 2) := by decide +kernel
theorem dX4_windsThatLand_5 : decode cX4_windsThatLand 5 = .ok (.iload 4, 2) := by decide +kernel
theorem dX4_windsThatLand_7 : decode cX4_windsThatLand 7 = .ok (.bipush 8, 2) := by decide +kernel
theorem dX4_windsThatLand_9 : decode cX4_windsThatLand 9 = .ok (.if_icmp .ge 23, 3) := by decide +kernel
theorem dX4_windsThatLand_12 : decode cX4_windsThatLand 12 = .ok (.aload_n 0, 1) := by decide +kernel
theorem dX4_windsThatLand_13 : decode cX4_windsThatLand 13 = .ok (.iload_n 1, 1) := by decide +kernel
theorem dX4_windsThatLand_14 : decode cX4_windsThatLand 14 = .ok (.iload_n 2, 1) := by decide +kernel
theorem dX4_windsThatLand_15 : decode cX4_windsThatLand 15 = .ok (.iload 4, 2) := by decide +kernel
theorem dX4_windsThatLand_17 : decode cX4_windsThatLand 17 = .ok (.invokevirtual 179, 3) := by decide +kernel
theorem dX4_windsThatLand_20 : decode cX4_windsThatLand 20 = .ok (.ifCond .lt 6, 3) := by decide +kernel
theorem dX4_windsThatLand_23 : decode cX4_windsThatLand 23 = .ok (.iinc 3 1, 3) := by decide +kernel
theorem dX4_windsThatLand_26 : decode cX4_windsThatLand 26 = .ok (.iinc 4 1, 3) := by decide +kernel
theorem dX4_windsThatLand_29 : decode cX4_windsThatLand 29 = .ok (.goto (-24), 3) := by decide +kernel
theorem dX4_windsThatLand_32 : decode cX4_windsThatLand 32 = .ok (.iload_n 3, 1) := by decide +kernel
theorem dX4_windsThatLand_33 : decode cX4_windsThatLand 33 = .ok (.ireturn, 1) := by decide +kernel
theorem dX4_readAhead_0 : decode cX4_readAhead 0 = .ok (.iconst 0, 1) := by decide +kernel
theorem dX4_readAhead_1 : decode cX4_readAhead 1 = .ok (.istore_n 3, 1) := by decide +kernel
theorem dX4_readAhead_2 : decode cX4_readAhead 2 = .ok (.iload_n 3, 1) := by decide +kernel
theorem dX4_readAhead_3 : decode cX4_readAhead 3 = .ok (.iload_n 2, 1) := by decide +kernel
theorem dX4_readAhead_4 : decode cX4_readAhead 4 = .ok (.if_icmp .ge 41, 3) := by decide +kernel
theorem dX4_readAhead_7 : decode cX4_readAhead 7 = .ok (.iload_n 3, 1) := by decide +kernel
theorem dX4_readAhead_8 : decode cX4_readAhead 8 = .ok (.aload_n 0, 1) := by decide +kernel
theorem dX4_readAhead_9 : decode cX4_readAhead 9 = .ok (.getfield 43, 3) := by decide +kernel
theorem dX4_readAhead_12 : decode cX4_readAhead 12 = .ok (.arraylength, 1) := by decide +kernel
theorem dX4_readAhead_13 : decode cX4_readAhead 13 = .ok (.if_icmp .ge 32, 3) := by decide +kernel
theorem dX4_readAhead_16 : decode cX4_readAhead 16 = .ok (.aload_n 0, 1) := by decide +kernel
theorem dX4_readAhead_17 : decode cX4_readAhead 17 = .ok (.getfield 43, 3) := by decide +kernel
theorem dX4_readAhead_20 : decode cX4_readAhead 20 = .ok (.iload_n 3, 1) := by decide +kernel
theorem dX4_readAhead_21 : decode cX4_readAhead 21 = .ok (.aload_n 0, 1) := by decide +kernel
theorem dX4_readAhead_22 : decode cX4_readAhead 22 = .ok (.getfield 12, 3) := by decide +kernel
theorem dX4_readAhead_25 : decode cX4_readAhead 25 = .ok (.aload_n 0, 1) := by decide +kernel
theorem dX4_readAhead_26 : decode cX4_readAhead 26 = .ok (.getfield 12, 3) := by decide +kernel
theorem dX4_readAhead_29 : decode cX4_readAhead 29 = .ok (.getfield 101, 3) := by decide +kernel
theorem dX4_readAhead_32 : decode cX4_readAhead 32 = .ok (.iload_n 1, 1) := by decide +kernel
theorem dX4_readAhead_33 : decode cX4_readAhead 33 = .ok (.iaload, 1) := by decide +kernel
theorem dX4_readAhead_34 : decode cX4_readAhead 34 = .ok (.iload_n 3, 1) := by decide +kernel
theorem dX4_readAhead_35 : decode cX4_readAhead 35 = .ok (.invokevirtual 104, 3) := by decide +kernel
theorem dX4_readAhead_38 : decode cX4_readAhead 38 = .ok (.iastore, 1) := by decide +kernel
theorem dX4_readAhead_39 : decode cX4_readAhead 39 = .ok (.iinc 3 1, 3) := by decide +kernel
theorem dX4_readAhead_42 : decode cX4_readAhead 42 = .ok (.goto (-40), 3) := by decide +kernel
theorem dX4_readAhead_45 : decode cX4_readAhead 45 = .ok (.return_, 1) := by decide +kernel
theorem dX4_landsBehind_0 : decode cX4_landsBehind 0 = .ok (.aload_n 0, 1) := by decide +kernel
theorem dX4_landsBehind_1 : decode cX4_landsBehind 1 = .ok (.getfield 12, 3) := by decide +kernel
theorem dX4_landsBehind_4 : decode cX4_landsBehind 4 = .ok (.getfield 95, 3) := by decide +kernel
theorem dX4_landsBehind_7 : decode cX4_landsBehind 7 = .ok (.iload_n 1, 1) := by decide +kernel
theorem dX4_landsBehind_8 : decode cX4_landsBehind 8 = .ok (.iaload, 1) := by decide +kernel
theorem dX4_landsBehind_9 : decode cX4_landsBehind 9 = .ok (.istore 4, 2) := by decide +kernel
theorem dX4_landsBehind_11 : decode cX4_landsBehind 11 = .ok (.iconst 0, 1) := by decide +kernel
theorem dX4_landsBehind_12 : decode cX4_landsBehind 12 = .ok (.istore 5, 2) := by decide +kernel
theorem dX4_landsBehind_14 : decode cX4_landsBehind 14 = .ok (.iload 5, 2) := by decide +kernel
theorem dX4_landsBehind_16 : decode cX4_landsBehind 16 = .ok (.bipush 60, 2) := by decide +kernel
theorem dX4_landsBehind_18 : decode cX4_landsBehind 18 = .ok (.if_icmp .ge 48, 3) := by decide +kernel
theorem dX4_landsBehind_21 : decode cX4_landsBehind 21 = .ok (.aload_n 0, 1) := by decide +kernel
theorem dX4_landsBehind_22 : decode cX4_landsBehind 22 = .ok (.getfield 12, 3) := by decide +kernel
theorem dX4_landsBehind_25 : decode cX4_landsBehind 25 = .ok (.getfield 122, 3) := by decide +kernel
theorem dX4_landsBehind_28 : decode cX4_landsBehind 28 = .ok (.iload 4, 2) := by decide +kernel
theorem dX4_landsBehind_30 : decode cX4_landsBehind 30 = .ok (.baload, 1) := by decide +kernel
theorem dX4_landsBehind_31 : decode cX4_landsBehind 31 = .ok (.ifCond .eq 6, 3) := by decide +kernel
theorem dX4_landsBehind_34 : decode cX4_landsBehind 34 = .ok (.iload 5, 2) := by decide +kernel
theorem dX4_landsBehind_36 : decode cX4_landsBehind 36 = .ok (.ireturn, 1) := by decide +kernel
theorem dX4_landsBehind_37 : decode cX4_landsBehind 37 = .ok (.aload_n 0, 1) := by decide +kernel
theorem dX4_landsBehind_38 : decode cX4_landsBehind 38 = .ok (.getfield 12, 3) := by decide +kernel
theorem dX4_landsBehind_41 : decode cX4_landsBehind 41 = .ok (.iload 4, 2) := by decide +kernel
theorem dX4_landsBehind_43 : decode cX4_landsBehind 43 = .ok (.iload_n 2, 1) := by decide +kernel
theorem dX4_landsBehind_44 : decode cX4_landsBehind 44 = .ok (.aload_n 0, 1) := by decide +kernel
theorem dX4_landsBehind_45 : decode cX4_landsBehind 45 = .ok (.getfield 43, 3) := by decide +kernel
theorem dX4_landsBehind_48 : decode cX4_landsBehind 48 = .ok (.iload 5, 2) := by decide +kernel
theorem dX4_landsBehind_50 : decode cX4_landsBehind 50 = .ok (.iaload, 1) := by decide +kernel
theorem dX4_landsBehind_51 : decode cX4_landsBehind 51 = .ok (.invokestatic 107, 3) := by decide +kernel
theorem dX4_landsBehind_54 : decode cX4_landsBehind 54 = .ok (.iload_n 3, 1) := by decide +kernel
theorem dX4_landsBehind_55 : decode cX4_landsBehind 55 = .ok (.invokevirtual 195, 3) := by decide +kernel
theorem dX4_landsBehind_58 : decode cX4_landsBehind 58 = .ok (.istore 4, 2) := by decide +kernel
theorem dX4_landsBehind_60 : decode cX4_landsBehind 60 = .ok (.iinc 5 1, 3) := by decide +kernel
theorem dX4_landsBehind_63 : decode cX4_landsBehind 63 = .ok (.goto (-49), 3) := by decide +kernel
theorem dX4_landsBehind_66 : decode cX4_landsBehind 66 = .ok (.aload_n 0, 1) := by decide +kernel
theorem dX4_landsBehind_67 : decode cX4_landsBehind 67 = .ok (.getfield 12, 3) := by decide +kernel
theorem dX4_landsBehind_70 : decode cX4_landsBehind 70 = .ok (.getfield 122, 3) := by decide +kernel
theorem dX4_landsBehind_73 : decode cX4_landsBehind 73 = .ok (.iload 4, 2) := by decide +kernel
theorem dX4_landsBehind_75 : decode cX4_landsBehind 75 = .ok (.baload, 1) := by decide +kernel
theorem dX4_landsBehind_76 : decode cX4_landsBehind 76 = .ok (.ifCond .eq 8, 3) := by decide +kernel
theorem dX4_landsBehind_79 : decode cX4_landsBehind 79 = .ok (.bipush 60, 2) := by decide +kernel
theorem dX4_landsBehind_81 : decode cX4_landsBehind 81 = .ok (.goto 4, 3) := by decide +kernel
theorem dX4_landsBehind_84 : decode cX4_landsBehind 84 = .ok (.iconst (-1), 1) := by decide +kernel
theorem dX4_landsBehind_85 : decode cX4_landsBehind 85 = .ok (.ireturn, 1) := by decide +kernel
theorem dX4_endsAt_0 : decode cX4_endsAt 0 = .ok (.aload_n 0, 1) := by decide +kernel
theorem dX4_endsAt_1 : decode cX4_endsAt 1 = .ok (.getfield 12, 3) := by decide +kernel
theorem dX4_endsAt_4 : decode cX4_endsAt 4 = .ok (.getfield 95, 3) := by decide +kernel
theorem dX4_endsAt_7 : decode cX4_endsAt 7 = .ok (.iload_n 1, 1) := by decide +kernel
theorem dX4_endsAt_8 : decode cX4_endsAt 8 = .ok (.iaload, 1) := by decide +kernel
theorem dX4_endsAt_9 : decode cX4_endsAt 9 = .ok (.istore_n 3, 1) := by decide +kernel
theorem dX4_endsAt_10 : decode cX4_endsAt 10 = .ok (.iconst 0, 1) := by decide +kernel
theorem dX4_endsAt_11 : decode cX4_endsAt 11 = .ok (.istore 4, 2) := by decide +kernel
theorem dX4_endsAt_13 : decode cX4_endsAt 13 = .ok (.iload 4, 2) := by decide +kernel
theorem dX4_endsAt_15 : decode cX4_endsAt 15 = .ok (.bipush 60, 2) := by decide +kernel
theorem dX4_endsAt_17 : decode cX4_endsAt 17 = .ok (.if_icmp .ge 36, 3) := by decide +kernel
theorem dX4_endsAt_20 : decode cX4_endsAt 20 = .ok (.aload_n 0, 1) := by decide +kernel
theorem dX4_endsAt_21 : decode cX4_endsAt 21 = .ok (.getfield 12, 3) := by decide +kernel
theorem dX4_endsAt_24 : decode cX4_endsAt 24 = .ok (.iload_n 3, 1) := by decide +kernel
theorem dX4_endsAt_25 : decode cX4_endsAt 25 = .ok (.iload_n 2, 1) := by decide +kernel
theorem dX4_endsAt_26 : decode cX4_endsAt 26 = .ok (.aload_n 0, 1) := by decide +kernel
theorem dX4_endsAt_27 : decode cX4_endsAt 27 = .ok (.getfield 43, 3) := by decide +kernel
theorem dX4_endsAt_30 : decode cX4_endsAt 30 = .ok (.iload 4, 2) := by decide +kernel
theorem dX4_endsAt_32 : decode cX4_endsAt 32 = .ok (.iaload, 1) := by decide +kernel
theorem dX4_endsAt_33 : decode cX4_endsAt 33 = .ok (.invokestatic 107, 3) := by decide +kernel
theorem dX4_endsAt_36 : decode cX4_endsAt 36 = .ok (.aload_n 0, 1) := by decide +kernel
theorem dX4_endsAt_37 : decode cX4_endsAt 37 = .ok (.getfield 12, 3) := by decide +kernel
theorem dX4_endsAt_40 : decode cX4_endsAt 40 = .ok (.getfield 126, 3) := by decide +kernel
theorem dX4_endsAt_43 : decode cX4_endsAt 43 = .ok (.invokevirtual 195, 3) := by decide +kernel
theorem dX4_endsAt_46 : decode cX4_endsAt 46 = .ok (.istore_n 3, 1) := by decide +kernel
theorem dX4_endsAt_47 : decode cX4_endsAt 47 = .ok (.iinc 4 1, 3) := by decide +kernel
theorem dX4_endsAt_50 : decode cX4_endsAt 50 = .ok (.goto (-37), 3) := by decide +kernel
theorem dX4_endsAt_53 : decode cX4_endsAt 53 = .ok (.iload_n 3, 1) := by decide +kernel
theorem dX4_endsAt_54 : decode cX4_endsAt 54 = .ok (.ireturn, 1) := by decide +kernel
theorem dX4_crew_0 : decode cX4_crew 0 = .ok (.iload_n 1, 1) := by decide +kernel
theorem dX4_crew_1 : decode cX4_crew 1 = .ok (.iconst 1, 1) := by decide +kernel
theorem dX4_crew_2 : decode cX4_crew 2 = .ok (.bipush 8, 2) := by decide +kernel
theorem dX4_crew_4 : decode cX4_crew 4 = .ok (.invokestatic 88, 3) := by decide +kernel
theorem dX4_crew_7 : decode cX4_crew 7 = .ok (.ifCond .ne 10, 3) := by decide +kernel
theorem dX4_crew_10 : decode cX4_crew 10 = .ok (.aload_n 0, 1) := by decide +kernel
theorem dX4_crew_11 : decode cX4_crew 11 = .ok (.ldc 54, 2) := by decide +kernel
theorem dX4_crew_13 : decode cX4_crew 13 = .ok (.invokevirtual 55, 3) := by decide +kernel
theorem dX4_crew_16 : decode cX4_crew 16 = .ok (.ireturn, 1) := by decide +kernel
theorem dX4_crew_17 : decode cX4_crew 17 = .ok (.aload_n 0, 1) := by decide +kernel
theorem dX4_crew_18 : decode cX4_crew 18 = .ok (.getfield 12, 3) := by decide +kernel
theorem dX4_crew_21 : decode cX4_crew 21 = .ok (.getfield 59, 3) := by decide +kernel
theorem dX4_crew_24 : decode cX4_crew 24 = .ok (.iload_n 1, 1) := by decide +kernel
theorem dX4_crew_25 : decode cX4_crew 25 = .ok (.if_icmp .ge 10, 3) := by decide +kernel
theorem dX4_crew_28 : decode cX4_crew 28 = .ok (.aload_n 0, 1) := by decide +kernel
theorem dX4_crew_29 : decode cX4_crew 29 = .ok (.ldc 166, 2) := by decide +kernel
theorem dX4_crew_31 : decode cX4_crew 31 = .ok (.invokevirtual 55, 3) := by decide +kernel
theorem dX4_crew_34 : decode cX4_crew 34 = .ok (.ireturn, 1) := by decide +kernel
theorem dX4_crew_35 : decode cX4_crew 35 = .ok (.aload_n 0, 1) := by decide +kernel
theorem dX4_crew_36 : decode cX4_crew 36 = .ok (.iload_n 1, 1) := by decide +kernel
theorem dX4_crew_37 : decode cX4_crew 37 = .ok (.invokevirtual 198, 3) := by decide +kernel
theorem dX4_crew_40 : decode cX4_crew 40 = .ok (.ireturn, 1) := by decide +kernel
theorem dX4_mean_0 : decode cX4_mean 0 = .ok (.iload_n 1, 1) := by decide +kernel
theorem dX4_mean_1 : decode cX4_mean 1 = .ok (.iconst 1, 1) := by decide +kernel
theorem dX4_mean_2 : decode cX4_mean 2 = .ok (.bipush 8, 2) := by decide +kernel
theorem dX4_mean_4 : decode cX4_mean 4 = .ok (.invokestatic 88, 3) := by decide +kernel
theorem dX4_mean_7 : decode cX4_mean 7 = .ok (.ifCond .ne 10, 3) := by decide +kernel
theorem dX4_mean_10 : decode cX4_mean 10 = .ok (.aload_n 0, 1) := by decide +kernel
theorem dX4_mean_11 : decode cX4_mean 11 = .ok (.ldc 54, 2) := by decide +kernel
theorem dX4_mean_13 : decode cX4_mean 13 = .ok (.invokevirtual 55, 3) := by decide +kernel
theorem dX4_mean_16 : decode cX4_mean 16 = .ok (.ireturn, 1) := by decide +kernel
theorem dX4_mean_17 : decode cX4_mean 17 = .ok (.aload_n 0, 1) := by decide +kernel
theorem dX4_mean_18 : decode cX4_mean 18 = .ok (.getfield 12, 3) := by decide +kernel
theorem dX4_mean_21 : decode cX4_mean 21 = .ok (.getfield 59, 3) := by decide +kernel
theorem dX4_mean_24 : decode cX4_mean 24 = .ok (.iload_n 1, 1) := by decide +kernel
theorem dX4_mean_25 : decode cX4_mean 25 = .ok (.if_icmp .ge 10, 3) := by decide +kernel
theorem dX4_mean_28 : decode cX4_mean 28 = .ok (.aload_n 0, 1) := by decide +kernel
theorem dX4_mean_29 : decode cX4_mean 29 = .ok (.ldc 166, 2) := by decide +kernel
theorem dX4_mean_31 : decode cX4_mean 31 = .ok (.invokevirtual 55, 3) := by decide +kernel
theorem dX4_mean_34 : decode cX4_mean 34 = .ok (.ireturn, 1) := by decide +kernel
theorem dX4_mean_35 : decode cX4_mean 35 = .ok (.aload_n 0, 1) := by decide +kernel
theorem dX4_mean_36 : decode cX4_mean 36 = .ok (.getfield 12, 3) := by decide +kernel
theorem dX4_mean_39 : decode cX4_mean 39 = .ok (.aload_n 0, 1) := by decide +kernel
theorem dX4_mean_40 : decode cX4_mean 40 = .ok (.iload_n 1, 1) := by decide +kernel
theorem dX4_mean_41 : decode cX4_mean 41 = .ok (.invokevirtual 198, 3) := by decide +kernel
theorem dX4_mean_44 : decode cX4_mean 44 = .ok (.iconst 0, 1) := by decide +kernel
theorem dX4_mean_45 : decode cX4_mean 45 = .ok (.invokevirtual 104, 3) := by decide +kernel
theorem dX4_mean_48 : decode cX4_mean 48 = .ok (.ireturn, 1) := by decide +kernel
theorem dX4_bestCrew_0 : decode cX4_bestCrew 0 = .ok (.iconst 0, 1) := by decide +kernel
theorem dX4_bestCrew_1 : decode cX4_bestCrew 1 = .ok (.istore_n 2, 1) := by decide +kernel
theorem dX4_bestCrew_2 : decode cX4_bestCrew 2 = .ok (.iconst (-1), 1) := by decide +kernel
theorem dX4_bestCrew_3 : decode cX4_bestCrew 3 = .ok (.istore_n 3, 1) := by decide +kernel
theorem dX4_bestCrew_4 : decode cX4_bestCrew 4 = .ok (.iconst 1, 1) := by decide +kernel
theorem dX4_bestCrew_5 : decode cX4_bestCrew 5 = .ok (.istore 4, 2) := by decide +kernel
theorem dX4_bestCrew_7 : decode cX4_bestCrew 7 = .ok (.iload 4, 2) := by decide +kernel
theorem dX4_bestCrew_9 : decode cX4_bestCrew 9 = .ok (.iconst 1, 1) := by decide +kernel
theorem dX4_bestCrew_10 : decode cX4_bestCrew 10 = .ok (.aload_n 0, 1) := by decide +kernel
theorem dX4_bestCrew_11 : decode cX4_bestCrew 11 = .ok (.getfield 12, 3) := by decide +kernel
theorem dX4_bestCrew_14 : decode cX4_bestCrew 14 = .ok (.getfield 59, 3) := by decide +kernel
theorem dX4_bestCrew_17 : decode cX4_bestCrew 17 = .ok (.ishl, 1) := by decide +kernel
theorem dX4_bestCrew_18 : decode cX4_bestCrew 18 = .ok (.if_icmp .ge 49, 3) := by decide +kernel
theorem dX4_bestCrew_21 : decode cX4_bestCrew 21 = .ok (.iload 4, 2) := by decide +kernel
theorem dX4_bestCrew_23 : decode cX4_bestCrew 23 = .ok (.invokestatic 148, 3) := by decide +kernel
theorem dX4_bestCrew_26 : decode cX4_bestCrew 26 = .ok (.iload_n 1, 1) := by decide +kernel
theorem dX4_bestCrew_27 : decode cX4_bestCrew 27 = .ok (.if_icmp .ne 34, 3) := by decide +kernel
theorem dX4_bestCrew_30 : decode cX4_bestCrew 30 = .ok (.aload_n 0, 1) := by decide +kernel
theorem dX4_bestCrew_31 : decode cX4_bestCrew 31 = .ok (.getfield 12, 3) := by decide +kernel
theorem dX4_bestCrew_34 : decode cX4_bestCrew 34 = .ok (.iload 4, 2) := by decide +kernel
theorem dX4_bestCrew_36 : decode cX4_bestCrew 36 = .ok (.iconst 0, 1) := by decide +kernel
theorem dX4_bestCrew_37 : decode cX4_bestCrew 37 = .ok (.invokevirtual 104, 3) := by decide +kernel
theorem dX4_bestCrew_40 : decode cX4_bestCrew 40 = .ok (.invokestatic 201, 3) := by decide +kernel
theorem dX4_bestCrew_43 : decode cX4_bestCrew 43 = .ok (.istore 5, 2) := by decide +kernel
theorem dX4_bestCrew_45 : decode cX4_bestCrew 45 = .ok (.iload_n 3, 1) := by decide +kernel
theorem dX4_bestCrew_46 : decode cX4_bestCrew 46 = .ok (.ifCond .lt 9, 3) := by decide +kernel
theorem dX4_bestCrew_49 : decode cX4_bestCrew 49 = .ok (.iload 5, 2) := by decide +kernel
theorem dX4_bestCrew_51 : decode cX4_bestCrew 51 = .ok (.iload_n 3, 1) := by decide +kernel
theorem dX4_bestCrew_52 : decode cX4_bestCrew 52 = .ok (.if_icmp .ge 9, 3) := by decide +kernel
theorem dX4_bestCrew_55 : decode cX4_bestCrew 55 = .ok (.iload 5, 2) := by decide +kernel
theorem dX4_bestCrew_57 : decode cX4_bestCrew 57 = .ok (.istore_n 3, 1) := by decide +kernel
theorem dX4_bestCrew_58 : decode cX4_bestCrew 58 = .ok (.iload 4, 2) := by decide +kernel
theorem dX4_bestCrew_60 : decode cX4_bestCrew 60 = .ok (.istore_n 2, 1) := by decide +kernel
theorem dX4_bestCrew_61 : decode cX4_bestCrew 61 = .ok (.iinc 4 1, 3) := by decide +kernel
theorem dX4_bestCrew_64 : decode cX4_bestCrew 64 = .ok (.goto (-57), 3) := by decide +kernel
theorem dX4_bestCrew_67 : decode cX4_bestCrew 67 = .ok (.iload_n 2, 1) := by decide +kernel
theorem dX4_bestCrew_68 : decode cX4_bestCrew 68 = .ok (.ireturn, 1) := by decide +kernel
theorem dX4_better_0 : decode cX4_better 0 = .ok (.iload_n 1, 1) := by decide +kernel
theorem dX4_better_1 : decode cX4_better 1 = .ok (.invokestatic 92, 3) := by decide +kernel
theorem dX4_better_4 : decode cX4_better 4 = .ok (.ifCond .ne 10, 3) := by decide +kernel
theorem dX4_better_7 : decode cX4_better 7 = .ok (.aload_n 0, 1) := by decide +kernel
theorem dX4_better_8 : decode cX4_better 8 = .ok (.ldc 54, 2) := by decide +kernel
theorem dX4_better_10 : decode cX4_better 10 = .ok (.invokevirtual 55, 3) := by decide +kernel
theorem dX4_better_13 : decode cX4_better 13 = .ok (.ireturn, 1) := by decide +kernel
theorem dX4_better_14 : decode cX4_better 14 = .ok (.aload_n 0, 1) := by decide +kernel
theorem dX4_better_15 : decode cX4_better 15 = .ok (.getfield 12, 3) := by decide +kernel
theorem dX4_better_18 : decode cX4_better 18 = .ok (.getfield 59, 3) := by decide +kernel
theorem dX4_better_21 : decode cX4_better 21 = .ok (.ifCond .ne 10, 3) := by decide +kernel
theorem dX4_better_24 : decode cX4_better 24 = .ok (.aload_n 0, 1) := by decide +kernel
theorem dX4_better_25 : decode cX4_better 25 = .ok (.ldc 166, 2) := by decide +kernel
theorem dX4_better_27 : decode cX4_better 27 = .ok (.invokevirtual 55, 3) := by decide +kernel
theorem dX4_better_30 : decode cX4_better 30 = .ok (.ireturn, 1) := by decide +kernel
theorem dX4_better_31 : decode cX4_better 31 = .ok (.iconst 0, 1) := by decide +kernel
theorem dX4_better_32 : decode cX4_better 32 = .ok (.istore_n 2, 1) := by decide +kernel
theorem dX4_better_33 : decode cX4_better 33 = .ok (.iconst (-1), 1) := by decide +kernel
theorem dX4_better_34 : decode cX4_better 34 = .ok (.istore_n 3, 1) := by decide +kernel
theorem dX4_better_35 : decode cX4_better 35 = .ok (.iconst 0, 1) := by decide +kernel
theorem dX4_better_36 : decode cX4_better 36 = .ok (.istore 4, 2) := by decide +kernel
theorem dX4_better_38 : decode cX4_better 38 = .ok (.iload 4, 2) := by decide +kernel
theorem dX4_better_40 : decode cX4_better 40 = .ok (.aload_n 0, 1) := by decide +kernel
theorem dX4_better_41 : decode cX4_better 41 = .ok (.getfield 12, 3) := by decide +kernel
theorem dX4_better_44 : decode cX4_better 44 = .ok (.getfield 59, 3) := by decide +kernel
theorem dX4_better_47 : decode cX4_better 47 = .ok (.if_icmp .ge 52, 3) := by decide +kernel
theorem dX4_better_50 : decode cX4_better 50 = .ok (.aload_n 0, 1) := by decide +kernel
theorem dX4_better_51 : decode cX4_better 51 = .ok (.getfield 12, 3) := by decide +kernel
theorem dX4_better_54 : decode cX4_better 54 = .ok (.aload_n 0, 1) := by decide +kernel
theorem dX4_better_55 : decode cX4_better 55 = .ok (.getfield 12, 3) := by decide +kernel
theorem dX4_better_58 : decode cX4_better 58 = .ok (.getfield 101, 3) := by decide +kernel
theorem dX4_better_61 : decode cX4_better 61 = .ok (.iload_n 1, 1) := by decide +kernel
theorem dX4_better_62 : decode cX4_better 62 = .ok (.iaload, 1) := by decide +kernel
theorem dX4_better_63 : decode cX4_better 63 = .ok (.iconst 1, 1) := by decide +kernel
theorem dX4_better_64 : decode cX4_better 64 = .ok (.iload 4, 2) := by decide +kernel
theorem dX4_better_66 : decode cX4_better 66 = .ok (.ishl, 1) := by decide +kernel
theorem dX4_better_67 : decode cX4_better 67 = .ok (.ixor, 1) := by decide +kernel
theorem dX4_better_68 : decode cX4_better 68 = .ok (.iconst 0, 1) := by decide +kernel
theorem dX4_better_69 : decode cX4_better 69 = .ok (.invokevirtual 104, 3) := by decide +kernel
theorem dX4_better_72 : decode cX4_better 72 = .ok (.invokestatic 201, 3) := by decide +kernel
theorem dX4_better_75 : decode cX4_better 75 = .ok (.istore 5, 2) := by decide +kernel
theorem dX4_better_77 : decode cX4_better 77 = .ok (.iload_n 3, 1) := by decide +kernel
theorem dX4_better_78 : decode cX4_better 78 = .ok (.ifCond .lt 9, 3) := by decide +kernel
theorem dX4_better_81 : decode cX4_better 81 = .ok (.iload 5, 2) := by decide +kernel
theorem dX4_better_83 : decode cX4_better 83 = .ok (.iload_n 3, 1) := by decide +kernel
theorem dX4_better_84 : decode cX4_better 84 = .ok (.if_icmp .ge 9, 3) := by decide +kernel
theorem dX4_better_87 : decode cX4_better 87 = .ok (.iload 5, 2) := by decide +kernel
theorem dX4_better_89 : decode cX4_better 89 = .ok (.istore_n 3, 1) := by decide +kernel
theorem dX4_better_90 : decode cX4_better 90 = .ok (.iload 4, 2) := by decide +kernel
theorem dX4_better_92 : decode cX4_better 92 = .ok (.istore_n 2, 1) := by decide +kernel
theorem dX4_better_93 : decode cX4_better 93 = .ok (.iinc 4 1, 3) := by decide +kernel
theorem dX4_better_96 : decode cX4_better 96 = .ok (.goto (-58), 3) := by decide +kernel
theorem dX4_better_99 : decode cX4_better 99 = .ok (.iload_n 2, 1) := by decide +kernel
theorem dX4_better_100 : decode cX4_better 100 = .ok (.ireturn, 1) := by decide +kernel
theorem dX4_spy_0 : decode cX4_spy 0 = .ok (.iload_n 1, 1) := by decide +kernel
theorem dX4_spy_1 : decode cX4_spy 1 = .ok (.invokestatic 92, 3) := by decide +kernel
theorem dX4_spy_4 : decode cX4_spy 4 = .ok (.ifCond .eq 21, 3) := by decide +kernel
theorem dX4_spy_7 : decode cX4_spy 7 = .ok (.aload_n 0, 1) := by decide +kernel
theorem dX4_spy_8 : decode cX4_spy 8 = .ok (.iload_n 2, 1) := by decide +kernel
theorem dX4_spy_9 : decode cX4_spy 9 = .ok (.invokevirtual 68, 3) := by decide +kernel
theorem dX4_spy_12 : decode cX4_spy 12 = .ok (.ifCond .eq 13, 3) := by decide +kernel
theorem dX4_spy_15 : decode cX4_spy 15 = .ok (.iload_n 3, 1) := by decide +kernel
theorem dX4_spy_16 : decode cX4_spy 16 = .ok (.iconst 0, 1) := by decide +kernel
theorem dX4_spy_17 : decode cX4_spy 17 = .ok (.bipush 40, 2) := by decide +kernel
theorem dX4_spy_19 : decode cX4_spy 19 = .ok (.invokestatic 88, 3) := by decide +kernel
theorem dX4_spy_22 : decode cX4_spy 22 = .ok (.ifCond .ne 10, 3) := by decide +kernel
theorem dX4_spy_25 : decode cX4_spy 25 = .ok (.aload_n 0, 1) := by decide +kernel
theorem dX4_spy_26 : decode cX4_spy 26 = .ok (.ldc 54, 2) := by decide +kernel
theorem dX4_spy_28 : decode cX4_spy 28 = .ok (.invokevirtual 55, 3) := by decide +kernel
theorem dX4_spy_31 : decode cX4_spy 31 = .ok (.ireturn, 1) := by decide +kernel
theorem dX4_spy_32 : decode cX4_spy 32 = .ok (.aload_n 0, 1) := by decide +kernel
theorem dX4_spy_33 : decode cX4_spy 33 = .ok (.getfield 12, 3) := by decide +kernel
theorem dX4_spy_36 : decode cX4_spy 36 = .ok (.getfield 101, 3) := by decide +kernel
theorem dX4_spy_39 : decode cX4_spy 39 = .ok (.iload_n 1, 1) := by decide +kernel
theorem dX4_spy_40 : decode cX4_spy 40 = .ok (.iaload, 1) := by decide +kernel
theorem dX4_spy_41 : decode cX4_spy 41 = .ok (.iload_n 2, 1) := by decide +kernel
theorem dX4_spy_42 : decode cX4_spy 42 = .ok (.invokestatic 153, 3) := by decide +kernel
theorem dX4_spy_45 : decode cX4_spy 45 = .ok (.ifCond .ne 10, 3) := by decide +kernel
theorem dX4_spy_48 : decode cX4_spy 48 = .ok (.aload_n 0, 1) := by decide +kernel
theorem dX4_spy_49 : decode cX4_spy 49 = .ok (.ldc 140, 2) := by decide +kernel
theorem dX4_spy_51 : decode cX4_spy 51 = .ok (.invokevirtual 55, 3) := by decide +kernel
theorem dX4_spy_54 : decode cX4_spy 54 = .ok (.ireturn, 1) := by decide +kernel
theorem dX4_spy_55 : decode cX4_spy 55 = .ok (.aload_n 0, 1) := by decide +kernel
theorem dX4_spy_56 : decode cX4_spy 56 = .ok (.getfield 12, 3) := by decide +kernel
theorem dX4_spy_59 : decode cX4_spy 59 = .ok (.getfield 71, 3) := by decide +kernel
theorem dX4_spy_62 : decode cX4_spy 62 = .ok (.iload_n 2, 1) := by decide +kernel
theorem dX4_spy_63 : decode cX4_spy 63 = .ok (.iaload, 1) := by decide +kernel
theorem dX4_spy_64 : decode cX4_spy 64 = .ok (.istore 4, 2) := by decide +kernel
theorem dX4_spy_66 : decode cX4_spy 66 = .ok (.aload_n 0, 1) := by decide +kernel
theorem dX4_spy_67 : decode cX4_spy 67 = .ok (.getfield 12, 3) := by decide +kernel
theorem dX4_spy_70 : decode cX4_spy 70 = .ok (.iload_n 1, 1) := by decide +kernel
theorem dX4_spy_71 : decode cX4_spy 71 = .ok (.iload_n 3, 1) := by decide +kernel
theorem dX4_spy_72 : decode cX4_spy 72 = .ok (.invokevirtual 163, 3) := by decide +kernel
theorem dX4_spy_75 : decode cX4_spy 75 = .ok (.istore 5, 2) := by decide +kernel
theorem dX4_spy_77 : decode cX4_spy 77 = .ok (.iconst 0, 1) := by decide +kernel
theorem dX4_spy_78 : decode cX4_spy 78 = .ok (.istore 6, 2) := by decide +kernel
theorem dX4_spy_80 : decode cX4_spy 80 = .ok (.iconst (-1), 1) := by decide +kernel
theorem dX4_spy_81 : decode cX4_spy 81 = .ok (.istore 7, 2) := by decide +kernel
theorem dX4_spy_83 : decode cX4_spy 83 = .ok (.iconst 0, 1) := by decide +kernel
theorem dX4_spy_84 : decode cX4_spy 84 = .ok (.istore 8, 2) := by decide +kernel
theorem dX4_spy_86 : decode cX4_spy 86 = .ok (.iload 8, 2) := by decide +kernel
theorem dX4_spy_88 : decode cX4_spy 88 = .ok (.bipush 7, 2) := by decide +kernel
theorem dX4_spy_90 : decode cX4_spy 90 = .ok (.if_icmp .ge 51, 3) := by decide +kernel
theorem dX4_spy_93 : decode cX4_spy 93 = .ok (.aload_n 0, 1) := by decide +kernel
theorem dX4_spy_94 : decode cX4_spy 94 = .ok (.getfield 12, 3) := by decide +kernel
theorem dX4_spy_97 : decode cX4_spy 97 = .ok (.getfield 71, 3) := by decide +kernel
theorem dX4_spy_100 : decode cX4_spy 100 = .ok (.iload_n 2, 1) := by decide +kernel
theorem dX4_spy_101 : decode cX4_spy 101 = .ok (.iload 8, 2) := by decide +kernel
theorem dX4_spy_103 : decode cX4_spy 103 = .ok (.iastore, 1) := by decide +kernel
theorem dX4_spy_104 : decode cX4_spy 104 = .ok (.iload 5, 2) := by decide +kernel
theorem dX4_spy_106 : decode cX4_spy 106 = .ok (.aload_n 0, 1) := by decide +kernel
theorem dX4_spy_107 : decode cX4_spy 107 = .ok (.getfield 12, 3) := by decide +kernel
theorem dX4_spy_110 : decode cX4_spy 110 = .ok (.iload_n 1, 1) := by decide +kernel
theorem dX4_spy_111 : decode cX4_spy 111 = .ok (.iload_n 3, 1) := by decide +kernel
theorem dX4_spy_112 : decode cX4_spy 112 = .ok (.invokevirtual 163, 3) := by decide +kernel
theorem dX4_spy_115 : decode cX4_spy 115 = .ok (.invokestatic 206, 3) := by decide +kernel
theorem dX4_spy_118 : decode cX4_spy 118 = .ok (.istore 9, 2) := by decide +kernel
theorem dX4_spy_120 : decode cX4_spy 120 = .ok (.iload 9, 2) := by decide +kernel
theorem dX4_spy_122 : decode cX4_spy 122 = .ok (.iload 7, 2) := by decide +kernel
theorem dX4_spy_124 : decode cX4_spy 124 = .ok (.if_icmp .le 11, 3) := by decide +kernel
theorem dX4_spy_127 : decode cX4_spy 127 = .ok (.iload 9, 2) := by decide +kernel
theorem dX4_spy_129 : decode cX4_spy 129 = .ok (.istore 7, 2) := by decide +kernel
theorem dX4_spy_131 : decode cX4_spy 131 = .ok (.iload 8, 2) := by decide +kernel
theorem dX4_spy_133 : decode cX4_spy 133 = .ok (.istore 6, 2) := by decide +kernel
theorem dX4_spy_135 : decode cX4_spy 135 = .ok (.iinc 8 1, 3) := by decide +kernel
theorem dX4_spy_138 : decode cX4_spy 138 = .ok (.goto (-52), 3) := by decide +kernel
theorem dX4_spy_141 : decode cX4_spy 141 = .ok (.aload_n 0, 1) := by decide +kernel
theorem dX4_spy_142 : decode cX4_spy 142 = .ok (.getfield 12, 3) := by decide +kernel
theorem dX4_spy_145 : decode cX4_spy 145 = .ok (.getfield 71, 3) := by decide +kernel
theorem dX4_spy_148 : decode cX4_spy 148 = .ok (.iload_n 2, 1) := by decide +kernel
theorem dX4_spy_149 : decode cX4_spy 149 = .ok (.iload 4, 2) := by decide +kernel
theorem dX4_spy_151 : decode cX4_spy 151 = .ok (.iastore, 1) := by decide +kernel
theorem dX4_spy_152 : decode cX4_spy 152 = .ok (.iload 6, 2) := by decide +kernel
theorem dX4_spy_154 : decode cX4_spy 154 = .ok (.ireturn, 1) := by decide +kernel
theorem dX4_uses_0 : decode cX4_uses 0 = .ok (.iload_n 1, 1) := by decide +kernel
theorem dX4_uses_1 : decode cX4_uses 1 = .ok (.iconst 0, 1) := by decide +kernel
theorem dX4_uses_2 : decode cX4_uses 2 = .ok (.sipush 200, 3) := by decide +kernel
theorem dX4_uses_5 : decode cX4_uses 5 = .ok (.invokestatic 88, 3) := by decide +kernel
theorem dX4_uses_8 : decode cX4_uses 8 = .ok (.ifCond .eq 13, 3) := by decide +kernel
theorem dX4_uses_11 : decode cX4_uses 11 = .ok (.iload_n 2, 1) := by decide +kernel
theorem dX4_uses_12 : decode cX4_uses 12 = .ok (.iconst 1, 1) := by decide +kernel
theorem dX4_uses_13 : decode cX4_uses 13 = .ok (.bipush 99, 2) := by decide +kernel
theorem dX4_uses_15 : decode cX4_uses 15 = .ok (.invokestatic 88, 3) := by decide +kernel
theorem dX4_uses_18 : decode cX4_uses 18 = .ok (.ifCond .ne 10, 3) := by decide +kernel
theorem dX4_uses_21 : decode cX4_uses 21 = .ok (.aload_n 0, 1) := by decide +kernel
theorem dX4_uses_22 : decode cX4_uses 22 = .ok (.ldc 54, 2) := by decide +kernel
theorem dX4_uses_24 : decode cX4_uses 24 = .ok (.invokevirtual 55, 3) := by decide +kernel
theorem dX4_uses_27 : decode cX4_uses 27 = .ok (.ireturn, 1) := by decide +kernel
theorem dX4_uses_28 : decode cX4_uses 28 = .ok (.aload_n 0, 1) := by decide +kernel
theorem dX4_uses_29 : decode cX4_uses 29 = .ok (.getfield 12, 3) := by decide +kernel
theorem dX4_uses_32 : decode cX4_uses 32 = .ok (.iload_n 1, 1) := by decide +kernel
theorem dX4_uses_33 : decode cX4_uses 33 = .ok (.iload_n 2, 1) := by decide +kernel
theorem dX4_uses_34 : decode cX4_uses 34 = .ok (.invokevirtual 209, 3) := by decide +kernel
theorem dX4_uses_37 : decode cX4_uses 37 = .ok (.ireturn, 1) := by decide +kernel
theorem dX4_hunger_0 : decode cX4_hunger 0 = .ok (.iload_n 1, 1) := by decide +kernel
theorem dX4_hunger_1 : decode cX4_hunger 1 = .ok (.iconst 0, 1) := by decide +kernel
theorem dX4_hunger_2 : decode cX4_hunger 2 = .ok (.sipush 200, 3) := by decide +kernel
theorem dX4_hunger_5 : decode cX4_hunger 5 = .ok (.invokestatic 88, 3) := by decide +kernel
theorem dX4_hunger_8 : decode cX4_hunger 8 = .ok (.ifCond .ne 10, 3) := by decide +kernel
theorem dX4_hunger_11 : decode cX4_hunger 11 = .ok (.aload_n 0, 1) := by decide +kernel
theorem dX4_hunger_12 : decode cX4_hunger 12 = .ok (.ldc 54, 2) := by decide +kernel
theorem dX4_hunger_14 : decode cX4_hunger 14 = .ok (.invokevirtual 55, 3) := by decide +kernel
theorem dX4_hunger_17 : decode cX4_hunger 17 = .ok (.ireturn, 1) := by decide +kernel
theorem dX4_hunger_18 : decode cX4_hunger 18 = .ok (.iconst 1, 1) := by decide +kernel
theorem dX4_hunger_19 : decode cX4_hunger 19 = .ok (.istore_n 2, 1) := by decide +kernel
theorem dX4_hunger_20 : decode cX4_hunger 20 = .ok (.iload_n 2, 1) := by decide +kernel
theorem dX4_hunger_21 : decode cX4_hunger 21 = .ok (.bipush 99, 2) := by decide +kernel
theorem dX4_hunger_23 : decode cX4_hunger 23 = .ok (.if_icmp .gt 30, 3) := by decide +kernel
theorem dX4_hunger_26 : decode cX4_hunger 26 = .ok (.aload_n 0, 1) := by decide +kernel
theorem dX4_hunger_27 : decode cX4_hunger 27 = .ok (.getfield 12, 3) := by decide +kernel
theorem dX4_hunger_30 : decode cX4_hunger 30 = .ok (.iload_n 1, 1) := by decide +kernel
theorem dX4_hunger_31 : decode cX4_hunger 31 = .ok (.iload_n 2, 1) := by decide +kernel
theorem dX4_hunger_32 : decode cX4_hunger 32 = .ok (.invokevirtual 209, 3) := by decide +kernel
theorem dX4_hunger_35 : decode cX4_hunger 35 = .ok (.aload_n 0, 1) := by decide +kernel
theorem dX4_hunger_36 : decode cX4_hunger 36 = .ok (.getfield 12, 3) := by decide +kernel
theorem dX4_hunger_39 : decode cX4_hunger 39 = .ok (.getfield 133, 3) := by decide +kernel
theorem dX4_hunger_42 : decode cX4_hunger 42 = .ok (.if_icmp .gt 5, 3) := by decide +kernel
theorem dX4_hunger_45 : decode cX4_hunger 45 = .ok (.iload_n 2, 1) := by decide +kernel
theorem dX4_hunger_46 : decode cX4_hunger 46 = .ok (.ireturn, 1) := by decide +kernel
theorem dX4_hunger_47 : decode cX4_hunger 47 = .ok (.iinc 2 1, 3) := by decide +kernel
theorem dX4_hunger_50 : decode cX4_hunger 50 = .ok (.goto (-30), 3) := by decide +kernel
theorem dX4_hunger_53 : decode cX4_hunger 53 = .ok (.aload_n 0, 1) := by decide +kernel
theorem dX4_hunger_54 : decode cX4_hunger 54 = .ok (.ldc 166, 2) := by decide +kernel
theorem dX4_hunger_56 : decode cX4_hunger 56 = .ok (.invokevirtual 55, 3) := by decide +kernel
theorem dX4_hunger_59 : decode cX4_hunger 59 = .ok (.ireturn, 1) := by decide +kernel
theorem dX4_kinds_0 : decode cX4_kinds 0 = .ok (.aload_n 0, 1) := by decide +kernel
theorem dX4_kinds_1 : decode cX4_kinds 1 = .ok (.iload_n 1, 1) := by decide +kernel
theorem dX4_kinds_2 : decode cX4_kinds 2 = .ok (.aload_n 0, 1) := by decide +kernel
theorem dX4_kinds_3 : decode cX4_kinds 3 = .ok (.iload_n 2, 1) := by decide +kernel
theorem dX4_kinds_4 : decode cX4_kinds 4 = .ok (.invokevirtual 68, 3) := by decide +kernel
theorem dX4_kinds_7 : decode cX4_kinds 7 = .ok (.invokevirtual 212, 3) := by decide +kernel
theorem dX4_kinds_10 : decode cX4_kinds 10 = .ok (.istore_n 3, 1) := by decide +kernel
theorem dX4_kinds_11 : decode cX4_kinds 11 = .ok (.iload_n 3, 1) := by decide +kernel
theorem dX4_kinds_12 : decode cX4_kinds 12 = .ok (.ifCond .eq 5, 3) := by decide +kernel
theorem dX4_kinds_15 : decode cX4_kinds 15 = .ok (.iload_n 3, 1) := by decide +kernel
theorem dX4_kinds_16 : decode cX4_kinds 16 = .ok (.ireturn, 1) := by decide +kernel
theorem dX4_kinds_17 : decode cX4_kinds 17 = .ok (.iconst 0, 1) := by decide +kernel
theorem dX4_kinds_18 : decode cX4_kinds 18 = .ok (.istore 4, 2) := by decide +kernel
theorem dX4_kinds_20 : decode cX4_kinds 20 = .ok (.iconst 0, 1) := by decide +kernel
theorem dX4_kinds_21 : decode cX4_kinds 21 = .ok (.istore 5, 2) := by decide +kernel
theorem dX4_kinds_23 : decode cX4_kinds 23 = .ok (.iload 5, 2) := by decide +kernel
theorem dX4_kinds_25 : decode cX4_kinds 25 = .ok (.bipush 7, 2) := by decide +kernel
theorem dX4_kinds_27 : decode cX4_kinds 27 = .ok (.if_icmp .ge 43, 3) := by decide +kernel
theorem dX4_kinds_30 : decode cX4_kinds 30 = .ok (.aload_n 0, 1) := by decide +kernel
theorem dX4_kinds_31 : decode cX4_kinds 31 = .ok (.aload_n 0, 1) := by decide +kernel
theorem dX4_kinds_32 : decode cX4_kinds 32 = .ok (.getfield 35, 3) := by decide +kernel
theorem dX4_kinds_35 : decode cX4_kinds 35 = .ok (.iload_n 1, 1) := by decide +kernel
theorem dX4_kinds_36 : decode cX4_kinds 36 = .ok (.aaload, 1) := by decide +kernel
theorem dX4_kinds_37 : decode cX4_kinds 37 = .ok (.iload_n 2, 1) := by decide +kernel
theorem dX4_kinds_38 : decode cX4_kinds 38 = .ok (.iload 5, 2) := by decide +kernel
theorem dX4_kinds_40 : decode cX4_kinds 40 = .ok (.aload_n 0, 1) := by decide +kernel
theorem dX4_kinds_41 : decode cX4_kinds 41 = .ok (.getfield 12, 3) := by decide +kernel
theorem dX4_kinds_44 : decode cX4_kinds 44 = .ok (.getfield 77, 3) := by decide +kernel
theorem dX4_kinds_47 : decode cX4_kinds 47 = .ok (.iload_n 2, 1) := by decide +kernel
theorem dX4_kinds_48 : decode cX4_kinds 48 = .ok (.iaload, 1) := by decide +kernel
theorem dX4_kinds_49 : decode cX4_kinds 49 = .ok (.invokevirtual 216, 3) := by decide +kernel
theorem dX4_kinds_52 : decode cX4_kinds 52 = .ok (.ifCond .eq 12, 3) := by decide +kernel
theorem dX4_kinds_55 : decode cX4_kinds 55 = .ok (.iload 4, 2) := by decide +kernel
theorem dX4_kinds_57 : decode cX4_kinds 57 = .ok (.iconst 1, 1) := by decide +kernel
theorem dX4_kinds_58 : decode cX4_kinds 58 = .ok (.iload 5, 2) := by decide +kernel
theorem dX4_kinds_60 : decode cX4_kinds 60 = .ok (.ishl, 1) := by decide +kernel
theorem dX4_kinds_61 : decode cX4_kinds 61 = .ok (.ior, 1) := by decide +kernel
theorem dX4_kinds_62 : decode cX4_kinds 62 = .ok (.istore 4, 2) := by decide +kernel
theorem dX4_kinds_64 : decode cX4_kinds 64 = .ok (.iinc 5 1, 3) := by decide +kernel
theorem dX4_kinds_67 : decode cX4_kinds 67 = .ok (.goto (-44), 3) := by decide +kernel
theorem dX4_kinds_70 : decode cX4_kinds 70 = .ok (.iload 4, 2) := by decide +kernel
theorem dX4_kinds_72 : decode cX4_kinds 72 = .ok (.ireturn, 1) := by decide +kernel
theorem dX4_habits_0 : decode cX4_habits 0 = .ok (.aload_n 0, 1) := by decide +kernel
theorem dX4_habits_1 : decode cX4_habits 1 = .ok (.iload_n 1, 1) := by decide +kernel
theorem dX4_habits_2 : decode cX4_habits 2 = .ok (.aload_n 0, 1) := by decide +kernel
theorem dX4_habits_3 : decode cX4_habits 3 = .ok (.iload_n 2, 1) := by decide +kernel
theorem dX4_habits_4 : decode cX4_habits 4 = .ok (.invokevirtual 68, 3) := by decide +kernel
theorem dX4_habits_7 : decode cX4_habits 7 = .ok (.invokevirtual 212, 3) := by decide +kernel
theorem dX4_habits_10 : decode cX4_habits 10 = .ok (.istore_n 3, 1) := by decide +kernel
theorem dX4_habits_11 : decode cX4_habits 11 = .ok (.iload_n 3, 1) := by decide +kernel
theorem dX4_habits_12 : decode cX4_habits 12 = .ok (.ifCond .eq 5, 3) := by decide +kernel
theorem dX4_habits_15 : decode cX4_habits 15 = .ok (.iload_n 3, 1) := by decide +kernel
theorem dX4_habits_16 : decode cX4_habits 16 = .ok (.ireturn, 1) := by decide +kernel
theorem dX4_habits_17 : decode cX4_habits 17 = .ok (.iconst 0, 1) := by decide +kernel
theorem dX4_habits_18 : decode cX4_habits 18 = .ok (.istore 4, 2) := by decide +kernel
theorem dX4_habits_20 : decode cX4_habits 20 = .ok (.bipush (-15), 2) := by decide +kernel
theorem dX4_habits_22 : decode cX4_habits 22 = .ok (.istore 5, 2) := by decide +kernel
theorem dX4_habits_24 : decode cX4_habits 24 = .ok (.iload 5, 2) := by decide +kernel
theorem dX4_habits_26 : decode cX4_habits 26 = .ok (.bipush 15, 2) := by decide +kernel
theorem dX4_habits_28 : decode cX4_habits 28 = .ok (.if_icmp .gt 37, 3) := by decide +kernel
theorem dX4_habits_31 : decode cX4_habits 31 = .ok (.aload_n 0, 1) := by decide +kernel
theorem dX4_habits_32 : decode cX4_habits 32 = .ok (.aload_n 0, 1) := by decide +kernel
theorem dX4_habits_33 : decode cX4_habits 33 = .ok (.getfield 35, 3) := by decide +kernel
theorem dX4_habits_36 : decode cX4_habits 36 = .ok (.iload_n 1, 1) := by decide +kernel
theorem dX4_habits_37 : decode cX4_habits 37 = .ok (.aaload, 1) := by decide +kernel
theorem dX4_habits_38 : decode cX4_habits 38 = .ok (.iload_n 2, 1) := by decide +kernel
theorem dX4_habits_39 : decode cX4_habits 39 = .ok (.aload_n 0, 1) := by decide +kernel
theorem dX4_habits_40 : decode cX4_habits 40 = .ok (.getfield 12, 3) := by decide +kernel
theorem dX4_habits_43 : decode cX4_habits 43 = .ok (.getfield 71, 3) := by decide +kernel
theorem dX4_habits_46 : decode cX4_habits 46 = .ok (.iload_n 2, 1) := by decide +kernel
theorem dX4_habits_47 : decode cX4_habits 47 = .ok (.iaload, 1) := by decide +kernel
theorem dX4_habits_48 : decode cX4_habits 48 = .ok (.iload 5, 2) := by decide +kernel
theorem dX4_habits_50 : decode cX4_habits 50 = .ok (.invokevirtual 216, 3) := by decide +kernel
theorem dX4_habits_53 : decode cX4_habits 53 = .ok (.ifCond .eq 6, 3) := by decide +kernel
theorem dX4_habits_56 : decode cX4_habits 56 = .ok (.iinc 4 1, 3) := by decide +kernel
theorem dX4_habits_59 : decode cX4_habits 59 = .ok (.iinc 5 1, 3) := by decide +kernel
theorem dX4_habits_62 : decode cX4_habits 62 = .ok (.goto (-38), 3) := by decide +kernel
theorem dX4_habits_65 : decode cX4_habits 65 = .ok (.iload 4, 2) := by decide +kernel
theorem dX4_habits_67 : decode cX4_habits 67 = .ok (.ireturn, 1) := by decide +kernel
theorem dX4_begun_0 : decode cX4_begun 0 = .ok (.aload_n 0, 1) := by decide +kernel
theorem dX4_begun_1 : decode cX4_begun 1 = .ok (.iload_n 1, 1) := by decide +kernel
theorem dX4_begun_2 : decode cX4_begun 2 = .ok (.iload_n 2, 1) := by decide +kernel
theorem dX4_begun_3 : decode cX4_begun 3 = .ok (.invokestatic 92, 3) := by decide +kernel
theorem dX4_begun_6 : decode cX4_begun 6 = .ok (.invokevirtual 212, 3) := by decide +kernel
theorem dX4_begun_9 : decode cX4_begun 9 = .ok (.istore_n 3, 1) := by decide +kernel
theorem dX4_begun_10 : decode cX4_begun 10 = .ok (.iload_n 3, 1) := by decide +kernel
theorem dX4_begun_11 : decode cX4_begun 11 = .ok (.ifCond .eq 5, 3) := by decide +kernel
theorem dX4_begun_14 : decode cX4_begun 14 = .ok (.iload_n 3, 1) := by decide +kernel
theorem dX4_begun_15 : decode cX4_begun 15 = .ok (.ireturn, 1) := by decide +kernel
theorem dX4_begun_16 : decode cX4_begun 16 = .ok (.aload_n 0, 1) := by decide +kernel
theorem dX4_begun_17 : decode cX4_begun 17 = .ok (.iload_n 2, 1) := by decide +kernel
theorem dX4_begun_18 : decode cX4_begun 18 = .ok (.aload_n 0, 1) := by decide +kernel
theorem dX4_begun_19 : decode cX4_begun 19 = .ok (.getfield 35, 3) := by decide +kernel
theorem dX4_begun_22 : decode cX4_begun 22 = .ok (.iload_n 1, 1) := by decide +kernel
theorem dX4_begun_23 : decode cX4_begun 23 = .ok (.aaload, 1) := by decide +kernel
theorem dX4_begun_24 : decode cX4_begun 24 = .ok (.getfield 220, 3) := by decide +kernel
theorem dX4_begun_27 : decode cX4_begun 27 = .ok (.invokevirtual 182, 3) := by decide +kernel
theorem dX4_begun_30 : decode cX4_begun 30 = .ok (.iconst 0, 1) := by decide +kernel
theorem dX4_begun_31 : decode cX4_begun 31 = .ok (.istore 4, 2) := by decide +kernel
theorem dX4_begun_33 : decode cX4_begun 33 = .ok (.iconst 0, 1) := by decide +kernel
theorem dX4_begun_34 : decode cX4_begun 34 = .ok (.istore 5, 2) := by decide +kernel
theorem dX4_begun_36 : decode cX4_begun 36 = .ok (.iload 5, 2) := by decide +kernel
theorem dX4_begun_38 : decode cX4_begun 38 = .ok (.bipush 100, 2) := by decide +kernel
theorem dX4_begun_40 : decode cX4_begun 40 = .ok (.if_icmp .ge 28, 3) := by decide +kernel
theorem dX4_begun_43 : decode cX4_begun 43 = .ok (.aload_n 0, 1) := by decide +kernel
theorem dX4_begun_44 : decode cX4_begun 44 = .ok (.aload_n 0, 1) := by decide +kernel
theorem dX4_begun_45 : decode cX4_begun 45 = .ok (.getfield 35, 3) := by decide +kernel
theorem dX4_begun_48 : decode cX4_begun 48 = .ok (.iload_n 1, 1) := by decide +kernel
theorem dX4_begun_49 : decode cX4_begun 49 = .ok (.aaload, 1) := by decide +kernel
theorem dX4_begun_50 : decode cX4_begun 50 = .ok (.iload_n 2, 1) := by decide +kernel
theorem dX4_begun_51 : decode cX4_begun 51 = .ok (.iload 5, 2) := by decide +kernel
theorem dX4_begun_53 : decode cX4_begun 53 = .ok (.invokevirtual 223, 3) := by decide +kernel
theorem dX4_begun_56 : decode cX4_begun 56 = .ok (.ifCond .eq 6, 3) := by decide +kernel
theorem dX4_begun_59 : decode cX4_begun 59 = .ok (.iinc 4 1, 3) := by decide +kernel
theorem dX4_begun_62 : decode cX4_begun 62 = .ok (.iinc 5 1, 3) := by decide +kernel
theorem dX4_begun_65 : decode cX4_begun 65 = .ok (.goto (-29), 3) := by decide +kernel
theorem dX4_begun_68 : decode cX4_begun 68 = .ok (.iload 4, 2) := by decide +kernel
theorem dX4_begun_70 : decode cX4_begun 70 = .ok (.ireturn, 1) := by decide +kernel
theorem dX4_from_0 : decode cX4_from 0 = .ok (.aload_n 0, 1) := by decide +kernel
theorem dX4_from_1 : decode cX4_from 1 = .ok (.iload_n 1, 1) := by decide +kernel
theorem dX4_from_2 : decode cX4_from 2 = .ok (.iload_n 2, 1) := by decide +kernel
theorem dX4_from_3 : decode cX4_from 3 = .ok (.invokestatic 92, 3) := by decide +kernel
theorem dX4_from_6 : decode cX4_from 6 = .ok (.invokevirtual 212, 3) := by decide +kernel
theorem dX4_from_9 : decode cX4_from 9 = .ok (.istore_n 3, 1) := by decide +kernel
theorem dX4_from_10 : decode cX4_from 10 = .ok (.iload_n 3, 1) := by decide +kernel
theorem dX4_from_11 : decode cX4_from 11 = .ok (.ifCond .eq 5, 3) := by decide +kernel
theorem dX4_from_14 : decode cX4_from 14 = .ok (.iload_n 3, 1) := by decide +kernel
theorem dX4_from_15 : decode cX4_from 15 = .ok (.ireturn, 1) := by decide +kernel
theorem dX4_from_16 : decode cX4_from 16 = .ok (.aload_n 0, 1) := by decide +kernel
theorem dX4_from_17 : decode cX4_from 17 = .ok (.iload_n 2, 1) := by decide +kernel
theorem dX4_from_18 : decode cX4_from 18 = .ok (.aload_n 0, 1) := by decide +kernel
theorem dX4_from_19 : decode cX4_from 19 = .ok (.getfield 35, 3) := by decide +kernel
theorem dX4_from_22 : decode cX4_from 22 = .ok (.iload_n 1, 1) := by decide +kernel
theorem dX4_from_23 : decode cX4_from 23 = .ok (.aaload, 1) := by decide +kernel
theorem dX4_from_24 : decode cX4_from 24 = .ok (.getfield 220, 3) := by decide +kernel
theorem dX4_from_27 : decode cX4_from 27 = .ok (.invokevirtual 182, 3) := by decide +kernel
theorem dX4_from_30 : decode cX4_from 30 = .ok (.iconst 0, 1) := by decide +kernel
theorem dX4_from_31 : decode cX4_from 31 = .ok (.istore 4, 2) := by decide +kernel
theorem dX4_from_33 : decode cX4_from 33 = .ok (.iload 4, 2) := by decide +kernel
theorem dX4_from_35 : decode cX4_from 35 = .ok (.bipush 100, 2) := by decide +kernel
theorem dX4_from_37 : decode cX4_from 37 = .ok (.if_icmp .ge 28, 3) := by decide +kernel
theorem dX4_from_40 : decode cX4_from 40 = .ok (.aload_n 0, 1) := by decide +kernel
theorem dX4_from_41 : decode cX4_from 41 = .ok (.aload_n 0, 1) := by decide +kernel
theorem dX4_from_42 : decode cX4_from 42 = .ok (.getfield 35, 3) := by decide +kernel
theorem dX4_from_45 : decode cX4_from 45 = .ok (.iload_n 1, 1) := by decide +kernel
theorem dX4_from_46 : decode cX4_from 46 = .ok (.aaload, 1) := by decide +kernel
theorem dX4_from_47 : decode cX4_from 47 = .ok (.iload_n 2, 1) := by decide +kernel
theorem dX4_from_48 : decode cX4_from 48 = .ok (.iload 4, 2) := by decide +kernel
theorem dX4_from_50 : decode cX4_from 50 = .ok (.invokevirtual 223, 3) := by decide +kernel
theorem dX4_from_53 : decode cX4_from 53 = .ok (.ifCond .eq 6, 3) := by decide +kernel
theorem dX4_from_56 : decode cX4_from 56 = .ok (.iload 4, 2) := by decide +kernel
theorem dX4_from_58 : decode cX4_from 58 = .ok (.ireturn, 1) := by decide +kernel
theorem dX4_from_59 : decode cX4_from 59 = .ok (.iinc 4 1, 3) := by decide +kernel
theorem dX4_from_62 : decode cX4_from 62 = .ok (.goto (-29), 3) := by decide +kernel
theorem dX4_from_65 : decode cX4_from 65 = .ok (.aload_n 0, 1) := by decide +kernel
theorem dX4_from_66 : decode cX4_from 66 = .ok (.ldc 166, 2) := by decide +kernel
theorem dX4_from_68 : decode cX4_from 68 = .ok (.invokevirtual 55, 3) := by decide +kernel
theorem dX4_from_71 : decode cX4_from 71 = .ok (.ireturn, 1) := by decide +kernel
theorem dX4_wrongLog_0 : decode cX4_wrongLog 0 = .ok (.aload_n 0, 1) := by decide +kernel
theorem dX4_wrongLog_1 : decode cX4_wrongLog 1 = .ok (.iload_n 1, 1) := by decide +kernel
theorem dX4_wrongLog_2 : decode cX4_wrongLog 2 = .ok (.invokevirtual 227, 3) := by decide +kernel
theorem dX4_wrongLog_5 : decode cX4_wrongLog 5 = .ok (.istore_n 3, 1) := by decide +kernel
theorem dX4_wrongLog_6 : decode cX4_wrongLog 6 = .ok (.iload_n 3, 1) := by decide +kernel
theorem dX4_wrongLog_7 : decode cX4_wrongLog 7 = .ok (.ifCond .eq 5, 3) := by decide +kernel
theorem dX4_wrongLog_10 : decode cX4_wrongLog 10 = .ok (.iload_n 3, 1) := by decide +kernel
theorem dX4_wrongLog_11 : decode cX4_wrongLog 11 = .ok (.ireturn, 1) := by decide +kernel
theorem dX4_wrongLog_12 : decode cX4_wrongLog 12 = .ok (.iload_n 2, 1) := by decide +kernel
theorem dX4_wrongLog_13 : decode cX4_wrongLog 13 = .ok (.ifCond .eq 7, 3) := by decide +kernel
theorem dX4_wrongLog_16 : decode cX4_wrongLog 16 = .ok (.iconst 0, 1) := by decide +kernel
theorem dX4_wrongLog_17 : decode cX4_wrongLog 17 = .ok (.goto 9, 3) := by decide +kernel
theorem dX4_wrongLog_20 : decode cX4_wrongLog 20 = .ok (.aload_n 0, 1) := by decide +kernel
theorem dX4_wrongLog_21 : decode cX4_wrongLog 21 = .ok (.ldc 54, 2) := by decide +kernel
theorem dX4_wrongLog_23 : decode cX4_wrongLog 23 = .ok (.invokevirtual 55, 3) := by decide +kernel
theorem dX4_wrongLog_26 : decode cX4_wrongLog 26 = .ok (.ireturn, 1) := by decide +kernel
theorem dX4_sitsAsTold_0 : decode cX4_sitsAsTold 0 = .ok (.iconst 0, 1) := by decide +kernel
theorem dX4_sitsAsTold_1 : decode cX4_sitsAsTold 1 = .ok (.istore 5, 2) := by decide +kernel
theorem dX4_sitsAsTold_3 : decode cX4_sitsAsTold 3 = .ok (.iload 5, 2) := by decide +kernel
theorem dX4_sitsAsTold_5 : decode cX4_sitsAsTold 5 = .ok (.aload_n 1, 1) := by decide +kernel
theorem dX4_sitsAsTold_6 : decode cX4_sitsAsTold 6 = .ok (.getfield 220, 3) := by decide +kernel
theorem dX4_sitsAsTold_9 : decode cX4_sitsAsTold 9 = .ok (.if_icmp .ge 34, 3) := by decide +kernel
theorem dX4_sitsAsTold_12 : decode cX4_sitsAsTold 12 = .ok (.aload_n 1, 1) := by decide +kernel
theorem dX4_sitsAsTold_13 : decode cX4_sitsAsTold 13 = .ok (.getfield 230, 3) := by decide +kernel
theorem dX4_sitsAsTold_16 : decode cX4_sitsAsTold 16 = .ok (.iload 5, 2) := by decide +kernel
theorem dX4_sitsAsTold_18 : decode cX4_sitsAsTold 18 = .ok (.iaload, 1) := by decide +kernel
theorem dX4_sitsAsTold_19 : decode cX4_sitsAsTold 19 = .ok (.aload_n 0, 1) := by decide +kernel
theorem dX4_sitsAsTold_20 : decode cX4_sitsAsTold 20 = .ok (.getfield 12, 3) := by decide +kernel
theorem dX4_sitsAsTold_23 : decode cX4_sitsAsTold 23 = .ok (.iload_n 2, 1) := by decide +kernel
theorem dX4_sitsAsTold_24 : decode cX4_sitsAsTold 24 = .ok (.iload_n 3, 1) := by decide +kernel
theorem dX4_sitsAsTold_25 : decode cX4_sitsAsTold 25 = .ok (.iload 4, 2) := by decide +kernel
theorem dX4_sitsAsTold_27 : decode cX4_sitsAsTold 27 = .ok (.iload 5, 2) := by decide +kernel
theorem dX4_sitsAsTold_29 : decode cX4_sitsAsTold 29 = .ok (.invokevirtual 233, 3) := by decide +kernel
theorem dX4_sitsAsTold_32 : decode cX4_sitsAsTold 32 = .ok (.if_icmp .eq 5, 3) := by decide +kernel
theorem dX4_sitsAsTold_35 : decode cX4_sitsAsTold 35 = .ok (.iconst 0, 1) := by decide +kernel
theorem dX4_sitsAsTold_36 : decode cX4_sitsAsTold 36 = .ok (.ireturn, 1) := by decide +kernel
theorem dX4_sitsAsTold_37 : decode cX4_sitsAsTold 37 = .ok (.iinc 5 1, 3) := by decide +kernel
theorem dX4_sitsAsTold_40 : decode cX4_sitsAsTold 40 = .ok (.goto (-37), 3) := by decide +kernel
theorem dX4_sitsAsTold_43 : decode cX4_sitsAsTold 43 = .ok (.iconst 1, 1) := by decide +kernel
theorem dX4_sitsAsTold_44 : decode cX4_sitsAsTold 44 = .ok (.ireturn, 1) := by decide +kernel
theorem dX4_goesAsTold_0 : decode cX4_goesAsTold 0 = .ok (.iload_n 3, 1) := by decide +kernel
theorem dX4_goesAsTold_1 : decode cX4_goesAsTold 1 = .ok (.istore 4, 2) := by decide +kernel
theorem dX4_goesAsTold_3 : decode cX4_goesAsTold 3 = .ok (.iconst 0, 1) := by decide +kernel
theorem dX4_goesAsTold_4 : decode cX4_goesAsTold 4 = .ok (.istore 5, 2) := by decide +kernel
theorem dX4_goesAsTold_6 : decode cX4_goesAsTold 6 = .ok (.iload 5, 2) := by decide +kernel
theorem dX4_goesAsTold_8 : decode cX4_goesAsTold 8 = .ok (.aload_n 1, 1) := by decide +kernel
theorem dX4_goesAsTold_9 : decode cX4_goesAsTold 9 = .ok (.getfield 220, 3) := by decide +kernel
theorem dX4_goesAsTold_12 : decode cX4_goesAsTold 12 = .ok (.if_icmp .ge 73, 3) := by decide +kernel
theorem dX4_goesAsTold_15 : decode cX4_goesAsTold 15 = .ok (.aload_n 1, 1) := by decide +kernel
theorem dX4_goesAsTold_16 : decode cX4_goesAsTold 16 = .ok (.getfield 230, 3) := by decide +kernel
theorem dX4_goesAsTold_19 : decode cX4_goesAsTold 19 = .ok (.iload 5, 2) := by decide +kernel
theorem dX4_goesAsTold_21 : decode cX4_goesAsTold 21 = .ok (.iaload, 1) := by decide +kernel
theorem dX4_goesAsTold_22 : decode cX4_goesAsTold 22 = .ok (.istore 6, 2) := by decide +kernel
theorem dX4_goesAsTold_24 : decode cX4_goesAsTold 24 = .ok (.iload 6, 2) := by decide +kernel
theorem dX4_goesAsTold_26 : decode cX4_goesAsTold 26 = .ok (.iconst (-1), 1) := by decide +kernel
theorem dX4_goesAsTold_27 : decode cX4_goesAsTold 27 = .ok (.if_icmp .eq 15, 3) := by decide +kernel
theorem dX4_goesAsTold_30 : decode cX4_goesAsTold 30 = .ok (.iload 6, 2) := by decide +kernel
theorem dX4_goesAsTold_32 : decode cX4_goesAsTold 32 = .ok (.iload 4, 2) := by decide +kernel
theorem dX4_goesAsTold_34 : decode cX4_goesAsTold 34 = .ok (.bipush 10, 2) := by decide +kernel
theorem dX4_goesAsTold_36 : decode cX4_goesAsTold 36 = .ok (.idiv, 1) := by decide +kernel
theorem dX4_goesAsTold_37 : decode cX4_goesAsTold 37 = .ok (.if_icmp .eq 5, 3) := by decide +kernel
theorem dX4_goesAsTold_40 : decode cX4_goesAsTold 40 = .ok (.iconst 0, 1) := by decide +kernel
theorem dX4_goesAsTold_41 : decode cX4_goesAsTold 41 = .ok (.ireturn, 1) := by decide +kernel
theorem dX4_goesAsTold_42 : decode cX4_goesAsTold 42 = .ok (.aload_n 0, 1) := by decide +kernel
theorem dX4_goesAsTold_43 : decode cX4_goesAsTold 43 = .ok (.getfield 12, 3) := by decide +kernel
theorem dX4_goesAsTold_46 : decode cX4_goesAsTold 46 = .ok (.iload 4, 2) := by decide +kernel
theorem dX4_goesAsTold_48 : decode cX4_goesAsTold 48 = .ok (.aload_n 0, 1) := by decide +kernel
theorem dX4_goesAsTold_49 : decode cX4_goesAsTold 49 = .ok (.getfield 12, 3) := by decide +kernel
theorem dX4_goesAsTold_52 : decode cX4_goesAsTold 52 = .ok (.getfield 98, 3) := by decide +kernel
theorem dX4_goesAsTold_55 : decode cX4_goesAsTold 55 = .ok (.iload_n 2, 1) := by decide +kernel
theorem dX4_goesAsTold_56 : decode cX4_goesAsTold 56 = .ok (.iaload, 1) := by decide +kernel
theorem dX4_goesAsTold_57 : decode cX4_goesAsTold 57 = .ok (.aload_n 0, 1) := by decide +kernel
theorem dX4_goesAsTold_58 : decode cX4_goesAsTold 58 = .ok (.getfield 43, 3) := by decide +kernel
theorem dX4_goesAsTold_61 : decode cX4_goesAsTold 61 = .ok (.iload 5, 2) := by decide +kernel
theorem dX4_goesAsTold_63 : decode cX4_goesAsTold 63 = .ok (.iaload, 1) := by decide +kernel
theorem dX4_goesAsTold_64 : decode cX4_goesAsTold 64 = .ok (.invokestatic 107, 3) := by decide +kernel
theorem dX4_goesAsTold_67 : decode cX4_goesAsTold 67 = .ok (.aload_n 0, 1) := by decide +kernel
theorem dX4_goesAsTold_68 : decode cX4_goesAsTold 68 = .ok (.getfield 12, 3) := by decide +kernel
theorem dX4_goesAsTold_71 : decode cX4_goesAsTold 71 = .ok (.getfield 126, 3) := by decide +kernel
theorem dX4_goesAsTold_74 : decode cX4_goesAsTold 74 = .ok (.invokevirtual 195, 3) := by decide +kernel
theorem dX4_goesAsTold_77 : decode cX4_goesAsTold 77 = .ok (.istore 4, 2) := by decide +kernel
theorem dX4_goesAsTold_79 : decode cX4_goesAsTold 79 = .ok (.iinc 5 1, 3) := by decide +kernel
theorem dX4_goesAsTold_82 : decode cX4_goesAsTold 82 = .ok (.goto (-76), 3) := by decide +kernel
theorem dX4_goesAsTold_85 : decode cX4_goesAsTold 85 = .ok (.iconst 1, 1) := by decide +kernel
theorem dX4_goesAsTold_86 : decode cX4_goesAsTold 86 = .ok (.ireturn, 1) := by decide +kernel
theorem dX4_storms_0 : decode cX4_storms 0 = .ok (.iload_n 1, 1) := by decide +kernel
theorem dX4_storms_1 : decode cX4_storms 1 = .ok (.iconst 1, 1) := by decide +kernel
theorem dX4_storms_2 : decode cX4_storms 2 = .ok (.bipush 20, 2) := by decide +kernel
theorem dX4_storms_4 : decode cX4_storms 4 = .ok (.invokestatic 88, 3) := by decide +kernel
theorem dX4_storms_7 : decode cX4_storms 7 = .ok (.ifCond .ne 10, 3) := by decide +kernel
theorem dX4_storms_10 : decode cX4_storms 10 = .ok (.aload_n 0, 1) := by decide +kernel
theorem dX4_storms_11 : decode cX4_storms 11 = .ok (.ldc 54, 2) := by decide +kernel
theorem dX4_storms_13 : decode cX4_storms 13 = .ok (.invokevirtual 55, 3) := by decide +kernel
theorem dX4_storms_16 : decode cX4_storms 16 = .ok (.ireturn, 1) := by decide +kernel
theorem dX4_storms_17 : decode cX4_storms 17 = .ok (.aload_n 0, 1) := by decide +kernel
theorem dX4_storms_18 : decode cX4_storms 18 = .ok (.getfield 12, 3) := by decide +kernel
theorem dX4_storms_21 : decode cX4_storms 21 = .ok (.getfield 136, 3) := by decide +kernel
theorem dX4_storms_24 : decode cX4_storms 24 = .ok (.ldc 139, 2) := by decide +kernel
theorem dX4_storms_26 : decode cX4_storms 26 = .ok (.iload_n 1, 1) := by decide +kernel
theorem dX4_storms_27 : decode cX4_storms 27 = .ok (.isub, 1) := by decide +kernel
theorem dX4_storms_28 : decode cX4_storms 28 = .ok (.if_icmp .le 10, 3) := by decide +kernel
theorem dX4_storms_31 : decode cX4_storms 31 = .ok (.aload_n 0, 1) := by decide +kernel
theorem dX4_storms_32 : decode cX4_storms 32 = .ok (.ldc 140, 2) := by decide +kernel
theorem dX4_storms_34 : decode cX4_storms 34 = .ok (.invokevirtual 55, 3) := by decide +kernel
theorem dX4_storms_37 : decode cX4_storms 37 = .ok (.ireturn, 1) := by decide +kernel
theorem dX4_storms_38 : decode cX4_storms 38 = .ok (.iconst 0, 1) := by decide +kernel
theorem dX4_storms_39 : decode cX4_storms 39 = .ok (.istore_n 2, 1) := by decide +kernel
theorem dX4_storms_40 : decode cX4_storms 40 = .ok (.iload_n 2, 1) := by decide +kernel
theorem dX4_storms_41 : decode cX4_storms 41 = .ok (.iload_n 1, 1) := by decide +kernel
theorem dX4_storms_42 : decode cX4_storms 42 = .ok (.if_icmp .ge 16, 3) := by decide +kernel
theorem dX4_storms_45 : decode cX4_storms 45 = .ok (.aload_n 0, 1) := by decide +kernel
theorem dX4_storms_46 : decode cX4_storms 46 = .ok (.getfield 12, 3) := by decide +kernel
theorem dX4_storms_49 : decode cX4_storms 49 = .ok (.invokevirtual 237, 3) := by decide +kernel
theorem dX4_storms_52 : decode cX4_storms 52 = .ok (.iinc 2 1, 3) := by decide +kernel
theorem dX4_storms_55 : decode cX4_storms 55 = .ok (.goto (-15), 3) := by decide +kernel
theorem dX4_storms_58 : decode cX4_storms 58 = .ok (.aload_n 0, 1) := by decide +kernel
theorem dX4_storms_59 : decode cX4_storms 59 = .ok (.getfield 12, 3) := by decide +kernel
theorem dX4_storms_62 : decode cX4_storms 62 = .ok (.invokevirtual 144, 3) := by decide +kernel
theorem dX4_storms_65 : decode cX4_storms 65 = .ok (.invokestatic 148, 3) := by decide +kernel
theorem dX4_storms_68 : decode cX4_storms 68 = .ok (.ireturn, 1) := by decide +kernel
theorem dX4_odds_0 : decode cX4_odds 0 = .ok (.iload_n 1, 1) := by decide +kernel
theorem dX4_odds_1 : decode cX4_odds 1 = .ok (.invokestatic 92, 3) := by decide +kernel
theorem dX4_odds_4 : decode cX4_odds 4 = .ok (.ifCond .eq 12, 3) := by decide +kernel
theorem dX4_odds_7 : decode cX4_odds 7 = .ok (.iload_n 2, 1) := by decide +kernel
theorem dX4_odds_8 : decode cX4_odds 8 = .ok (.iconst 0, 1) := by decide +kernel
theorem dX4_odds_9 : decode cX4_odds 9 = .ok (.iconst 1, 1) := by decide +kernel
theorem dX4_odds_10 : decode cX4_odds 10 = .ok (.invokestatic 88, 3) := by decide +kernel
theorem dX4_odds_13 : decode cX4_odds 13 = .ok (.ifCond .ne 10, 3) := by decide +kernel
theorem dX4_odds_16 : decode cX4_odds 16 = .ok (.aload_n 0, 1) := by decide +kernel
theorem dX4_odds_17 : decode cX4_odds 17 = .ok (.ldc 54, 2) := by decide +kernel
theorem dX4_odds_19 : decode cX4_odds 19 = .ok (.invokevirtual 55, 3) := by decide +kernel
theorem dX4_odds_22 : decode cX4_odds 22 = .ok (.ireturn, 1) := by decide +kernel
theorem dX4_odds_23 : decode cX4_odds 23 = .ok (.aload_n 0, 1) := by decide +kernel
theorem dX4_odds_24 : decode cX4_odds 24 = .ok (.getfield 12, 3) := by decide +kernel
theorem dX4_odds_27 : decode cX4_odds 27 = .ok (.iload_n 1, 1) := by decide +kernel
theorem dX4_odds_28 : decode cX4_odds 28 = .ok (.invokevirtual 240, 3) := by decide +kernel
theorem dX4_odds_31 : decode cX4_odds 31 = .ok (.istore_n 3, 1) := by decide +kernel
theorem dX4_odds_32 : decode cX4_odds 32 = .ok (.bipush 8, 2) := by decide +kernel
theorem dX4_odds_34 : decode cX4_odds 34 = .ok (.istore 4, 2) := by decide +kernel
theorem dX4_odds_36 : decode cX4_odds 36 = .ok (.iconst 0, 1) := by decide +kernel
theorem dX4_odds_37 : decode cX4_odds 37 = .ok (.istore 5, 2) := by decide +kernel
theorem dX4_odds_39 : decode cX4_odds 39 = .ok (.iload 5, 2) := by decide +kernel
theorem dX4_odds_41 : decode cX4_odds 41 = .ok (.iconst 3, 1) := by decide +kernel
theorem dX4_odds_42 : decode cX4_odds 42 = .ok (.if_icmp .ge 25, 3) := by decide +kernel
theorem dX4_odds_45 : decode cX4_odds 45 = .ok (.iload_n 3, 1) := by decide +kernel
theorem dX4_odds_46 : decode cX4_odds 46 = .ok (.iconst 2, 1) := by decide +kernel
theorem dX4_odds_47 : decode cX4_odds 47 = .ok (.irem, 1) := by decide +kernel
theorem dX4_odds_48 : decode cX4_odds 48 = .ok (.ifCond .ne 19, 3) := by decide +kernel
theorem dX4_odds_51 : decode cX4_odds 51 = .ok (.iload_n 3, 1) := by decide +kernel
theorem dX4_odds_52 : decode cX4_odds 52 = .ok (.iconst 2, 1) := by decide +kernel
theorem dX4_odds_53 : decode cX4_odds 53 = .ok (.idiv, 1) := by decide +kernel
theorem dX4_odds_54 : decode cX4_odds 54 = .ok (.istore_n 3, 1) := by decide +kernel
theorem dX4_odds_55 : decode cX4_odds 55 = .ok (.iload 4, 2) := by decide +kernel
theorem dX4_odds_57 : decode cX4_odds 57 = .ok (.iconst 2, 1) := by decide +kernel
theorem dX4_odds_58 : decode cX4_odds 58 = .ok (.idiv, 1) := by decide +kernel
theorem dX4_odds_59 : decode cX4_odds 59 = .ok (.istore 4, 2) := by decide +kernel
theorem dX4_odds_61 : decode cX4_odds 61 = .ok (.iinc 5 1, 3) := by decide +kernel
theorem dX4_odds_64 : decode cX4_odds 64 = .ok (.goto (-25), 3) := by decide +kernel
theorem dX4_odds_67 : decode cX4_odds 67 = .ok (.iload_n 2, 1) := by decide +kernel
theorem dX4_odds_68 : decode cX4_odds 68 = .ok (.ifCond .ne 7, 3) := by decide +kernel
theorem dX4_odds_71 : decode cX4_odds 71 = .ok (.iload_n 3, 1) := by decide +kernel
theorem dX4_odds_72 : decode cX4_odds 72 = .ok (.goto 5, 3) := by decide +kernel
theorem dX4_odds_75 : decode cX4_odds 75 = .ok (.iload 4, 2) := by decide +kernel
theorem dX4_odds_77 : decode cX4_odds 77 = .ok (.ireturn, 1) := by decide +kernel
theorem dX4_drives_0 : decode cX4_drives 0 = .ok (.iload_n 1, 1) := by decide +kernel
theorem dX4_drives_1 : decode cX4_drives 1 = .ok (.iconst 0, 1) := by decide +kernel
theorem dX4_drives_2 : decode cX4_drives 2 = .ok (.bipush 20, 2) := by decide +kernel
theorem dX4_drives_4 : decode cX4_drives 4 = .ok (.invokestatic 88, 3) := by decide +kernel
theorem dX4_drives_7 : decode cX4_drives 7 = .ok (.ifCond .ne 11, 3) := by decide +kernel
theorem dX4_drives_10 : decode cX4_drives 10 = .ok (.aload_n 0, 1) := by decide +kernel
theorem dX4_drives_11 : decode cX4_drives 11 = .ok (.ldc 54, 2) := by decide +kernel
theorem dX4_drives_13 : decode cX4_drives 13 = .ok (.invokevirtual 55, 3) := by decide +kernel
theorem dX4_drives_16 : decode cX4_drives 16 = .ok (.i2l, 1) := by decide +kernel
theorem dX4_drives_17 : decode cX4_drives 17 = .ok (.lreturn, 1) := by decide +kernel
theorem dX4_drives_18 : decode cX4_drives 18 = .ok (.lconst 1, 1) := by decide +kernel
theorem dX4_drives_19 : decode cX4_drives 19 = .ok (.iconst 3, 1) := by decide +kernel
theorem dX4_drives_20 : decode cX4_drives 20 = .ok (.iload_n 1, 1) := by decide +kernel
theorem dX4_drives_21 : decode cX4_drives 21 = .ok (.imul, 1) := by decide +kernel
theorem dX4_drives_22 : decode cX4_drives 22 = .ok (.lshl, 1) := by decide +kernel
theorem dX4_drives_23 : decode cX4_drives 23 = .ok (.lreturn, 1) := by decide +kernel
theorem dX4_seed_0 : decode cX4_seed 0 = .ok (.aload_n 0, 1) := by decide +kernel
theorem dX4_seed_1 : decode cX4_seed 1 = .ok (.getfield 12, 3) := by decide +kernel
theorem dX4_seed_4 : decode cX4_seed 4 = .ok (.getfield 243, 3) := by decide +kernel
theorem dX4_seed_7 : decode cX4_seed 7 = .ok (.istore_n 2, 1) := by decide +kernel
theorem dX4_seed_8 : decode cX4_seed 8 = .ok (.aload_n 0, 1) := by decide +kernel
theorem dX4_seed_9 : decode cX4_seed 9 = .ok (.getfield 12, 3) := by decide +kernel
theorem dX4_seed_12 : decode cX4_seed 12 = .ok (.iload_n 1, 1) := by decide +kernel
theorem dX4_seed_13 : decode cX4_seed 13 = .ok (.putfield 243, 3) := by decide +kernel
theorem dX4_seed_16 : decode cX4_seed 16 = .ok (.iload_n 2, 1) := by decide +kernel
theorem dX4_seed_17 : decode cX4_seed 17 = .ok (.ireturn, 1) := by decide +kernel
theorem dX4_feed_0 : decode cX4_feed 0 = .ok (.iload_n 2, 1) := by decide +kernel
theorem dX4_feed_1 : decode cX4_feed 1 = .ok (.iconst 1, 1) := by decide +kernel
theorem dX4_feed_2 : decode cX4_feed 2 = .ok (.iconst 4, 1) := by decide +kernel
theorem dX4_feed_3 : decode cX4_feed 3 = .ok (.invokestatic 88, 3) := by decide +kernel
theorem dX4_feed_6 : decode cX4_feed 6 = .ok (.ifCond .ne 10, 3) := by decide +kernel
theorem dX4_feed_9 : decode cX4_feed 9 = .ok (.aload_n 0, 1) := by decide +kernel
theorem dX4_feed_10 : decode cX4_feed 10 = .ok (.ldc 54, 2) := by decide +kernel
theorem dX4_feed_12 : decode cX4_feed 12 = .ok (.invokevirtual 55, 3) := by decide +kernel
theorem dX4_feed_15 : decode cX4_feed 15 = .ok (.ireturn, 1) := by decide +kernel
theorem dX4_feed_16 : decode cX4_feed 16 = .ok (.aload_n 0, 1) := by decide +kernel
theorem dX4_feed_17 : decode cX4_feed 17 = .ok (.getfield 22, 3) := by decide +kernel
theorem dX4_feed_20 : decode cX4_feed 20 = .ok (.getfield 246, 3) := by decide +kernel
theorem dX4_feed_23 : decode cX4_feed 23 = .ok (.bipush 120, 2) := by decide +kernel
theorem dX4_feed_25 : decode cX4_feed 25 = .ok (.iload_n 2, 1) := by decide +kernel
theorem dX4_feed_26 : decode cX4_feed 26 = .ok (.isub, 1) := by decide +kernel
theorem dX4_feed_27 : decode cX4_feed 27 = .ok (.if_icmp .le 10, 3) := by decide +kernel
theorem dX4_feed_30 : decode cX4_feed 30 = .ok (.aload_n 0, 1) := by decide +kernel
theorem dX4_feed_31 : decode cX4_feed 31 = .ok (.ldc 63, 2) := by decide +kernel
theorem dX4_feed_33 : decode cX4_feed 33 = .ok (.invokevirtual 55, 3) := by decide +kernel
theorem dX4_feed_36 : decode cX4_feed 36 = .ok (.ireturn, 1) := by decide +kernel
theorem dX4_feed_37 : decode cX4_feed 37 = .ok (.iload_n 2, 1) := by decide +kernel
theorem dX4_feed_38 : decode cX4_feed 38 = .ok (.iconst 1, 1) := by decide +kernel
theorem dX4_feed_39 : decode cX4_feed 39 = .ok (.isub, 1) := by decide +kernel
theorem dX4_feed_40 : decode cX4_feed 40 = .ok (.istore_n 3, 1) := by decide +kernel
theorem dX4_feed_41 : decode cX4_feed 41 = .ok (.iload_n 3, 1) := by decide +kernel
theorem dX4_feed_42 : decode cX4_feed 42 = .ok (.ifCond .lt 26, 3) := by decide +kernel
theorem dX4_feed_45 : decode cX4_feed 45 = .ok (.aload_n 0, 1) := by decide +kernel
theorem dX4_feed_46 : decode cX4_feed 46 = .ok (.getfield 22, 3) := by decide +kernel
theorem dX4_feed_49 : decode cX4_feed 49 = .ok (.iload_n 1, 1) := by decide +kernel
theorem dX4_feed_50 : decode cX4_feed 50 = .ok (.bipush 8, 2) := by decide +kernel
theorem dX4_feed_52 : decode cX4_feed 52 = .ok (.iload_n 3, 1) := by decide +kernel
theorem dX4_feed_53 : decode cX4_feed 53 = .ok (.imul, 1) := by decide +kernel
theorem dX4_feed_54 : decode cX4_feed 54 = .ok (.iushr, 1) := by decide +kernel
theorem dX4_feed_55 : decode cX4_feed 55 = .ok (.sipush 255, 3) := by decide +kernel
theorem dX4_feed_58 : decode cX4_feed 58 = .ok (.iand, 1) := by decide +kernel
theorem dX4_feed_59 : decode cX4_feed 59 = .ok (.invokevirtual 249, 3) := by decide +kernel
theorem dX4_feed_62 : decode cX4_feed 62 = .ok (.iinc 3 (-1), 3) := by decide +kernel
theorem dX4_feed_65 : decode cX4_feed 65 = .ok (.goto (-24), 3) := by decide +kernel
theorem dX4_feed_68 : decode cX4_feed 68 = .ok (.aload_n 0, 1) := by decide +kernel
theorem dX4_feed_69 : decode cX4_feed 69 = .ok (.getfield 22, 3) := by decide +kernel
theorem dX4_feed_72 : decode cX4_feed 72 = .ok (.getfield 246, 3) := by decide +kernel
theorem dX4_feed_75 : decode cX4_feed 75 = .ok (.ireturn, 1) := by decide +kernel
theorem dX4_wipe_0 : decode cX4_wipe 0 = .ok (.aload_n 0, 1) := by decide +kernel
theorem dX4_wipe_1 : decode cX4_wipe 1 = .ok (.getfield 22, 3) := by decide +kernel
theorem dX4_wipe_4 : decode cX4_wipe 4 = .ok (.getfield 246, 3) := by decide +kernel
theorem dX4_wipe_7 : decode cX4_wipe 7 = .ok (.istore_n 1, 1) := by decide +kernel
theorem dX4_wipe_8 : decode cX4_wipe 8 = .ok (.aload_n 0, 1) := by decide +kernel
theorem dX4_wipe_9 : decode cX4_wipe 9 = .ok (.getfield 22, 3) := by decide +kernel
theorem dX4_wipe_12 : decode cX4_wipe 12 = .ok (.iconst 0, 1) := by decide +kernel
theorem dX4_wipe_13 : decode cX4_wipe 13 = .ok (.putfield 246, 3) := by decide +kernel
theorem dX4_wipe_16 : decode cX4_wipe 16 = .ok (.iload_n 1, 1) := by decide +kernel
theorem dX4_wipe_17 : decode cX4_wipe 17 = .ok (.ireturn, 1) := by decide +kernel
theorem dX4_text_0 : decode cX4_text 0 = .ok (.aload_n 0, 1) := by decide +kernel
theorem dX4_text_1 : decode cX4_text 1 = .ok (.getfield 29, 3) := by decide +kernel
theorem dX4_text_4 : decode cX4_text 4 = .ok (.aload_n 0, 1) := by decide +kernel
theorem dX4_text_5 : decode cX4_text 5 = .ok (.getfield 22, 3) := by decide +kernel
theorem dX4_text_8 : decode cX4_text 8 = .ok (.invokevirtual 253, 3) := by decide +kernel
theorem dX4_text_11 : decode cX4_text 11 = .ok (.aload_n 0, 1) := by decide +kernel
theorem dX4_text_12 : decode cX4_text 12 = .ok (.getfield 29, 3) := by decide +kernel
theorem dX4_text_15 : decode cX4_text 15 = .ok (.aload_n 0, 1) := by decide +kernel
theorem dX4_text_16 : decode cX4_text 16 = .ok (.getfield 12, 3) := by decide +kernel
theorem dX4_text_19 : decode cX4_text 19 = .ok (.iconst 0, 1) := by decide +kernel
theorem dX4_text_20 : decode cX4_text 20 = .ok (.invokevirtual 257, 3) := by decide +kernel
theorem dX4_text_23 : decode cX4_text 23 = .ok (.istore_n 1, 1) := by decide +kernel
theorem dX4_text_24 : decode cX4_text 24 = .ok (.iload_n 1, 1) := by decide +kernel
theorem dX4_text_25 : decode cX4_text 25 = .ok (.ifCond .lt 16, 3) := by decide +kernel
theorem dX4_text_28 : decode cX4_text 28 = .ok (.aload_n 0, 1) := by decide +kernel
theorem dX4_text_29 : decode cX4_text 29 = .ok (.getfield 29, 3) := by decide +kernel
theorem dX4_text_32 : decode cX4_text 32 = .ok (.aload_n 0, 1) := by decide +kernel
theorem dX4_text_33 : decode cX4_text 33 = .ok (.getfield 12, 3) := by decide +kernel
theorem dX4_text_36 : decode cX4_text 36 = .ok (.iconst 1, 1) := by decide +kernel
theorem dX4_text_37 : decode cX4_text 37 = .ok (.invokevirtual 257, 3) := by decide +kernel
theorem dX4_text_40 : decode cX4_text 40 = .ok (.istore_n 1, 1) := by decide +kernel
theorem dX4_text_41 : decode cX4_text 41 = .ok (.aload_n 0, 1) := by decide +kernel
theorem dX4_text_42 : decode cX4_text 42 = .ok (.getfield 22, 3) := by decide +kernel
theorem dX4_text_45 : decode cX4_text 45 = .ok (.iconst 0, 1) := by decide +kernel
theorem dX4_text_46 : decode cX4_text 46 = .ok (.putfield 246, 3) := by decide +kernel
theorem dX4_text_49 : decode cX4_text 49 = .ok (.iload_n 1, 1) := by decide +kernel
theorem dX4_text_50 : decode cX4_text 50 = .ok (.ireturn, 1) := by decide +kernel
theorem dX4_hold_0 : decode cX4_hold 0 = .ok (.iload_n 1, 1) := by decide +kernel
theorem dX4_hold_1 : decode cX4_hold 1 = .ok (.invokestatic 261, 3) := by decide +kernel
theorem dX4_hold_4 : decode cX4_hold 4 = .ok (.ifCond .eq 16, 3) := by decide +kernel
theorem dX4_hold_7 : decode cX4_hold 7 = .ok (.iload_n 2, 1) := by decide +kernel
theorem dX4_hold_8 : decode cX4_hold 8 = .ok (.iconst (-1), 1) := by decide +kernel
theorem dX4_hold_9 : decode cX4_hold 9 = .ok (.if_icmp .eq 18, 3) := by decide +kernel
theorem dX4_hold_12 : decode cX4_hold 12 = .ok (.aload_n 0, 1) := by decide +kernel
theorem dX4_hold_13 : decode cX4_hold 13 = .ok (.iload_n 2, 1) := by decide +kernel
theorem dX4_hold_14 : decode cX4_hold 14 = .ok (.invokevirtual 68, 3) := by decide +kernel
theorem dX4_hold_17 : decode cX4_hold 17 = .ok (.ifCond .ne 10, 3) := by decide +kernel
theorem dX4_hold_20 : decode cX4_hold 20 = .ok (.aload_n 0, 1) := by decide +kernel
theorem dX4_hold_21 : decode cX4_hold 21 = .ok (.ldc 54, 2) := by decide +kernel
theorem dX4_hold_23 : decode cX4_hold 23 = .ok (.invokevirtual 55, 3) := by decide +kernel
theorem dX4_hold_26 : decode cX4_hold 26 = .ok (.ireturn, 1) := by decide +kernel
theorem dX4_hold_27 : decode cX4_hold 27 = .ok (.aload_n 0, 1) := by decide +kernel
theorem dX4_hold_28 : decode cX4_hold 28 = .ok (.getfield 12, 3) := by decide +kernel
theorem dX4_hold_31 : decode cX4_hold 31 = .ok (.getfield 264, 3) := by decide +kernel
theorem dX4_hold_34 : decode cX4_hold 34 = .ok (.iload_n 1, 1) := by decide +kernel
theorem dX4_hold_35 : decode cX4_hold 35 = .ok (.iload_n 2, 1) := by decide +kernel
theorem dX4_hold_36 : decode cX4_hold 36 = .ok (.iastore, 1) := by decide +kernel
theorem dX4_hold_37 : decode cX4_hold 37 = .ok (.iconst 1, 1) := by decide +kernel
theorem dX4_hold_38 : decode cX4_hold 38 = .ok (.ireturn, 1) := by decide +kernel
theorem dX4_as_0 : decode cX4_as 0 = .ok (.iload_n 1, 1) := by decide +kernel
theorem dX4_as_1 : decode cX4_as 1 = .ok (.invokestatic 261, 3) := by decide +kernel
theorem dX4_as_4 : decode cX4_as 4 = .ok (.ifCond .eq 10, 3) := by decide +kernel
theorem dX4_as_7 : decode cX4_as 7 = .ok (.iload_n 2, 1) := by decide +kernel
theorem dX4_as_8 : decode cX4_as 8 = .ok (.invokestatic 50, 3) := by decide +kernel
theorem dX4_as_11 : decode cX4_as 11 = .ok (.ifCond .ne 10, 3) := by decide +kernel
theorem dX4_as_14 : decode cX4_as 14 = .ok (.aload_n 0, 1) := by decide +kernel
theorem dX4_as_15 : decode cX4_as 15 = .ok (.ldc 54, 2) := by decide +kernel
theorem dX4_as_17 : decode cX4_as 17 = .ok (.invokevirtual 55, 3) := by decide +kernel
theorem dX4_as_20 : decode cX4_as 20 = .ok (.ireturn, 1) := by decide +kernel
theorem dX4_as_21 : decode cX4_as 21 = .ok (.aload_n 0, 1) := by decide +kernel
theorem dX4_as_22 : decode cX4_as 22 = .ok (.getfield 12, 3) := by decide +kernel
theorem dX4_as_25 : decode cX4_as 25 = .ok (.getfield 264, 3) := by decide +kernel
theorem dX4_as_28 : decode cX4_as 28 = .ok (.iload_n 1, 1) := by decide +kernel
theorem dX4_as_29 : decode cX4_as 29 = .ok (.iaload, 1) := by decide +kernel
theorem dX4_as_30 : decode cX4_as 30 = .ok (.istore_n 3, 1) := by decide +kernel
theorem dX4_as_31 : decode cX4_as 31 = .ok (.aload_n 0, 1) := by decide +kernel
theorem dX4_as_32 : decode cX4_as 32 = .ok (.iload_n 3, 1) := by decide +kernel
theorem dX4_as_33 : decode cX4_as 33 = .ok (.invokevirtual 68, 3) := by decide +kernel
theorem dX4_as_36 : decode cX4_as 36 = .ok (.ifCond .ne 11, 3) := by decide +kernel
theorem dX4_as_39 : decode cX4_as 39 = .ok (.aload_n 0, 1) := by decide +kernel
theorem dX4_as_40 : decode cX4_as 40 = .ok (.ldc_w 267, 3) := by decide +kernel
theorem dX4_as_43 : decode cX4_as 43 = .ok (.invokevirtual 55, 3) := by decide +kernel
theorem dX4_as_46 : decode cX4_as 46 = .ok (.ireturn, 1) := by decide +kernel
theorem dX4_as_47 : decode cX4_as 47 = .ok (.aload_n 0, 1) := by decide +kernel
theorem dX4_as_48 : decode cX4_as 48 = .ok (.getfield 12, 3) := by decide +kernel
theorem dX4_as_51 : decode cX4_as 51 = .ok (.getfield 71, 3) := by decide +kernel
theorem dX4_as_54 : decode cX4_as 54 = .ok (.iload_n 3, 1) := by decide +kernel
theorem dX4_as_55 : decode cX4_as 55 = .ok (.iaload, 1) := by decide +kernel
theorem dX4_as_56 : decode cX4_as 56 = .ok (.iload_n 2, 1) := by decide +kernel
theorem dX4_as_57 : decode cX4_as 57 = .ok (.invokestatic 268, 3) := by decide +kernel
theorem dX4_as_60 : decode cX4_as 60 = .ok (.ifCond .eq 7, 3) := by decide +kernel
theorem dX4_as_63 : decode cX4_as 63 = .ok (.iload_n 3, 1) := by decide +kernel
theorem dX4_as_64 : decode cX4_as 64 = .ok (.goto 10, 3) := by decide +kernel
theorem dX4_as_67 : decode cX4_as 67 = .ok (.aload_n 0, 1) := by decide +kernel
theorem dX4_as_68 : decode cX4_as 68 = .ok (.ldc_w 271, 3) := by decide +kernel
theorem dX4_as_71 : decode cX4_as 71 = .ok (.invokevirtual 55, 3) := by decide +kernel
theorem dX4_as_74 : decode cX4_as 74 = .ok (.ireturn, 1) := by decide +kernel
theorem dX4_sheet_0 : decode cX4_sheet 0 = .ok (.iload_n 1, 1) := by decide +kernel
theorem dX4_sheet_1 : decode cX4_sheet 1 = .ok (.invokestatic 272, 3) := by decide +kernel
theorem dX4_sheet_4 : decode cX4_sheet 4 = .ok (.ifCond .eq 25, 3) := by decide +kernel
theorem dX4_sheet_7 : decode cX4_sheet 7 = .ok (.iload_n 2, 1) := by decide +kernel
theorem dX4_sheet_8 : decode cX4_sheet 8 = .ok (.ifCond .eq 28, 3) := by decide +kernel
theorem dX4_sheet_11 : decode cX4_sheet 11 = .ok (.iload_n 2, 1) := by decide +kernel
theorem dX4_sheet_12 : decode cX4_sheet 12 = .ok (.bipush 8, 2) := by decide +kernel
theorem dX4_sheet_14 : decode cX4_sheet 14 = .ok (.if_icmp .eq 22, 3) := by decide +kernel
theorem dX4_sheet_17 : decode cX4_sheet 17 = .ok (.iload_n 2, 1) := by decide +kernel
theorem dX4_sheet_18 : decode cX4_sheet 18 = .ok (.bipush 16, 2) := by decide +kernel
theorem dX4_sheet_20 : decode cX4_sheet 20 = .ok (.if_icmp .eq 16, 3) := by decide +kernel
theorem dX4_sheet_23 : decode cX4_sheet 23 = .ok (.iload_n 2, 1) := by decide +kernel
theorem dX4_sheet_24 : decode cX4_sheet 24 = .ok (.bipush 32, 2) := by decide +kernel
theorem dX4_sheet_26 : decode cX4_sheet 26 = .ok (.if_icmp .eq 10, 3) := by decide +kernel
theorem dX4_sheet_29 : decode cX4_sheet 29 = .ok (.aload_n 0, 1) := by decide +kernel
theorem dX4_sheet_30 : decode cX4_sheet 30 = .ok (.ldc 54, 2) := by decide +kernel
theorem dX4_sheet_32 : decode cX4_sheet 32 = .ok (.invokevirtual 55, 3) := by decide +kernel
theorem dX4_sheet_35 : decode cX4_sheet 35 = .ok (.ireturn, 1) := by decide +kernel
theorem dX4_sheet_36 : decode cX4_sheet 36 = .ok (.iload_n 3, 1) := by decide +kernel
theorem dX4_sheet_37 : decode cX4_sheet 37 = .ok (.ifCond .ge 11, 3) := by decide +kernel
theorem dX4_sheet_40 : decode cX4_sheet 40 = .ok (.aload_n 0, 1) := by decide +kernel
theorem dX4_sheet_41 : decode cX4_sheet 41 = .ok (.ldc_w 275, 3) := by decide +kernel
theorem dX4_sheet_44 : decode cX4_sheet 44 = .ok (.invokevirtual 55, 3) := by decide +kernel
theorem dX4_sheet_47 : decode cX4_sheet 47 = .ok (.ireturn, 1) := by decide +kernel
theorem dX4_sheet_48 : decode cX4_sheet 48 = .ok (.iload_n 3, 1) := by decide +kernel
theorem dX4_sheet_49 : decode cX4_sheet 49 = .ok (.bipush 40, 2) := by decide +kernel
theorem dX4_sheet_51 : decode cX4_sheet 51 = .ok (.if_icmp .le 10, 3) := by decide +kernel
theorem dX4_sheet_54 : decode cX4_sheet 54 = .ok (.aload_n 0, 1) := by decide +kernel
theorem dX4_sheet_55 : decode cX4_sheet 55 = .ok (.ldc 54, 2) := by decide +kernel
theorem dX4_sheet_57 : decode cX4_sheet 57 = .ok (.invokevirtual 55, 3) := by decide +kernel
theorem dX4_sheet_60 : decode cX4_sheet 60 = .ok (.ireturn, 1) := by decide +kernel
theorem dX4_sheet_61 : decode cX4_sheet 61 = .ok (.aload_n 0, 1) := by decide +kernel
theorem dX4_sheet_62 : decode cX4_sheet 62 = .ok (.getfield 35, 3) := by decide +kernel
theorem dX4_sheet_65 : decode cX4_sheet 65 = .ok (.iload_n 1, 1) := by decide +kernel
theorem dX4_sheet_66 : decode cX4_sheet 66 = .ok (.aaload, 1) := by decide +kernel
theorem dX4_sheet_67 : decode cX4_sheet 67 = .ok (.iload_n 2, 1) := by decide +kernel
theorem dX4_sheet_68 : decode cX4_sheet 68 = .ok (.iload_n 2, 1) := by decide +kernel
theorem dX4_sheet_69 : decode cX4_sheet 69 = .ok (.ifCond .ne 7, 3) := by decide +kernel
theorem dX4_sheet_72 : decode cX4_sheet 72 = .ok (.iconst 0, 1) := by decide +kernel
theorem dX4_sheet_73 : decode cX4_sheet 73 = .ok (.goto 4, 3) := by decide +kernel
theorem dX4_sheet_76 : decode cX4_sheet 76 = .ok (.iload_n 3, 1) := by decide +kernel
theorem dX4_sheet_77 : decode cX4_sheet 77 = .ok (.invokevirtual 276, 3) := by decide +kernel
theorem dX4_sheet_80 : decode cX4_sheet 80 = .ok (.aload_n 0, 1) := by decide +kernel
theorem dX4_sheet_81 : decode cX4_sheet 81 = .ok (.getfield 35, 3) := by decide +kernel
theorem dX4_sheet_84 : decode cX4_sheet 84 = .ok (.iload_n 1, 1) := by decide +kernel
theorem dX4_sheet_85 : decode cX4_sheet 85 = .ok (.aaload, 1) := by decide +kernel
theorem dX4_sheet_86 : decode cX4_sheet 86 = .ok (.getfield 220, 3) := by decide +kernel
theorem dX4_sheet_89 : decode cX4_sheet 89 = .ok (.ireturn, 1) := by decide +kernel
theorem dX4_write_0 : decode cX4_write 0 = .ok (.aload_n 0, 1) := by decide +kernel
theorem dX4_write_1 : decode cX4_write 1 = .ok (.iload_n 1, 1) := by decide +kernel
theorem dX4_write_2 : decode cX4_write 2 = .ok (.invokevirtual 227, 3) := by decide +kernel
theorem dX4_write_5 : decode cX4_write 5 = .ok (.istore 4, 2) := by decide +kernel
theorem dX4_write_7 : decode cX4_write 7 = .ok (.iload 4, 2) := by decide +kernel
theorem dX4_write_9 : decode cX4_write 9 = .ok (.ifCond .eq 6, 3) := by decide +kernel
theorem dX4_write_12 : decode cX4_write 12 = .ok (.iload 4, 2) := by decide +kernel
theorem dX4_write_14 : decode cX4_write 14 = .ok (.ireturn, 1) := by decide +kernel
theorem dX4_write_15 : decode cX4_write 15 = .ok (.iload_n 2, 1) := by decide +kernel
theorem dX4_write_16 : decode cX4_write 16 = .ok (.iconst 0, 1) := by decide +kernel
theorem dX4_write_17 : decode cX4_write 17 = .ok (.aload_n 0, 1) := by decide +kernel
theorem dX4_write_18 : decode cX4_write 18 = .ok (.getfield 35, 3) := by decide +kernel
theorem dX4_write_21 : decode cX4_write 21 = .ok (.iload_n 1, 1) := by decide +kernel
theorem dX4_write_22 : decode cX4_write 22 = .ok (.aaload, 1) := by decide +kernel
theorem dX4_write_23 : decode cX4_write 23 = .ok (.getfield 220, 3) := by decide +kernel
theorem dX4_write_26 : decode cX4_write 26 = .ok (.iconst 1, 1) := by decide +kernel
theorem dX4_write_27 : decode cX4_write 27 = .ok (.isub, 1) := by decide +kernel
theorem dX4_write_28 : decode cX4_write 28 = .ok (.invokestatic 88, 3) := by decide +kernel
theorem dX4_write_31 : decode cX4_write 31 = .ok (.ifCond .ne 10, 3) := by decide +kernel
theorem dX4_write_34 : decode cX4_write 34 = .ok (.aload_n 0, 1) := by decide +kernel
theorem dX4_write_35 : decode cX4_write 35 = .ok (.ldc 54, 2) := by decide +kernel
theorem dX4_write_37 : decode cX4_write 37 = .ok (.invokevirtual 55, 3) := by decide +kernel
theorem dX4_write_40 : decode cX4_write 40 = .ok (.ireturn, 1) := by decide +kernel
theorem dX4_write_41 : decode cX4_write 41 = .ok (.aload_n 0, 1) := by decide +kernel
theorem dX4_write_42 : decode cX4_write 42 = .ok (.getfield 35, 3) := by decide +kernel
theorem dX4_write_45 : decode cX4_write 45 = .ok (.iload_n 1, 1) := by decide +kernel
theorem dX4_write_46 : decode cX4_write 46 = .ok (.aaload, 1) := by decide +kernel
theorem dX4_write_47 : decode cX4_write 47 = .ok (.getfield 230, 3) := by decide +kernel
theorem dX4_write_50 : decode cX4_write 50 = .ok (.iload_n 2, 1) := by decide +kernel
theorem dX4_write_51 : decode cX4_write 51 = .ok (.aload_n 0, 1) := by decide +kernel
theorem dX4_write_52 : decode cX4_write 52 = .ok (.getfield 35, 3) := by decide +kernel
theorem dX4_write_55 : decode cX4_write 55 = .ok (.iload_n 1, 1) := by decide +kernel
theorem dX4_write_56 : decode cX4_write 56 = .ok (.aaload, 1) := by decide +kernel
theorem dX4_write_57 : decode cX4_write 57 = .ok (.iload_n 3, 1) := by decide +kernel
theorem dX4_write_58 : decode cX4_write 58 = .ok (.invokevirtual 279, 3) := by decide +kernel
theorem dX4_write_61 : decode cX4_write 61 = .ok (.iastore, 1) := by decide +kernel
theorem dX4_write_62 : decode cX4_write 62 = .ok (.iconst 1, 1) := by decide +kernel
theorem dX4_write_63 : decode cX4_write 63 = .ok (.ireturn, 1) := by decide +kernel
theorem dX4_copy_0 : decode cX4_copy 0 = .ok (.iload_n 1, 1) := by decide +kernel
theorem dX4_copy_1 : decode cX4_copy 1 = .ok (.invokestatic 272, 3) := by decide +kernel
theorem dX4_copy_4 : decode cX4_copy 4 = .ok (.ifCond .eq 10, 3) := by decide +kernel
theorem dX4_copy_7 : decode cX4_copy 7 = .ok (.iload_n 3, 1) := by decide +kernel
theorem dX4_copy_8 : decode cX4_copy 8 = .ok (.invokestatic 272, 3) := by decide +kernel
theorem dX4_copy_11 : decode cX4_copy 11 = .ok (.ifCond .ne 10, 3) := by decide +kernel
theorem dX4_copy_14 : decode cX4_copy 14 = .ok (.aload_n 0, 1) := by decide +kernel
theorem dX4_copy_15 : decode cX4_copy 15 = .ok (.ldc 54, 2) := by decide +kernel
theorem dX4_copy_17 : decode cX4_copy 17 = .ok (.invokevirtual 55, 3) := by decide +kernel
theorem dX4_copy_20 : decode cX4_copy 20 = .ok (.ireturn, 1) := by decide +kernel
theorem dX4_copy_21 : decode cX4_copy 21 = .ok (.aload_n 0, 1) := by decide +kernel
theorem dX4_copy_22 : decode cX4_copy 22 = .ok (.getfield 35, 3) := by decide +kernel
theorem dX4_copy_25 : decode cX4_copy 25 = .ok (.iload_n 1, 1) := by decide +kernel
theorem dX4_copy_26 : decode cX4_copy 26 = .ok (.aaload, 1) := by decide +kernel
theorem dX4_copy_27 : decode cX4_copy 27 = .ok (.astore 6, 2) := by decide +kernel
theorem dX4_copy_29 : decode cX4_copy 29 = .ok (.aload_n 0, 1) := by decide +kernel
theorem dX4_copy_30 : decode cX4_copy 30 = .ok (.getfield 35, 3) := by decide +kernel
theorem dX4_copy_33 : decode cX4_copy 33 = .ok (.iload_n 3, 1) := by decide +kernel
theorem dX4_copy_34 : decode cX4_copy 34 = .ok (.aaload, 1) := by decide +kernel
theorem dX4_copy_35 : decode cX4_copy 35 = .ok (.astore 7, 2) := by decide +kernel
theorem dX4_copy_37 : decode cX4_copy 37 = .ok (.aload 6, 2) := by decide +kernel
theorem dX4_copy_39 : decode cX4_copy 39 = .ok (.invokevirtual 282, 3) := by decide +kernel
theorem dX4_copy_42 : decode cX4_copy 42 = .ok (.ifCond .ne 11, 3) := by decide +kernel
theorem dX4_copy_45 : decode cX4_copy 45 = .ok (.aload 7, 2) := by decide +kernel
theorem dX4_copy_47 : decode cX4_copy 47 = .ok (.invokevirtual 282, 3) := by decide +kernel
theorem dX4_copy_50 : decode cX4_copy 50 = .ok (.ifCond .eq 11, 3) := by decide +kernel
theorem dX4_copy_53 : decode cX4_copy 53 = .ok (.aload_n 0, 1) := by decide +kernel
theorem dX4_copy_54 : decode cX4_copy 54 = .ok (.ldc_w 267, 3) := by decide +kernel
theorem dX4_copy_57 : decode cX4_copy 57 = .ok (.invokevirtual 55, 3) := by decide +kernel
theorem dX4_copy_60 : decode cX4_copy 60 = .ok (.ireturn, 1) := by decide +kernel
theorem dX4_copy_61 : decode cX4_copy 61 = .ok (.aload 6, 2) := by decide +kernel
theorem dX4_copy_63 : decode cX4_copy 63 = .ok (.getfield 286, 3) := by decide +kernel
theorem dX4_copy_66 : decode cX4_copy 66 = .ok (.aload 7, 2) := by decide +kernel
theorem dX4_copy_68 : decode cX4_copy 68 = .ok (.getfield 286, 3) := by decide +kernel
theorem dX4_copy_71 : decode cX4_copy 71 = .ok (.if_icmp .eq 11, 3) := by decide +kernel
theorem dX4_copy_74 : decode cX4_copy 74 = .ok (.aload_n 0, 1) := by decide +kernel
theorem dX4_copy_75 : decode cX4_copy 75 = .ok (.ldc_w 271, 3) := by decide +kernel
theorem dX4_copy_78 : decode cX4_copy 78 = .ok (.invokevirtual 55, 3) := by decide +kernel
theorem dX4_copy_81 : decode cX4_copy 81 = .ok (.ireturn, 1) := by decide +kernel
theorem dX4_copy_82 : decode cX4_copy 82 = .ok (.aload 6, 2) := by decide +kernel
theorem dX4_copy_84 : decode cX4_copy 84 = .ok (.iload_n 2, 1) := by decide +kernel
theorem dX4_copy_85 : decode cX4_copy 85 = .ok (.iload 5, 2) := by decide +kernel
theorem dX4_copy_87 : decode cX4_copy 87 = .ok (.invokevirtual 289, 3) := by decide +kernel
theorem dX4_copy_90 : decode cX4_copy 90 = .ok (.ifCond .eq 15, 3) := by decide +kernel
theorem dX4_copy_93 : decode cX4_copy 93 = .ok (.aload 7, 2) := by decide +kernel
theorem dX4_copy_95 : decode cX4_copy 95 = .ok (.iload 4, 2) := by decide +kernel
theorem dX4_copy_97 : decode cX4_copy 97 = .ok (.iload 5, 2) := by decide +kernel
theorem dX4_copy_99 : decode cX4_copy 99 = .ok (.invokevirtual 289, 3) := by decide +kernel
theorem dX4_copy_102 : decode cX4_copy 102 = .ok (.ifCond .ne 10, 3) := by decide +kernel
theorem dX4_copy_105 : decode cX4_copy 105 = .ok (.aload_n 0, 1) := by decide +kernel
theorem dX4_copy_106 : decode cX4_copy 106 = .ok (.ldc 54, 2) := by decide +kernel
theorem dX4_copy_108 : decode cX4_copy 108 = .ok (.invokevirtual 55, 3) := by decide +kernel
theorem dX4_copy_111 : decode cX4_copy 111 = .ok (.ireturn, 1) := by decide +kernel
theorem dX4_copy_112 : decode cX4_copy 112 = .ok (.aload 6, 2) := by decide +kernel
theorem dX4_copy_114 : decode cX4_copy 114 = .ok (.getfield 230, 3) := by decide +kernel
theorem dX4_copy_117 : decode cX4_copy 117 = .ok (.iload_n 2, 1) := by decide +kernel
theorem dX4_copy_118 : decode cX4_copy 118 = .ok (.aload 7, 2) := by decide +kernel
theorem dX4_copy_120 : decode cX4_copy 120 = .ok (.getfield 230, 3) := by decide +kernel
theorem dX4_copy_123 : decode cX4_copy 123 = .ok (.iload 4, 2) := by decide +kernel
theorem dX4_copy_125 : decode cX4_copy 125 = .ok (.iload 5, 2) := by decide +kernel
theorem dX4_copy_127 : decode cX4_copy 127 = .ok (.invokestatic 167, 3) := by decide +kernel
theorem dX4_copy_130 : decode cX4_copy 130 = .ok (.iload 5, 2) := by decide +kernel
theorem dX4_copy_132 : decode cX4_copy 132 = .ok (.ireturn, 1) := by decide +kernel
theorem dX4_load_0 : decode cX4_load 0 = .ok (.aload_n 0, 1) := by decide +kernel
theorem dX4_load_1 : decode cX4_load 1 = .ok (.iload_n 1, 1) := by decide +kernel
theorem dX4_load_2 : decode cX4_load 2 = .ok (.invokevirtual 227, 3) := by decide +kernel
theorem dX4_load_5 : decode cX4_load 5 = .ok (.istore_n 2, 1) := by decide +kernel
theorem dX4_load_6 : decode cX4_load 6 = .ok (.iload_n 2, 1) := by decide +kernel
theorem dX4_load_7 : decode cX4_load 7 = .ok (.ifCond .eq 5, 3) := by decide +kernel
theorem dX4_load_10 : decode cX4_load 10 = .ok (.iload_n 2, 1) := by decide +kernel
theorem dX4_load_11 : decode cX4_load 11 = .ok (.ireturn, 1) := by decide +kernel
theorem dX4_load_12 : decode cX4_load 12 = .ok (.iconst 0, 1) := by decide +kernel
theorem dX4_load_13 : decode cX4_load 13 = .ok (.istore_n 3, 1) := by decide +kernel
theorem dX4_load_14 : decode cX4_load 14 = .ok (.iconst 0, 1) := by decide +kernel
theorem dX4_load_15 : decode cX4_load 15 = .ok (.istore 4, 2) := by decide +kernel
theorem dX4_load_17 : decode cX4_load 17 = .ok (.iload 4, 2) := by decide +kernel
theorem dX4_load_19 : decode cX4_load 19 = .ok (.aload_n 0, 1) := by decide +kernel
theorem dX4_load_20 : decode cX4_load 20 = .ok (.getfield 35, 3) := by decide +kernel
theorem dX4_load_23 : decode cX4_load 23 = .ok (.iload_n 1, 1) := by decide +kernel
theorem dX4_load_24 : decode cX4_load 24 = .ok (.aaload, 1) := by decide +kernel
theorem dX4_load_25 : decode cX4_load 25 = .ok (.getfield 220, 3) := by decide +kernel
theorem dX4_load_28 : decode cX4_load 28 = .ok (.if_icmp .ge 64, 3) := by decide +kernel
theorem dX4_load_31 : decode cX4_load 31 = .ok (.iload 4, 2) := by decide +kernel
theorem dX4_load_33 : decode cX4_load 33 = .ok (.aload_n 0, 1) := by decide +kernel
theorem dX4_load_34 : decode cX4_load 34 = .ok (.getfield 12, 3) := by decide +kernel
theorem dX4_load_37 : decode cX4_load 37 = .ok (.getfield 59, 3) := by decide +kernel
theorem dX4_load_40 : decode cX4_load 40 = .ok (.if_icmp .ge 52, 3) := by decide +kernel
theorem dX4_load_43 : decode cX4_load 43 = .ok (.aload_n 0, 1) := by decide +kernel
theorem dX4_load_44 : decode cX4_load 44 = .ok (.getfield 35, 3) := by decide +kernel
theorem dX4_load_47 : decode cX4_load 47 = .ok (.iload_n 1, 1) := by decide +kernel
theorem dX4_load_48 : decode cX4_load 48 = .ok (.aaload, 1) := by decide +kernel
theorem dX4_load_49 : decode cX4_load 49 = .ok (.getfield 230, 3) := by decide +kernel
theorem dX4_load_52 : decode cX4_load 52 = .ok (.iload 4, 2) := by decide +kernel
theorem dX4_load_54 : decode cX4_load 54 = .ok (.iaload, 1) := by decide +kernel
theorem dX4_load_55 : decode cX4_load 55 = .ok (.istore 5, 2) := by decide +kernel
theorem dX4_load_57 : decode cX4_load 57 = .ok (.iload 5, 2) := by decide +kernel
theorem dX4_load_59 : decode cX4_load 59 = .ok (.iconst 0, 1) := by decide +kernel
theorem dX4_load_60 : decode cX4_load 60 = .ok (.bipush 99, 2) := by decide +kernel
theorem dX4_load_62 : decode cX4_load 62 = .ok (.invokestatic 88, 3) := by decide +kernel
theorem dX4_load_65 : decode cX4_load 65 = .ok (.ifCond .ne 6, 3) := by decide +kernel
theorem dX4_load_68 : decode cX4_load 68 = .ok (.goto 24, 3) := by decide +kernel
theorem dX4_load_71 : decode cX4_load 71 = .ok (.aload_n 0, 1) := by decide +kernel
theorem dX4_load_72 : decode cX4_load 72 = .ok (.getfield 12, 3) := by decide +kernel
theorem dX4_load_75 : decode cX4_load 75 = .ok (.getfield 74, 3) := by decide +kernel
theorem dX4_load_78 : decode cX4_load 78 = .ok (.iload 4, 2) := by decide +kernel
theorem dX4_load_80 : decode cX4_load 80 = .ok (.iload 5, 2) := by decide +kernel
theorem dX4_load_82 : decode cX4_load 82 = .ok (.iastore, 1) := by decide +kernel
theorem dX4_load_83 : decode cX4_load 83 = .ok (.iinc 3 1, 3) := by decide +kernel
theorem dX4_load_86 : decode cX4_load 86 = .ok (.iinc 4 1, 3) := by decide +kernel
theorem dX4_load_89 : decode cX4_load 89 = .ok (.goto (-72), 3) := by decide +kernel
theorem dX4_load_92 : decode cX4_load 92 = .ok (.iload_n 3, 1) := by decide +kernel
theorem dX4_load_93 : decode cX4_load 93 = .ok (.ireturn, 1) := by decide +kernel
theorem dX4_judge_0 : decode cX4_judge 0 = .ok (.aload_n 0, 1) := by decide +kernel
theorem dX4_judge_1 : decode cX4_judge 1 = .ok (.iload_n 1, 1) := by decide +kernel
theorem dX4_judge_2 : decode cX4_judge 2 = .ok (.invokevirtual 227, 3) := by decide +kernel
theorem dX4_judge_5 : decode cX4_judge 5 = .ok (.istore_n 2, 1) := by decide +kernel
theorem dX4_judge_6 : decode cX4_judge 6 = .ok (.iload_n 2, 1) := by decide +kernel
theorem dX4_judge_7 : decode cX4_judge 7 = .ok (.ifCond .eq 5, 3) := by decide +kernel
theorem dX4_judge_10 : decode cX4_judge 10 = .ok (.iload_n 2, 1) := by decide +kernel
theorem dX4_judge_11 : decode cX4_judge 11 = .ok (.ireturn, 1) := by decide +kernel
theorem dX4_judge_12 : decode cX4_judge 12 = .ok (.aload_n 0, 1) := by decide +kernel
theorem dX4_judge_13 : decode cX4_judge 13 = .ok (.getfield 12, 3) := by decide +kernel
theorem dX4_judge_16 : decode cX4_judge 16 = .ok (.getfield 95, 3) := by decide +kernel
theorem dX4_judge_19 : decode cX4_judge 19 = .ok (.iconst 0, 1) := by decide +kernel
theorem dX4_judge_20 : decode cX4_judge 20 = .ok (.iaload, 1) := by decide +kernel
theorem dX4_judge_21 : decode cX4_judge 21 = .ok (.istore_n 3, 1) := by decide +kernel
theorem dX4_judge_22 : decode cX4_judge 22 = .ok (.iconst 0, 1) := by decide +kernel
theorem dX4_judge_23 : decode cX4_judge 23 = .ok (.istore 4, 2) := by decide +kernel
theorem dX4_judge_25 : decode cX4_judge 25 = .ok (.iload 4, 2) := by decide +kernel
theorem dX4_judge_27 : decode cX4_judge 27 = .ok (.aload_n 0, 1) := by decide +kernel
theorem dX4_judge_28 : decode cX4_judge 28 = .ok (.getfield 35, 3) := by decide +kernel
theorem dX4_judge_31 : decode cX4_judge 31 = .ok (.iload_n 1, 1) := by decide +kernel
theorem dX4_judge_32 : decode cX4_judge 32 = .ok (.aaload, 1) := by decide +kernel
theorem dX4_judge_33 : decode cX4_judge 33 = .ok (.getfield 220, 3) := by decide +kernel
theorem dX4_judge_36 : decode cX4_judge 36 = .ok (.if_icmp .ge 42, 3) := by decide +kernel
theorem dX4_judge_39 : decode cX4_judge 39 = .ok (.aload_n 0, 1) := by decide +kernel
theorem dX4_judge_40 : decode cX4_judge 40 = .ok (.getfield 35, 3) := by decide +kernel
theorem dX4_judge_43 : decode cX4_judge 43 = .ok (.iload_n 1, 1) := by decide +kernel
theorem dX4_judge_44 : decode cX4_judge 44 = .ok (.aaload, 1) := by decide +kernel
theorem dX4_judge_45 : decode cX4_judge 45 = .ok (.getfield 230, 3) := by decide +kernel
theorem dX4_judge_48 : decode cX4_judge 48 = .ok (.iload 4, 2) := by decide +kernel
theorem dX4_judge_50 : decode cX4_judge 50 = .ok (.iaload, 1) := by decide +kernel
theorem dX4_judge_51 : decode cX4_judge 51 = .ok (.iload_n 3, 1) := by decide +kernel
theorem dX4_judge_52 : decode cX4_judge 52 = .ok (.if_icmp .eq 8, 3) := by decide +kernel
theorem dX4_judge_55 : decode cX4_judge 55 = .ok (.iconst 1, 1) := by decide +kernel
theorem dX4_judge_56 : decode cX4_judge 56 = .ok (.iload 4, 2) := by decide +kernel
theorem dX4_judge_58 : decode cX4_judge 58 = .ok (.iadd, 1) := by decide +kernel
theorem dX4_judge_59 : decode cX4_judge 59 = .ok (.ireturn, 1) := by decide +kernel
theorem dX4_judge_60 : decode cX4_judge 60 = .ok (.aload_n 0, 1) := by decide +kernel
theorem dX4_judge_61 : decode cX4_judge 61 = .ok (.getfield 12, 3) := by decide +kernel
theorem dX4_judge_64 : decode cX4_judge 64 = .ok (.iconst 0, 1) := by decide +kernel
theorem dX4_judge_65 : decode cX4_judge 65 = .ok (.iload_n 3, 1) := by decide +kernel
theorem dX4_judge_66 : decode cX4_judge 66 = .ok (.iload 4, 2) := by decide +kernel
theorem dX4_judge_68 : decode cX4_judge 68 = .ok (.invokevirtual 110, 3) := by decide +kernel
theorem dX4_judge_71 : decode cX4_judge 71 = .ok (.istore_n 3, 1) := by decide +kernel
theorem dX4_judge_72 : decode cX4_judge 72 = .ok (.iinc 4 1, 3) := by decide +kernel
theorem dX4_judge_75 : decode cX4_judge 75 = .ok (.goto (-50), 3) := by decide +kernel
theorem dX4_judge_78 : decode cX4_judge 78 = .ok (.iconst 0, 1) := by decide +kernel
theorem dX4_judge_79 : decode cX4_judge 79 = .ok (.ireturn, 1) := by decide +kernel
theorem dX4_wrongSheet_0 : decode cX4_wrongSheet 0 = .ok (.iload_n 1, 1) := by decide +kernel
theorem dX4_wrongSheet_1 : decode cX4_wrongSheet 1 = .ok (.invokestatic 272, 3) := by decide +kernel
theorem dX4_wrongSheet_4 : decode cX4_wrongSheet 4 = .ok (.ifCond .ne 10, 3) := by decide +kernel
theorem dX4_wrongSheet_7 : decode cX4_wrongSheet 7 = .ok (.aload_n 0, 1) := by decide +kernel
theorem dX4_wrongSheet_8 : decode cX4_wrongSheet 8 = .ok (.ldc 54, 2) := by decide +kernel
theorem dX4_wrongSheet_10 : decode cX4_wrongSheet 10 = .ok (.invokevirtual 55, 3) := by decide +kernel
theorem dX4_wrongSheet_13 : decode cX4_wrongSheet 13 = .ok (.ireturn, 1) := by decide +kernel
theorem dX4_wrongSheet_14 : decode cX4_wrongSheet 14 = .ok (.aload_n 0, 1) := by decide +kernel
theorem dX4_wrongSheet_15 : decode cX4_wrongSheet 15 = .ok (.getfield 35, 3) := by decide +kernel
theorem dX4_wrongSheet_18 : decode cX4_wrongSheet 18 = .ok (.iload_n 1, 1) := by decide +kernel
theorem dX4_wrongSheet_19 : decode cX4_wrongSheet 19 = .ok (.aaload, 1) := by decide +kernel
theorem dX4_wrongSheet_20 : decode cX4_wrongSheet 20 = .ok (.invokevirtual 282, 3) := by decide +kernel
theorem dX4_wrongSheet_23 : decode cX4_wrongSheet 23 = .ok (.ifCond .eq 13, 3) := by decide +kernel
theorem dX4_wrongSheet_26 : decode cX4_wrongSheet 26 = .ok (.aload_n 0, 1) := by decide +kernel
theorem dX4_wrongSheet_27 : decode cX4_wrongSheet 27 = .ok (.ldc_w 267, 3) := by decide +kernel
theorem dX4_wrongSheet_30 : decode cX4_wrongSheet 30 = .ok (.invokevirtual 55, 3) := by decide +kernel
theorem dX4_wrongSheet_33 : decode cX4_wrongSheet 33 = .ok (.goto 4, 3) := by decide +kernel
theorem dX4_wrongSheet_36 : decode cX4_wrongSheet 36 = .ok (.iconst 0, 1) := by decide +kernel
theorem dX4_wrongSheet_37 : decode cX4_wrongSheet 37 = .ok (.ireturn, 1) := by decide +kernel
theorem dX4_image_0 : decode cX4_image 0 = .ok (.aload_n 0, 1) := by decide +kernel
theorem dX4_image_1 : decode cX4_image 1 = .ok (.getfield 16, 3) := by decide +kernel
theorem dX4_image_4 : decode cX4_image 4 = .ok (.aload_n 0, 1) := by decide +kernel
theorem dX4_image_5 : decode cX4_image 5 = .ok (.getfield 12, 3) := by decide +kernel
theorem dX4_image_8 : decode cX4_image 8 = .ok (.invokevirtual 292, 3) := by decide +kernel
theorem dX4_image_11 : decode cX4_image 11 = .ok (.aload_n 0, 1) := by decide +kernel
theorem dX4_image_12 : decode cX4_image 12 = .ok (.iconst 1, 1) := by decide +kernel
theorem dX4_image_13 : decode cX4_image 13 = .ok (.putfield 296, 3) := by decide +kernel
theorem dX4_image_16 : decode cX4_image 16 = .ok (.iconst 1, 1) := by decide +kernel
theorem dX4_image_17 : decode cX4_image 17 = .ok (.ireturn, 1) := by decide +kernel
theorem dX4_undo_0 : decode cX4_undo 0 = .ok (.aload_n 0, 1) := by decide +kernel
theorem dX4_undo_1 : decode cX4_undo 1 = .ok (.getfield 296, 3) := by decide +kernel
theorem dX4_undo_4 : decode cX4_undo 4 = .ok (.ifCond .ne 10, 3) := by decide +kernel
theorem dX4_undo_7 : decode cX4_undo 7 = .ok (.aload_n 0, 1) := by decide +kernel
theorem dX4_undo_8 : decode cX4_undo 8 = .ok (.ldc 166, 2) := by decide +kernel
theorem dX4_undo_10 : decode cX4_undo 10 = .ok (.invokevirtual 55, 3) := by decide +kernel
theorem dX4_undo_13 : decode cX4_undo 13 = .ok (.ireturn, 1) := by decide +kernel
theorem dX4_undo_14 : decode cX4_undo 14 = .ok (.aload_n 0, 1) := by decide +kernel
theorem dX4_undo_15 : decode cX4_undo 15 = .ok (.getfield 12, 3) := by decide +kernel
theorem dX4_undo_18 : decode cX4_undo 18 = .ok (.aload_n 0, 1) := by decide +kernel
theorem dX4_undo_19 : decode cX4_undo 19 = .ok (.getfield 16, 3) := by decide +kernel
theorem dX4_undo_22 : decode cX4_undo 22 = .ok (.invokevirtual 292, 3) := by decide +kernel
theorem dX4_undo_25 : decode cX4_undo 25 = .ok (.aload_n 0, 1) := by decide +kernel
theorem dX4_undo_26 : decode cX4_undo 26 = .ok (.getfield 12, 3) := by decide +kernel
theorem dX4_undo_29 : decode cX4_undo 29 = .ok (.getfield 136, 3) := by decide +kernel
theorem dX4_undo_32 : decode cX4_undo 32 = .ok (.ireturn, 1) := by decide +kernel
theorem dX4_tear_0 : decode cX4_tear 0 = .ok (.aload_n 0, 1) := by decide +kernel
theorem dX4_tear_1 : decode cX4_tear 1 = .ok (.getfield 296, 3) := by decide +kernel
theorem dX4_tear_4 : decode cX4_tear 4 = .ok (.ifCond .eq 7, 3) := by decide +kernel
theorem dX4_tear_7 : decode cX4_tear 7 = .ok (.iconst 1, 1) := by decide +kernel
theorem dX4_tear_8 : decode cX4_tear 8 = .ok (.goto 4, 3) := by decide +kernel
theorem dX4_tear_11 : decode cX4_tear 11 = .ok (.iconst 0, 1) := by decide +kernel
theorem dX4_tear_12 : decode cX4_tear 12 = .ok (.istore_n 1, 1) := by decide +kernel
theorem dX4_tear_13 : decode cX4_tear 13 = .ok (.aload_n 0, 1) := by decide +kernel
theorem dX4_tear_14 : decode cX4_tear 14 = .ok (.iconst 0, 1) := by decide +kernel
theorem dX4_tear_15 : decode cX4_tear 15 = .ok (.putfield 296, 3) := by decide +kernel
theorem dX4_tear_18 : decode cX4_tear 18 = .ok (.iload_n 1, 1) := by decide +kernel
theorem dX4_tear_19 : decode cX4_tear 19 = .ok (.ireturn, 1) := by decide +kernel
theorem dX4_count_0 : decode cX4_count 0 = .ok (.iload_n 1, 1) := by decide +kernel
theorem dX4_count_1 : decode cX4_count 1 = .ok (.tableswitch 114 0 7 #[47, 55, 63, 71, 82, 90, 98, 106], 47) := by decide +kernel
theorem dX4_count_48 : decode cX4_count 48 = .ok (.aload_n 0, 1) := by decide +kernel
theorem dX4_count_49 : decode cX4_count 49 = .ok (.getfield 12, 3) := by decide +kernel
theorem dX4_count_52 : decode cX4_count 52 = .ok (.getfield 136, 3) := by decide +kernel
theorem dX4_count_55 : decode cX4_count 55 = .ok (.ireturn, 1) := by decide +kernel
theorem dX4_count_56 : decode cX4_count 56 = .ok (.aload_n 0, 1) := by decide +kernel
theorem dX4_count_57 : decode cX4_count 57 = .ok (.getfield 12, 3) := by decide +kernel
theorem dX4_count_60 : decode cX4_count 60 = .ok (.getfield 59, 3) := by decide +kernel
theorem dX4_count_63 : decode cX4_count 63 = .ok (.ireturn, 1) := by decide +kernel
theorem dX4_count_64 : decode cX4_count 64 = .ok (.aload_n 0, 1) := by decide +kernel
theorem dX4_count_65 : decode cX4_count 65 = .ok (.getfield 12, 3) := by decide +kernel
theorem dX4_count_68 : decode cX4_count 68 = .ok (.invokevirtual 160, 3) := by decide +kernel
theorem dX4_count_71 : decode cX4_count 71 = .ok (.ireturn, 1) := by decide +kernel
theorem dX4_count_72 : decode cX4_count 72 = .ok (.aload_n 0, 1) := by decide +kernel
theorem dX4_count_73 : decode cX4_count 73 = .ok (.getfield 12, 3) := by decide +kernel
theorem dX4_count_76 : decode cX4_count 76 = .ok (.invokevirtual 144, 3) := by decide +kernel
theorem dX4_count_79 : decode cX4_count 79 = .ok (.invokestatic 148, 3) := by decide +kernel
theorem dX4_count_82 : decode cX4_count 82 = .ok (.ireturn, 1) := by decide +kernel
theorem dX4_count_83 : decode cX4_count 83 = .ok (.aload_n 0, 1) := by decide +kernel
theorem dX4_count_84 : decode cX4_count 84 = .ok (.getfield 12, 3) := by decide +kernel
theorem dX4_count_87 : decode cX4_count 87 = .ok (.invokevirtual 300, 3) := by decide +kernel
theorem dX4_count_90 : decode cX4_count 90 = .ok (.ireturn, 1) := by decide +kernel
theorem dX4_count_91 : decode cX4_count 91 = .ok (.aload_n 0, 1) := by decide +kernel
theorem dX4_count_92 : decode cX4_count 92 = .ok (.getfield 22, 3) := by decide +kernel
theorem dX4_count_95 : decode cX4_count 95 = .ok (.getfield 246, 3) := by decide +kernel
theorem dX4_count_98 : decode cX4_count 98 = .ok (.ireturn, 1) := by decide +kernel
theorem dX4_count_99 : decode cX4_count 99 = .ok (.aload_n 0, 1) := by decide +kernel
theorem dX4_count_100 : decode cX4_count 100 = .ok (.getfield 12, 3) := by decide +kernel
theorem dX4_count_103 : decode cX4_count 103 = .ok (.getfield 243, 3) := by decide +kernel
theorem dX4_count_106 : decode cX4_count 106 = .ok (.ireturn, 1) := by decide +kernel
theorem dX4_count_107 : decode cX4_count 107 = .ok (.aload_n 0, 1) := by decide +kernel
theorem dX4_count_108 : decode cX4_count 108 = .ok (.getfield 12, 3) := by decide +kernel
theorem dX4_count_111 : decode cX4_count 111 = .ok (.invokevirtual 303, 3) := by decide +kernel
theorem dX4_count_114 : decode cX4_count 114 = .ok (.ireturn, 1) := by decide +kernel
theorem dX4_count_115 : decode cX4_count 115 = .ok (.aload_n 0, 1) := by decide +kernel
theorem dX4_count_116 : decode cX4_count 116 = .ok (.ldc 54, 2) := by decide +kernel
theorem dX4_count_118 : decode cX4_count 118 = .ok (.invokevirtual 55, 3) := by decide +kernel
theorem dX4_count_121 : decode cX4_count 121 = .ok (.ireturn, 1) := by decide +kernel
theorem dX4_status_0 : decode cX4_status 0 = .ok (.iload_n 1, 1) := by decide +kernel
theorem dX4_status_1 : decode cX4_status 1 = .ok (.iconst (-1), 1) := by decide +kernel
theorem dX4_status_2 : decode cX4_status 2 = .ok (.bipush 6, 2) := by decide +kernel
theorem dX4_status_4 : decode cX4_status 4 = .ok (.invokestatic 88, 3) := by decide +kernel
theorem dX4_status_7 : decode cX4_status 7 = .ok (.ifCond .ne 10, 3) := by decide +kernel
theorem dX4_status_10 : decode cX4_status 10 = .ok (.aload_n 0, 1) := by decide +kernel
theorem dX4_status_11 : decode cX4_status 11 = .ok (.ldc 54, 2) := by decide +kernel
theorem dX4_status_13 : decode cX4_status 13 = .ok (.invokevirtual 55, 3) := by decide +kernel
theorem dX4_status_16 : decode cX4_status 16 = .ok (.ireturn, 1) := by decide +kernel
theorem dX4_status_17 : decode cX4_status 17 = .ok (.iload_n 1, 1) := by decide +kernel
theorem dX4_status_18 : decode cX4_status 18 = .ok (.ifCond .lt 10, 3) := by decide +kernel
theorem dX4_status_21 : decode cX4_status 21 = .ok (.aload_n 0, 1) := by decide +kernel
theorem dX4_status_22 : decode cX4_status 22 = .ok (.getfield 39, 3) := by decide +kernel
theorem dX4_status_25 : decode cX4_status 25 = .ok (.iload_n 1, 1) := by decide +kernel
theorem dX4_status_26 : decode cX4_status 26 = .ok (.iaload, 1) := by decide +kernel
theorem dX4_status_27 : decode cX4_status 27 = .ok (.ireturn, 1) := by decide +kernel
theorem dX4_status_28 : decode cX4_status 28 = .ok (.iconst 0, 1) := by decide +kernel
theorem dX4_status_29 : decode cX4_status 29 = .ok (.istore_n 2, 1) := by decide +kernel
theorem dX4_status_30 : decode cX4_status 30 = .ok (.iconst 0, 1) := by decide +kernel
theorem dX4_status_31 : decode cX4_status 31 = .ok (.istore_n 3, 1) := by decide +kernel
theorem dX4_status_32 : decode cX4_status 32 = .ok (.iload_n 3, 1) := by decide +kernel
theorem dX4_status_33 : decode cX4_status 33 = .ok (.bipush 7, 2) := by decide +kernel
theorem dX4_status_35 : decode cX4_status 35 = .ok (.if_icmp .ge 18, 3) := by decide +kernel
theorem dX4_status_38 : decode cX4_status 38 = .ok (.iload_n 2, 1) := by decide +kernel
theorem dX4_status_39 : decode cX4_status 39 = .ok (.aload_n 0, 1) := by decide +kernel
theorem dX4_status_40 : decode cX4_status 40 = .ok (.getfield 39, 3) := by decide +kernel
theorem dX4_status_43 : decode cX4_status 43 = .ok (.iload_n 3, 1) := by decide +kernel
theorem dX4_status_44 : decode cX4_status 44 = .ok (.iaload, 1) := by decide +kernel
theorem dX4_status_45 : decode cX4_status 45 = .ok (.iadd, 1) := by decide +kernel
theorem dX4_status_46 : decode cX4_status 46 = .ok (.istore_n 2, 1) := by decide +kernel
theorem dX4_status_47 : decode cX4_status 47 = .ok (.iinc 3 1, 3) := by decide +kernel
theorem dX4_status_50 : decode cX4_status 50 = .ok (.goto (-18), 3) := by decide +kernel
theorem dX4_status_53 : decode cX4_status 53 = .ok (.iload_n 2, 1) := by decide +kernel
theorem dX4_status_54 : decode cX4_status 54 = .ok (.ireturn, 1) := by decide +kernel
theorem dX4_finding_0 : decode cX4_finding 0 = .ok (.ldc 54, 2) := by decide +kernel
theorem dX4_finding_2 : decode cX4_finding 2 = .ok (.iload_n 1, 1) := by decide +kernel
theorem dX4_finding_3 : decode cX4_finding 3 = .ok (.isub, 1) := by decide +kernel
theorem dX4_finding_4 : decode cX4_finding 4 = .ok (.istore_n 2, 1) := by decide +kernel
theorem dX4_finding_5 : decode cX4_finding 5 = .ok (.iload_n 2, 1) := by decide +kernel
theorem dX4_finding_6 : decode cX4_finding 6 = .ok (.ifCond .lt 19, 3) := by decide +kernel
theorem dX4_finding_9 : decode cX4_finding 9 = .ok (.iload_n 2, 1) := by decide +kernel
theorem dX4_finding_10 : decode cX4_finding 10 = .ok (.bipush 7, 2) := by decide +kernel
theorem dX4_finding_12 : decode cX4_finding 12 = .ok (.if_icmp .ge 13, 3) := by decide +kernel
theorem dX4_finding_15 : decode cX4_finding 15 = .ok (.aload_n 0, 1) := by decide +kernel
theorem dX4_finding_16 : decode cX4_finding 16 = .ok (.getfield 39, 3) := by decide +kernel
theorem dX4_finding_19 : decode cX4_finding 19 = .ok (.iload_n 2, 1) := by decide +kernel
theorem dX4_finding_20 : decode cX4_finding 20 = .ok (.dup2, 1) := by decide +kernel
theorem dX4_finding_21 : decode cX4_finding 21 = .ok (.iaload, 1) := by decide +kernel
theorem dX4_finding_22 : decode cX4_finding 22 = .ok (.iconst 1, 1) := by decide +kernel
theorem dX4_finding_23 : decode cX4_finding 23 = .ok (.iadd, 1) := by decide +kernel
theorem dX4_finding_24 : decode cX4_finding 24 = .ok (.iastore, 1) := by decide +kernel
theorem dX4_finding_25 : decode cX4_finding 25 = .ok (.iload_n 1, 1) := by decide +kernel
theorem dX4_finding_26 : decode cX4_finding 26 = .ok (.ireturn, 1) := by decide +kernel
theorem dX4_isCat_0 : decode cX4_isCat 0 = .ok (.iload_n 1, 1) := by decide +kernel
theorem dX4_isCat_1 : decode cX4_isCat 1 = .ok (.iconst 0, 1) := by decide +kernel
theorem dX4_isCat_2 : decode cX4_isCat 2 = .ok (.aload_n 0, 1) := by decide +kernel
theorem dX4_isCat_3 : decode cX4_isCat 3 = .ok (.getfield 12, 3) := by decide +kernel
theorem dX4_isCat_6 : decode cX4_isCat 6 = .ok (.getfield 59, 3) := by decide +kernel
theorem dX4_isCat_9 : decode cX4_isCat 9 = .ok (.iconst 1, 1) := by decide +kernel
theorem dX4_isCat_10 : decode cX4_isCat 10 = .ok (.isub, 1) := by decide +kernel
theorem dX4_isCat_11 : decode cX4_isCat 11 = .ok (.invokestatic 88, 3) := by decide +kernel
theorem dX4_isCat_14 : decode cX4_isCat 14 = .ok (.ireturn, 1) := by decide +kernel
theorem dX4_isSetOfCats_0 : decode cX4_isSetOfCats 0 = .ok (.iload_n 1, 1) := by decide +kernel
theorem dX4_isSetOfCats_1 : decode cX4_isSetOfCats 1 = .ok (.iconst 0, 1) := by decide +kernel
theorem dX4_isSetOfCats_2 : decode cX4_isSetOfCats 2 = .ok (.iconst 1, 1) := by decide +kernel
theorem dX4_isSetOfCats_3 : decode cX4_isSetOfCats 3 = .ok (.aload_n 0, 1) := by decide +kernel
theorem dX4_isSetOfCats_4 : decode cX4_isSetOfCats 4 = .ok (.getfield 12, 3) := by decide +kernel
theorem dX4_isSetOfCats_7 : decode cX4_isSetOfCats 7 = .ok (.getfield 59, 3) := by decide +kernel
theorem dX4_isSetOfCats_10 : decode cX4_isSetOfCats 10 = .ok (.ishl, 1) := by decide +kernel
theorem dX4_isSetOfCats_11 : decode cX4_isSetOfCats 11 = .ok (.iconst 1, 1) := by decide +kernel
theorem dX4_isSetOfCats_12 : decode cX4_isSetOfCats 12 = .ok (.isub, 1) := by decide +kernel
theorem dX4_isSetOfCats_13 : decode cX4_isSetOfCats 13 = .ok (.invokestatic 88, 3) := by decide +kernel
theorem dX4_isSetOfCats_16 : decode cX4_isSetOfCats 16 = .ok (.ireturn, 1) := by decide +kernel
theorem dX4_isShip_0 : decode cX4_isShip 0 = .ok (.iload_n 0, 1) := by decide +kernel
theorem dX4_isShip_1 : decode cX4_isShip 1 = .ok (.iconst 0, 1) := by decide +kernel
theorem dX4_isShip_2 : decode cX4_isShip 2 = .ok (.iconst 3, 1) := by decide +kernel
theorem dX4_isShip_3 : decode cX4_isShip 3 = .ok (.invokestatic 88, 3) := by decide +kernel
theorem dX4_isShip_6 : decode cX4_isShip 6 = .ok (.ireturn, 1) := by decide +kernel
theorem dX4_isCell_0 : decode cX4_isCell 0 = .ok (.iload_n 0, 1) := by decide +kernel
theorem dX4_isCell_1 : decode cX4_isCell 1 = .ok (.iconst 0, 1) := by decide +kernel
theorem dX4_isCell_2 : decode cX4_isCell 2 = .ok (.bipush 99, 2) := by decide +kernel
theorem dX4_isCell_4 : decode cX4_isCell 4 = .ok (.invokestatic 88, 3) := by decide +kernel
theorem dX4_isCell_7 : decode cX4_isCell 7 = .ok (.ireturn, 1) := by decide +kernel
theorem dX4_isKind_0 : decode cX4_isKind 0 = .ok (.iload_n 0, 1) := by decide +kernel
theorem dX4_isKind_1 : decode cX4_isKind 1 = .ok (.iconst 0, 1) := by decide +kernel
theorem dX4_isKind_2 : decode cX4_isKind 2 = .ok (.bipush 6, 2) := by decide +kernel
theorem dX4_isKind_4 : decode cX4_isKind 4 = .ok (.invokestatic 88, 3) := by decide +kernel
theorem dX4_isKind_7 : decode cX4_isKind 7 = .ok (.ireturn, 1) := by decide +kernel
theorem dX4_isSpot_0 : decode cX4_isSpot 0 = .ok (.iload_n 0, 1) := by decide +kernel
theorem dX4_isSpot_1 : decode cX4_isSpot 1 = .ok (.iconst 0, 1) := by decide +kernel
theorem dX4_isSpot_2 : decode cX4_isSpot 2 = .ok (.bipush 9, 2) := by decide +kernel
theorem dX4_isSpot_4 : decode cX4_isSpot 4 = .ok (.invokestatic 88, 3) := by decide +kernel
theorem dX4_isSpot_7 : decode cX4_isSpot 7 = .ok (.ireturn, 1) := by decide +kernel
theorem dX4_isSheet_0 : decode cX4_isSheet 0 = .ok (.iload_n 0, 1) := by decide +kernel
theorem dX4_isSheet_1 : decode cX4_isSheet 1 = .ok (.iconst 0, 1) := by decide +kernel
theorem dX4_isSheet_2 : decode cX4_isSheet 2 = .ok (.iconst 3, 1) := by decide +kernel
theorem dX4_isSheet_3 : decode cX4_isSheet 3 = .ok (.invokestatic 88, 3) := by decide +kernel
theorem dX4_isSheet_6 : decode cX4_isSheet 6 = .ok (.ireturn, 1) := by decide +kernel
theorem dX4_isWithin_0 : decode cX4_isWithin 0 = .ok (.iload_n 0, 1) := by decide +kernel
theorem dX4_isWithin_1 : decode cX4_isWithin 1 = .ok (.iload_n 1, 1) := by decide +kernel
theorem dX4_isWithin_2 : decode cX4_isWithin 2 = .ok (.if_icmp .lt 12, 3) := by decide +kernel
theorem dX4_isWithin_5 : decode cX4_isWithin 5 = .ok (.iload_n 0, 1) := by decide +kernel
theorem dX4_isWithin_6 : decode cX4_isWithin 6 = .ok (.iload_n 2, 1) := by decide +kernel
theorem dX4_isWithin_7 : decode cX4_isWithin 7 = .ok (.if_icmp .gt 7, 3) := by decide +kernel
theorem dX4_isWithin_10 : decode cX4_isWithin 10 = .ok (.iconst 1, 1) := by decide +kernel
theorem dX4_isWithin_11 : decode cX4_isWithin 11 = .ok (.goto 4, 3) := by decide +kernel
theorem dX4_isWithin_14 : decode cX4_isWithin 14 = .ok (.iconst 0, 1) := by decide +kernel
theorem dX4_isWithin_15 : decode cX4_isWithin 15 = .ok (.ireturn, 1) := by decide +kernel
theorem dX4_isIn_0 : decode cX4_isIn 0 = .ok (.iload_n 0, 1) := by decide +kernel
theorem dX4_isIn_1 : decode cX4_isIn 1 = .ok (.iload_n 1, 1) := by decide +kernel
theorem dX4_isIn_2 : decode cX4_isIn 2 = .ok (.ishr, 1) := by decide +kernel
theorem dX4_isIn_3 : decode cX4_isIn 3 = .ok (.iconst 1, 1) := by decide +kernel
theorem dX4_isIn_4 : decode cX4_isIn 4 = .ok (.iand, 1) := by decide +kernel
theorem dX4_isIn_5 : decode cX4_isIn 5 = .ok (.iconst 1, 1) := by decide +kernel
theorem dX4_isIn_6 : decode cX4_isIn 6 = .ok (.if_icmp .ne 7, 3) := by decide +kernel
theorem dX4_isIn_9 : decode cX4_isIn 9 = .ok (.iconst 1, 1) := by decide +kernel
theorem dX4_isIn_10 : decode cX4_isIn 10 = .ok (.goto 4, 3) := by decide +kernel
theorem dX4_isIn_13 : decode cX4_isIn 13 = .ok (.iconst 0, 1) := by decide +kernel
theorem dX4_isIn_14 : decode cX4_isIn 14 = .ok (.ireturn, 1) := by decide +kernel
theorem dX4_put_0 : decode cX4_put 0 = .ok (.aload_n 0, 1) := by decide +kernel
theorem dX4_put_1 : decode cX4_put 1 = .ok (.iload_n 1, 1) := by decide +kernel
theorem dX4_put_2 : decode cX4_put 2 = .ok (.iaload, 1) := by decide +kernel
theorem dX4_put_3 : decode cX4_put 3 = .ok (.istore_n 3, 1) := by decide +kernel
theorem dX4_put_4 : decode cX4_put 4 = .ok (.aload_n 0, 1) := by decide +kernel
theorem dX4_put_5 : decode cX4_put 5 = .ok (.iload_n 1, 1) := by decide +kernel
theorem dX4_put_6 : decode cX4_put 6 = .ok (.iload_n 2, 1) := by decide +kernel
theorem dX4_put_7 : decode cX4_put 7 = .ok (.iastore, 1) := by decide +kernel
theorem dX4_put_8 : decode cX4_put 8 = .ok (.iload_n 3, 1) := by decide +kernel
theorem dX4_put_9 : decode cX4_put 9 = .ok (.ireturn, 1) := by decide +kernel
theorem dX4_course_0 : decode cX4_course 0 = .ok (.iload_n 0, 1) := by decide +kernel
theorem dX4_course_1 : decode cX4_course 1 = .ok (.iload_n 1, 1) := by decide +kernel
theorem dX4_course_2 : decode cX4_course 2 = .ok (.iadd, 1) := by decide +kernel
theorem dX4_course_3 : decode cX4_course 3 = .ok (.bipush 32, 2) := by decide +kernel
theorem dX4_course_5 : decode cX4_course 5 = .ok (.invokestatic 306, 3) := by decide +kernel
theorem dX4_course_8 : decode cX4_course 8 = .ok (.ireturn, 1) := by decide +kernel
theorem dX4_heading_0 : decode cX4_heading 0 = .ok (.iload_n 0, 1) := by decide +kernel
theorem dX4_heading_1 : decode cX4_heading 1 = .ok (.iconst 2, 1) := by decide +kernel
theorem dX4_heading_2 : decode cX4_heading 2 = .ok (.iadd, 1) := by decide +kernel
theorem dX4_heading_3 : decode cX4_heading 3 = .ok (.iconst 4, 1) := by decide +kernel
theorem dX4_heading_4 : decode cX4_heading 4 = .ok (.idiv, 1) := by decide +kernel
theorem dX4_heading_5 : decode cX4_heading 5 = .ok (.bipush 8, 2) := by decide +kernel
theorem dX4_heading_7 : decode cX4_heading 7 = .ok (.irem, 1) := by decide +kernel
theorem dX4_heading_8 : decode cX4_heading 8 = .ok (.ireturn, 1) := by decide +kernel
theorem dX4_beside_0 : decode cX4_beside 0 = .ok (.iload_n 0, 1) := by decide +kernel
theorem dX4_beside_1 : decode cX4_beside 1 = .ok (.bipush 10, 2) := by decide +kernel
theorem dX4_beside_3 : decode cX4_beside 3 = .ok (.idiv, 1) := by decide +kernel
theorem dX4_beside_4 : decode cX4_beside 4 = .ok (.getstatic 309, 3) := by decide +kernel
theorem dX4_beside_7 : decode cX4_beside 7 = .ok (.iload_n 1, 1) := by decide +kernel
theorem dX4_beside_8 : decode cX4_beside 8 = .ok (.iaload, 1) := by decide +kernel
theorem dX4_beside_9 : decode cX4_beside 9 = .ok (.iadd, 1) := by decide +kernel
theorem dX4_beside_10 : decode cX4_beside 10 = .ok (.istore_n 2, 1) := by decide +kernel
theorem dX4_beside_11 : decode cX4_beside 11 = .ok (.iload_n 0, 1) := by decide +kernel
theorem dX4_beside_12 : decode cX4_beside 12 = .ok (.bipush 10, 2) := by decide +kernel
theorem dX4_beside_14 : decode cX4_beside 14 = .ok (.irem, 1) := by decide +kernel
theorem dX4_beside_15 : decode cX4_beside 15 = .ok (.getstatic 312, 3) := by decide +kernel
theorem dX4_beside_18 : decode cX4_beside 18 = .ok (.iload_n 1, 1) := by decide +kernel
theorem dX4_beside_19 : decode cX4_beside 19 = .ok (.iaload, 1) := by decide +kernel
theorem dX4_beside_20 : decode cX4_beside 20 = .ok (.iadd, 1) := by decide +kernel
theorem dX4_beside_21 : decode cX4_beside 21 = .ok (.istore_n 3, 1) := by decide +kernel
theorem dX4_beside_22 : decode cX4_beside 22 = .ok (.iload_n 2, 1) := by decide +kernel
theorem dX4_beside_23 : decode cX4_beside 23 = .ok (.iconst 0, 1) := by decide +kernel
theorem dX4_beside_24 : decode cX4_beside 24 = .ok (.bipush 9, 2) := by decide +kernel
theorem dX4_beside_26 : decode cX4_beside 26 = .ok (.invokestatic 88, 3) := by decide +kernel
theorem dX4_beside_29 : decode cX4_beside 29 = .ok (.ifCond .eq 13, 3) := by decide +kernel
theorem dX4_beside_32 : decode cX4_beside 32 = .ok (.iload_n 3, 1) := by decide +kernel
theorem dX4_beside_33 : decode cX4_beside 33 = .ok (.iconst 0, 1) := by decide +kernel
theorem dX4_beside_34 : decode cX4_beside 34 = .ok (.bipush 9, 2) := by decide +kernel
theorem dX4_beside_36 : decode cX4_beside 36 = .ok (.invokestatic 88, 3) := by decide +kernel
theorem dX4_beside_39 : decode cX4_beside 39 = .ok (.ifCond .ne 5, 3) := by decide +kernel
theorem dX4_beside_42 : decode cX4_beside 42 = .ok (.iload_n 0, 1) := by decide +kernel
theorem dX4_beside_43 : decode cX4_beside 43 = .ok (.ireturn, 1) := by decide +kernel
theorem dX4_beside_44 : decode cX4_beside 44 = .ok (.iload_n 2, 1) := by decide +kernel
theorem dX4_beside_45 : decode cX4_beside 45 = .ok (.bipush 10, 2) := by decide +kernel
theorem dX4_beside_47 : decode cX4_beside 47 = .ok (.imul, 1) := by decide +kernel
theorem dX4_beside_48 : decode cX4_beside 48 = .ok (.iload_n 3, 1) := by decide +kernel
theorem dX4_beside_49 : decode cX4_beside 49 = .ok (.iadd, 1) := by decide +kernel
theorem dX4_beside_50 : decode cX4_beside 50 = .ok (.ireturn, 1) := by decide +kernel
theorem dX4_distance_0 : decode cX4_distance 0 = .ok (.iload_n 0, 1) := by decide +kernel
theorem dX4_distance_1 : decode cX4_distance 1 = .ok (.bipush 10, 2) := by decide +kernel
theorem dX4_distance_3 : decode cX4_distance 3 = .ok (.idiv, 1) := by decide +kernel
theorem dX4_distance_4 : decode cX4_distance 4 = .ok (.iload_n 1, 1) := by decide +kernel
theorem dX4_distance_5 : decode cX4_distance 5 = .ok (.bipush 10, 2) := by decide +kernel
theorem dX4_distance_7 : decode cX4_distance 7 = .ok (.idiv, 1) := by decide +kernel
theorem dX4_distance_8 : decode cX4_distance 8 = .ok (.isub, 1) := by decide +kernel
theorem dX4_distance_9 : decode cX4_distance 9 = .ok (.invokestatic 201, 3) := by decide +kernel
theorem dX4_distance_12 : decode cX4_distance 12 = .ok (.iload_n 0, 1) := by decide +kernel
theorem dX4_distance_13 : decode cX4_distance 13 = .ok (.bipush 10, 2) := by decide +kernel
theorem dX4_distance_15 : decode cX4_distance 15 = .ok (.irem, 1) := by decide +kernel
theorem dX4_distance_16 : decode cX4_distance 16 = .ok (.iload_n 1, 1) := by decide +kernel
theorem dX4_distance_17 : decode cX4_distance 17 = .ok (.bipush 10, 2) := by decide +kernel
theorem dX4_distance_19 : decode cX4_distance 19 = .ok (.irem, 1) := by decide +kernel
theorem dX4_distance_20 : decode cX4_distance 20 = .ok (.isub, 1) := by decide +kernel
theorem dX4_distance_21 : decode cX4_distance 21 = .ok (.invokestatic 201, 3) := by decide +kernel
theorem dX4_distance_24 : decode cX4_distance 24 = .ok (.iadd, 1) := by decide +kernel
theorem dX4_distance_25 : decode cX4_distance 25 = .ok (.ireturn, 1) := by decide +kernel
theorem dX4_isOrUnder_0 : decode cX4_isOrUnder 0 = .ok (.iload_n 0, 1) := by decide +kernel
theorem dX4_isOrUnder_1 : decode cX4_isOrUnder 1 = .ok (.istore_n 2, 1) := by decide +kernel
theorem dX4_isOrUnder_2 : decode cX4_isOrUnder 2 = .ok (.iconst 0, 1) := by decide +kernel
theorem dX4_isOrUnder_3 : decode cX4_isOrUnder 3 = .ok (.istore_n 3, 1) := by decide +kernel
theorem dX4_isOrUnder_4 : decode cX4_isOrUnder 4 = .ok (.iload_n 3, 1) := by decide +kernel
theorem dX4_isOrUnder_5 : decode cX4_isOrUnder 5 = .ok (.bipush 7, 2) := by decide +kernel
theorem dX4_isOrUnder_7 : decode cX4_isOrUnder 7 = .ok (.if_icmp .ge 26, 3) := by decide +kernel
theorem dX4_isOrUnder_10 : decode cX4_isOrUnder 10 = .ok (.iload_n 2, 1) := by decide +kernel
theorem dX4_isOrUnder_11 : decode cX4_isOrUnder 11 = .ok (.ifCond .lt 22, 3) := by decide +kernel
theorem dX4_isOrUnder_14 : decode cX4_isOrUnder 14 = .ok (.iload_n 2, 1) := by decide +kernel
theorem dX4_isOrUnder_15 : decode cX4_isOrUnder 15 = .ok (.iload_n 1, 1) := by decide +kernel
theorem dX4_isOrUnder_16 : decode cX4_isOrUnder 16 = .ok (.if_icmp .ne 5, 3) := by decide +kernel
theorem dX4_isOrUnder_19 : decode cX4_isOrUnder 19 = .ok (.iconst 1, 1) := by decide +kernel
theorem dX4_isOrUnder_20 : decode cX4_isOrUnder 20 = .ok (.ireturn, 1) := by decide +kernel
theorem dX4_isOrUnder_21 : decode cX4_isOrUnder 21 = .ok (.getstatic 315, 3) := by decide +kernel
theorem dX4_isOrUnder_24 : decode cX4_isOrUnder 24 = .ok (.iload_n 2, 1) := by decide +kernel
theorem dX4_isOrUnder_25 : decode cX4_isOrUnder 25 = .ok (.iaload, 1) := by decide +kernel
theorem dX4_isOrUnder_26 : decode cX4_isOrUnder 26 = .ok (.istore_n 2, 1) := by decide +kernel
theorem dX4_isOrUnder_27 : decode cX4_isOrUnder 27 = .ok (.iinc 3 1, 3) := by decide +kernel
theorem dX4_isOrUnder_30 : decode cX4_isOrUnder 30 = .ok (.goto (-26), 3) := by decide +kernel
theorem dX4_isOrUnder_33 : decode cX4_isOrUnder 33 = .ok (.iconst 0, 1) := by decide +kernel
theorem dX4_isOrUnder_34 : decode cX4_isOrUnder 34 = .ok (.ireturn, 1) := by decide +kernel
end
section
theorem dX5_init_0 : decode cX5_init 0 = .ok (.aload_n 0, 1) := by decide +kernel
theorem dX5_init_1 : decode cX5_init 1 = .ok (.invokespecial 1, 3) := by decide +kernel
theorem dX5_init_4 : decode cX5_init 4 = .ok (.aload_n 0, 1) := by decide +kernel
theorem dX5_init_5 : decode cX5_init 5 = .ok (.sipush 152, 3) := by decide +kernel
theorem dX5_init_8 : decode cX5_init 8 = .ok (.newarray .int, 2) := by decide +kernel
theorem dX5_init_10 : decode cX5_init 10 = .ok (.putfield 9, 3) := by decide +kernel
theorem dX5_init_13 : decode cX5_init 13 = .ok (.aload_n 0, 1) := by decide +kernel
theorem dX5_init_14 : decode cX5_init 14 = .ok (.sipush 152, 3) := by decide +kernel
theorem dX5_init_17 : decode cX5_init 17 = .ok (.newarray .int, 2) := by decide +kernel
theorem dX5_init_19 : decode cX5_init 19 = .ok (.putfield 13, 3) := by decide +kernel
theorem dX5_init_22 : decode cX5_init 22 = .ok (.aload_n 0, 1) := by decide +kernel
theorem dX5_init_23 : decode cX5_init 23 = .ok (.sipush 152, 3) := by decide +kernel
theorem dX5_init_26 : decode cX5_init 26 = .ok (.newarray .int, 2) := by decide +kernel
theorem dX5_init_28 : decode cX5_init 28 = .ok (.putfield 16, 3) := by decide +kernel
theorem dX5_init_31 : decode cX5_init 31 = .ok (.aload_n 0, 1) := by decide +kernel
theorem dX5_init_32 : decode cX5_init 32 = .ok (.bipush 8, 2) := by decide +kernel
theorem dX5_init_34 : decode cX5_init 34 = .ok (.newarray .int, 2) := by decide +kernel
theorem dX5_init_36 : decode cX5_init 36 = .ok (.putfield 19, 3) := by decide +kernel
theorem dX5_init_39 : decode cX5_init 39 = .ok (.aload_n 0, 1) := by decide +kernel
theorem dX5_init_40 : decode cX5_init 40 = .ok (.bipush 8, 2) := by decide +kernel
theorem dX5_init_42 : decode cX5_init 42 = .ok (.newarray .int, 2) := by decide +kernel
theorem dX5_init_44 : decode cX5_init 44 = .ok (.dup, 1) := by decide +kernel
theorem dX5_init_45 : decode cX5_init 45 = .ok (.iconst 0, 1) := by decide +kernel
theorem dX5_init_46 : decode cX5_init 46 = .ok (.iconst (-1), 1) := by decide +kernel
theorem dX5_init_47 : decode cX5_init 47 = .ok (.iastore, 1) := by decide +kernel
theorem dX5_init_48 : decode cX5_init 48 = .ok (.dup, 1) := by decide +kernel
theorem dX5_init_49 : decode cX5_init 49 = .ok (.iconst 1, 1) := by decide +kernel
theorem dX5_init_50 : decode cX5_init 50 = .ok (.iconst (-1), 1) := by decide +kernel
theorem dX5_init_51 : decode cX5_init 51 = .ok (.iastore, 1) := by decide +kernel
theorem dX5_init_52 : decode cX5_init 52 = .ok (.dup, 1) := by decide +kernel
theorem dX5_init_53 : decode cX5_init 53 = .ok (.iconst 2, 1) := by decide +kernel
theorem dX5_init_54 : decode cX5_init 54 = .ok (.iconst 0, 1) := by decide +kernel
theorem dX5_init_55 : decode cX5_init 55 = .ok (.iastore, 1) := by decide +kernel
theorem dX5_init_56 : decode cX5_init 56 = .ok (.dup, 1) := by decide +kernel
theorem dX5_init_57 : decode cX5_init 57 = .ok (.iconst 3, 1) := by decide +kernel
theorem dX5_init_58 : decode cX5_init 58 = .ok (.iconst 1, 1) := by decide +kernel
theorem dX5_init_59 : decode cX5_init 59 = .ok (.iastore, 1) := by decide +kernel
theorem dX5_init_60 : decode cX5_init 60 = .ok (.dup, 1) := by decide +kernel
theorem dX5_init_61 : decode cX5_init 61 = .ok (.iconst 4, 1) := by decide +kernel
theorem dX5_init_62 : decode cX5_init 62 = .ok (.iconst 1, 1) := by decide +kernel
theorem dX5_init_63 : decode cX5_init 63 = .ok (.iastore, 1) := by decide +kernel
theorem dX5_init_64 : decode cX5_init 64 = .ok (.dup, 1) := by decide +kernel
theorem dX5_init_65 : decode cX5_init 65 = .ok (.iconst 5, 1) := by decide +kernel
theorem dX5_init_66 : decode cX5_init 66 = .ok (.iconst 1, 1) := by decide +kernel
theorem dX5_init_67 : decode cX5_init 67 = .ok (.iastore, 1) := by decide +kernel
theorem dX5_init_68 : decode cX5_init 68 = .ok (.dup, 1) := by decide +kernel
theorem dX5_init_69 : decode cX5_init 69 = .ok (.bipush 6, 2) := by decide +kernel
theorem dX5_init_71 : decode cX5_init 71 = .ok (.iconst 0, 1) := by decide +kernel
theorem dX5_init_72 : decode cX5_init 72 = .ok (.iastore, 1) := by decide +kernel
theorem dX5_init_73 : decode cX5_init 73 = .ok (.dup, 1) := by decide +kernel
theorem dX5_init_74 : decode cX5_init 74 = .ok (.bipush 7, 2) := by decide +kernel
theorem dX5_init_76 : decode cX5_init 76 = .ok (.iconst (-1), 1) := by decide +kernel
theorem dX5_init_77 : decode cX5_init 77 = .ok (.iastore, 1) := by decide +kernel
theorem dX5_init_78 : decode cX5_init 78 = .ok (.putfield 22, 3) := by decide +kernel
theorem dX5_init_81 : decode cX5_init 81 = .ok (.aload_n 0, 1) := by decide +kernel
theorem dX5_init_82 : decode cX5_init 82 = .ok (.bipush 8, 2) := by decide +kernel
theorem dX5_init_84 : decode cX5_init 84 = .ok (.newarray .int, 2) := by decide +kernel
theorem dX5_init_86 : decode cX5_init 86 = .ok (.dup, 1) := by decide +kernel
theorem dX5_init_87 : decode cX5_init 87 = .ok (.iconst 0, 1) := by decide +kernel
theorem dX5_init_88 : decode cX5_init 88 = .ok (.iconst 0, 1) := by decide +kernel
theorem dX5_init_89 : decode cX5_init 89 = .ok (.iastore, 1) := by decide +kernel
theorem dX5_init_90 : decode cX5_init 90 = .ok (.dup, 1) := by decide +kernel
theorem dX5_init_91 : decode cX5_init 91 = .ok (.iconst 1, 1) := by decide +kernel
theorem dX5_init_92 : decode cX5_init 92 = .ok (.iconst 1, 1) := by decide +kernel
theorem dX5_init_93 : decode cX5_init 93 = .ok (.iastore, 1) := by decide +kernel
theorem dX5_init_94 : decode cX5_init 94 = .ok (.dup, 1) := by decide +kernel
theorem dX5_init_95 : decode cX5_init 95 = .ok (.iconst 2, 1) := by decide +kernel
theorem dX5_init_96 : decode cX5_init 96 = .ok (.iconst 1, 1) := by decide +kernel
theorem dX5_init_97 : decode cX5_init 97 = .ok (.iastore, 1) := by decide +kernel
theorem dX5_init_98 : decode cX5_init 98 = .ok (.dup, 1) := by decide +kernel
theorem dX5_init_99 : decode cX5_init 99 = .ok (.iconst 3, 1) := by decide +kernel
theorem dX5_init_100 : decode cX5_init 100 = .ok (.iconst 1, 1) := by decide +kernel
theorem dX5_init_101 : decode cX5_init 101 = .ok (.iastore, 1) := by decide +kernel
theorem dX5_init_102 : decode cX5_init 102 = .ok (.dup, 1) := by decide +kernel
theorem dX5_init_103 : decode cX5_init 103 = .ok (.iconst 4, 1) := by decide +kernel
theorem dX5_init_104 : decode cX5_init 104 = .ok (.iconst 0, 1) := by decide +kernel
theorem dX5_init_105 : decode cX5_init 105 = .ok (.iastore, 1) := by decide +kernel
theorem dX5_init_106 : decode cX5_init 106 = .ok (.dup, 1) := by decide +kernel
theorem dX5_init_107 : decode cX5_init 107 = .ok (.iconst 5, 1) := by decide +kernel
theorem dX5_init_108 : decode cX5_init 108 = .ok (.iconst (-1), 1) := by decide +kernel
theorem dX5_init_109 : decode cX5_init 109 = .ok (.iastore, 1) := by decide +kernel
theorem dX5_init_110 : decode cX5_init 110 = .ok (.dup, 1) := by decide +kernel
theorem dX5_init_111 : decode cX5_init 111 = .ok (.bipush 6, 2) := by decide +kernel
theorem dX5_init_113 : decode cX5_init 113 = .ok (.iconst (-1), 1) := by decide +kernel
theorem dX5_init_114 : decode cX5_init 114 = .ok (.iastore, 1) := by decide +kernel
theorem dX5_init_115 : decode cX5_init 115 = .ok (.dup, 1) := by decide +kernel
theorem dX5_init_116 : decode cX5_init 116 = .ok (.bipush 7, 2) := by decide +kernel
theorem dX5_init_118 : decode cX5_init 118 = .ok (.iconst (-1), 1) := by decide +kernel
theorem dX5_init_119 : decode cX5_init 119 = .ok (.iastore, 1) := by decide +kernel
theorem dX5_init_120 : decode cX5_init 120 = .ok (.putfield 25, 3) := by decide +kernel
theorem dX5_init_123 : decode cX5_init 123 = .ok (.aload_n 0, 1) := by decide +kernel
theorem dX5_init_124 : decode cX5_init 124 = .ok (.bipush 120, 2) := by decide +kernel
theorem dX5_init_126 : decode cX5_init 126 = .ok (.newarray .int, 2) := by decide +kernel
theorem dX5_init_128 : decode cX5_init 128 = .ok (.putfield 28, 3) := by decide +kernel
theorem dX5_init_131 : decode cX5_init 131 = .ok (.aload_n 0, 1) := by decide +kernel
theorem dX5_init_132 : decode cX5_init 132 = .ok (.bipush 7, 2) := by decide +kernel
theorem dX5_init_134 : decode cX5_init 134 = .ok (.anewarray 31, 3) := by decide +kernel
theorem dX5_init_137 : decode cX5_init 137 = .ok (.dup, 1) := by decide +kernel
theorem dX5_init_138 : decode cX5_init 138 = .ok (.iconst 0, 1) := by decide +kernel
theorem dX5_init_139 : decode cX5_init 139 = .ok (.ldc 33, 2) := by decide +kernel
theorem dX5_init_141 : decode cX5_init 141 = .ok (.aastore, 1) := by decide +kernel
theorem dX5_init_142 : decode cX5_init 142 = .ok (.dup, 1) := by decide +kernel
theorem dX5_init_143 : decode cX5_init 143 = .ok (.iconst 1, 1) := by decide +kernel
theorem dX5_init_144 : decode cX5_init 144 = .ok (.ldc 35, 2) := by decide +kernel
theorem dX5_init_146 : decode cX5_init 146 = .ok (.aastore, 1) := by decide +kernel
theorem dX5_init_147 : decode cX5_init 147 = .ok (.dup, 1) := by decide +kernel
theorem dX5_init_148 : decode cX5_init 148 = .ok (.iconst 2, 1) := by decide +kernel
theorem dX5_init_149 : decode cX5_init 149 = .ok (.ldc 37, 2) := by decide +kernel
theorem dX5_init_151 : decode cX5_init 151 = .ok (.aastore, 1) := by decide +kernel
theorem dX5_init_152 : decode cX5_init 152 = .ok (.dup, 1) := by decide +kernel
theorem dX5_init_153 : decode cX5_init 153 = .ok (.iconst 3, 1) := by decide +kernel
theorem dX5_init_154 : decode cX5_init 154 = .ok (.ldc 39, 2) := by decide +kernel
theorem dX5_init_156 : decode cX5_init 156 = .ok (.aastore, 1) := by decide +kernel
theorem dX5_init_157 : decode cX5_init 157 = .ok (.dup, 1) := by decide +kernel
theorem dX5_init_158 : decode cX5_init 158 = .ok (.iconst 4, 1) := by decide +kernel
theorem dX5_init_159 : decode cX5_init 159 = .ok (.ldc 41, 2) := by decide +kernel
theorem dX5_init_161 : decode cX5_init 161 = .ok (.aastore, 1) := by decide +kernel
theorem dX5_init_162 : decode cX5_init 162 = .ok (.dup, 1) := by decide +kernel
theorem dX5_init_163 : decode cX5_init 163 = .ok (.iconst 5, 1) := by decide +kernel
theorem dX5_init_164 : decode cX5_init 164 = .ok (.ldc 43, 2) := by decide +kernel
theorem dX5_init_166 : decode cX5_init 166 = .ok (.aastore, 1) := by decide +kernel
theorem dX5_init_167 : decode cX5_init 167 = .ok (.dup, 1) := by decide +kernel
theorem dX5_init_168 : decode cX5_init 168 = .ok (.bipush 6, 2) := by decide +kernel
theorem dX5_init_170 : decode cX5_init 170 = .ok (.ldc 45, 2) := by decide +kernel
theorem dX5_init_172 : decode cX5_init 172 = .ok (.aastore, 1) := by decide +kernel
theorem dX5_init_173 : decode cX5_init 173 = .ok (.putfield 47, 3) := by decide +kernel
theorem dX5_init_176 : decode cX5_init 176 = .ok (.aload_n 0, 1) := by decide +kernel
theorem dX5_init_177 : decode cX5_init 177 = .ok (.sipush 360, 3) := by decide +kernel
theorem dX5_init_180 : decode cX5_init 180 = .ok (.newarray .int, 2) := by decide +kernel
theorem dX5_init_182 : decode cX5_init 182 = .ok (.putfield 51, 3) := by decide +kernel
theorem dX5_init_185 : decode cX5_init 185 = .ok (.aload_n 0, 1) := by decide +kernel
theorem dX5_init_186 : decode cX5_init 186 = .ok (.iconst 4, 1) := by decide +kernel
theorem dX5_init_187 : decode cX5_init 187 = .ok (.newarray .int, 2) := by decide +kernel
theorem dX5_init_189 : decode cX5_init 189 = .ok (.putfield 54, 3) := by decide +kernel
theorem dX5_init_192 : decode cX5_init 192 = .ok (.aload_n 0, 1) := by decide +kernel
theorem dX5_init_193 : decode cX5_init 193 = .ok (.iconst 4, 1) := by decide +kernel
theorem dX5_init_194 : decode cX5_init 194 = .ok (.newarray .int, 2) := by decide +kernel
theorem dX5_init_196 : decode cX5_init 196 = .ok (.putfield 57, 3) := by decide +kernel
theorem dX5_init_199 : decode cX5_init 199 = .ok (.aload_n 0, 1) := by decide +kernel
theorem dX5_init_200 : decode cX5_init 200 = .ok (.sipush 160, 3) := by decide +kernel
theorem dX5_init_203 : decode cX5_init 203 = .ok (.newarray .int, 2) := by decide +kernel
theorem dX5_init_205 : decode cX5_init 205 = .ok (.putfield 60, 3) := by decide +kernel
theorem dX5_init_208 : decode cX5_init 208 = .ok (.aload_n 0, 1) := by decide +kernel
theorem dX5_init_209 : decode cX5_init 209 = .ok (.bipush 40, 2) := by decide +kernel
theorem dX5_init_211 : decode cX5_init 211 = .ok (.newarray .int, 2) := by decide +kernel
theorem dX5_init_213 : decode cX5_init 213 = .ok (.putfield 63, 3) := by decide +kernel
theorem dX5_init_216 : decode cX5_init 216 = .ok (.aload_n 0, 1) := by decide +kernel
theorem dX5_init_217 : decode cX5_init 217 = .ok (.getfield 9, 3) := by decide +kernel
theorem dX5_init_220 : decode cX5_init 220 = .ok (.iconst 1, 1) := by decide +kernel
theorem dX5_init_221 : decode cX5_init 221 = .ok (.bipush 100, 2) := by decide +kernel
theorem dX5_init_223 : decode cX5_init 223 = .ok (.iastore, 1) := by decide +kernel
theorem dX5_init_224 : decode cX5_init 224 = .ok (.aload_n 0, 1) := by decide +kernel
theorem dX5_init_225 : decode cX5_init 225 = .ok (.getfield 9, 3) := by decide +kernel
theorem dX5_init_228 : decode cX5_init 228 = .ok (.iconst 5, 1) := by decide +kernel
theorem dX5_init_229 : decode cX5_init 229 = .ok (.iconst 1, 1) := by decide +kernel
theorem dX5_init_230 : decode cX5_init 230 = .ok (.iastore, 1) := by decide +kernel
theorem dX5_init_231 : decode cX5_init 231 = .ok (.iconst 0, 1) := by decide +kernel
theorem dX5_init_232 : decode cX5_init 232 = .ok (.istore_n 1, 1) := by decide +kernel
theorem dX5_init_233 : decode cX5_init 233 = .ok (.iload_n 1, 1) := by decide +kernel
theorem dX5_init_234 : decode cX5_init 234 = .ok (.bipush 10, 2) := by decide +kernel
theorem dX5_init_236 : decode cX5_init 236 = .ok (.if_icmp .ge 19, 3) := by decide +kernel
theorem dX5_init_239 : decode cX5_init 239 = .ok (.aload_n 0, 1) := by decide +kernel
theorem dX5_init_240 : decode cX5_init 240 = .ok (.getfield 9, 3) := by decide +kernel
theorem dX5_init_243 : decode cX5_init 243 = .ok (.bipush 6, 2) := by decide +kernel
theorem dX5_init_245 : decode cX5_init 245 = .ok (.iload_n 1, 1) := by decide +kernel
theorem dX5_init_246 : decode cX5_init 246 = .ok (.iadd, 1) := by decide +kernel
theorem dX5_init_247 : decode cX5_init 247 = .ok (.iconst (-1), 1) := by decide +kernel
theorem dX5_init_248 : decode cX5_init 248 = .ok (.iastore, 1) := by decide +kernel
theorem dX5_init_249 : decode cX5_init 249 = .ok (.iinc 1 1, 3) := by decide +kernel
theorem dX5_init_252 : decode cX5_init 252 = .ok (.goto (-19), 3) := by decide +kernel
theorem dX5_init_255 : decode cX5_init 255 = .ok (.return_, 1) := by decide +kernel
theorem dX5_finding_0 : decode cX5_finding 0 = .ok (.aload_n 0, 1) := by decide +kernel
theorem dX5_finding_1 : decode cX5_finding 1 = .ok (.getfield 19, 3) := by decide +kernel
theorem dX5_finding_4 : decode cX5_finding 4 = .ok (.ldc 66, 2) := by decide +kernel
theorem dX5_finding_6 : decode cX5_finding 6 = .ok (.iload_n 1, 1) := by decide +kernel
theorem dX5_finding_7 : decode cX5_finding 7 = .ok (.isub, 1) := by decide +kernel
theorem dX5_finding_8 : decode cX5_finding 8 = .ok (.iconst 1, 1) := by decide +kernel
theorem dX5_finding_9 : decode cX5_finding 9 = .ok (.iadd, 1) := by decide +kernel
theorem dX5_finding_10 : decode cX5_finding 10 = .ok (.dup2, 1) := by decide +kernel
theorem dX5_finding_11 : decode cX5_finding 11 = .ok (.iaload, 1) := by decide +kernel
theorem dX5_finding_12 : decode cX5_finding 12 = .ok (.iconst 1, 1) := by decide +kernel
theorem dX5_finding_13 : decode cX5_finding 13 = .ok (.iadd, 1) := by decide +kernel
theorem dX5_finding_14 : decode cX5_finding 14 = .ok (.iastore, 1) := by decide +kernel
theorem dX5_finding_15 : decode cX5_finding 15 = .ok (.aload_n 0, 1) := by decide +kernel
theorem dX5_finding_16 : decode cX5_finding 16 = .ok (.getfield 19, 3) := by decide +kernel
theorem dX5_finding_19 : decode cX5_finding 19 = .ok (.iconst 0, 1) := by decide +kernel
theorem dX5_finding_20 : decode cX5_finding 20 = .ok (.dup2, 1) := by decide +kernel
theorem dX5_finding_21 : decode cX5_finding 21 = .ok (.iaload, 1) := by decide +kernel
theorem dX5_finding_22 : decode cX5_finding 22 = .ok (.iconst 1, 1) := by decide +kernel
theorem dX5_finding_23 : decode cX5_finding 23 = .ok (.iadd, 1) := by decide +kernel
theorem dX5_finding_24 : decode cX5_finding 24 = .ok (.iastore, 1) := by decide +kernel
theorem dX5_finding_25 : decode cX5_finding 25 = .ok (.iload_n 1, 1) := by decide +kernel
theorem dX5_finding_26 : decode cX5_finding 26 = .ok (.ireturn, 1) := by decide +kernel
theorem dX5_within_0 : decode cX5_within 0 = .ok (.iload_n 0, 1) := by decide +kernel
theorem dX5_within_1 : decode cX5_within 1 = .ok (.iload_n 1, 1) := by decide +kernel
theorem dX5_within_2 : decode cX5_within 2 = .ok (.if_icmp .lt 12, 3) := by decide +kernel
theorem dX5_within_5 : decode cX5_within 5 = .ok (.iload_n 0, 1) := by decide +kernel
theorem dX5_within_6 : decode cX5_within 6 = .ok (.iload_n 2, 1) := by decide +kernel
theorem dX5_within_7 : decode cX5_within 7 = .ok (.if_icmp .gt 7, 3) := by decide +kernel
theorem dX5_within_10 : decode cX5_within 10 = .ok (.iconst 1, 1) := by decide +kernel
theorem dX5_within_11 : decode cX5_within 11 = .ok (.goto 4, 3) := by decide +kernel
theorem dX5_within_14 : decode cX5_within 14 = .ok (.iconst 0, 1) := by decide +kernel
theorem dX5_within_15 : decode cX5_within 15 = .ok (.ireturn, 1) := by decide +kernel
theorem dX5_become_0 : decode cX5_become 0 = .ok (.aload_n 0, 1) := by decide +kernel
theorem dX5_become_1 : decode cX5_become 1 = .ok (.getfield 9, 3) := by decide +kernel
theorem dX5_become_4 : decode cX5_become 4 = .ok (.iload_n 1, 1) := by decide +kernel
theorem dX5_become_5 : decode cX5_become 5 = .ok (.iaload, 1) := by decide +kernel
theorem dX5_become_6 : decode cX5_become 6 = .ok (.istore_n 3, 1) := by decide +kernel
theorem dX5_become_7 : decode cX5_become 7 = .ok (.aload_n 0, 1) := by decide +kernel
theorem dX5_become_8 : decode cX5_become 8 = .ok (.getfield 9, 3) := by decide +kernel
theorem dX5_become_11 : decode cX5_become 11 = .ok (.iload_n 1, 1) := by decide +kernel
theorem dX5_become_12 : decode cX5_become 12 = .ok (.iload_n 2, 1) := by decide +kernel
theorem dX5_become_13 : decode cX5_become 13 = .ok (.iastore, 1) := by decide +kernel
theorem dX5_become_14 : decode cX5_become 14 = .ok (.iload_n 3, 1) := by decide +kernel
theorem dX5_become_15 : decode cX5_become 15 = .ok (.ireturn, 1) := by decide +kernel
theorem dX5_copyRow_0 : decode cX5_copyRow 0 = .ok (.iconst 0, 1) := by decide +kernel
theorem dX5_copyRow_1 : decode cX5_copyRow 1 = .ok (.istore_n 2, 1) := by decide +kernel
theorem dX5_copyRow_2 : decode cX5_copyRow 2 = .ok (.iload_n 2, 1) := by decide +kernel
theorem dX5_copyRow_3 : decode cX5_copyRow 3 = .ok (.sipush 152, 3) := by decide +kernel
theorem dX5_copyRow_6 : decode cX5_copyRow 6 = .ok (.if_icmp .ge 15, 3) := by decide +kernel
theorem dX5_copyRow_9 : decode cX5_copyRow 9 = .ok (.aload_n 1, 1) := by decide +kernel
theorem dX5_copyRow_10 : decode cX5_copyRow 10 = .ok (.iload_n 2, 1) := by decide +kernel
theorem dX5_copyRow_11 : decode cX5_copyRow 11 = .ok (.aload_n 0, 1) := by decide +kernel
theorem dX5_copyRow_12 : decode cX5_copyRow 12 = .ok (.iload_n 2, 1) := by decide +kernel
theorem dX5_copyRow_13 : decode cX5_copyRow 13 = .ok (.iaload, 1) := by decide +kernel
theorem dX5_copyRow_14 : decode cX5_copyRow 14 = .ok (.iastore, 1) := by decide +kernel
theorem dX5_copyRow_15 : decode cX5_copyRow 15 = .ok (.iinc 2 1, 3) := by decide +kernel
theorem dX5_copyRow_18 : decode cX5_copyRow 18 = .ok (.goto (-16), 3) := by decide +kernel
theorem dX5_copyRow_21 : decode cX5_copyRow 21 = .ok (.return_, 1) := by decide +kernel
theorem dX5_putBack_0 : decode cX5_putBack 0 = .ok (.aload_n 0, 1) := by decide +kernel
theorem dX5_putBack_1 : decode cX5_putBack 1 = .ok (.getfield 16, 3) := by decide +kernel
theorem dX5_putBack_4 : decode cX5_putBack 4 = .ok (.aload_n 0, 1) := by decide +kernel
theorem dX5_putBack_5 : decode cX5_putBack 5 = .ok (.getfield 9, 3) := by decide +kernel
theorem dX5_putBack_8 : decode cX5_putBack 8 = .ok (.invokestatic 67, 3) := by decide +kernel
theorem dX5_putBack_11 : decode cX5_putBack 11 = .ok (.iload_n 1, 1) := by decide +kernel
theorem dX5_putBack_12 : decode cX5_putBack 12 = .ok (.ireturn, 1) := by decide +kernel
theorem dX5_has_0 : decode cX5_has 0 = .ok (.iload_n 0, 1) := by decide +kernel
theorem dX5_has_1 : decode cX5_has 1 = .ok (.iload_n 1, 1) := by decide +kernel
theorem dX5_has_2 : decode cX5_has 2 = .ok (.ishr, 1) := by decide +kernel
theorem dX5_has_3 : decode cX5_has 3 = .ok (.iconst 1, 1) := by decide +kernel
theorem dX5_has_4 : decode cX5_has 4 = .ok (.iand, 1) := by decide +kernel
theorem dX5_has_5 : decode cX5_has 5 = .ok (.iconst 1, 1) := by decide +kernel
theorem dX5_has_6 : decode cX5_has 6 = .ok (.if_icmp .ne 7, 3) := by decide +kernel
theorem dX5_has_9 : decode cX5_has 9 = .ok (.iconst 1, 1) := by decide +kernel
theorem dX5_has_10 : decode cX5_has 10 = .ok (.goto 4, 3) := by decide +kernel
theorem dX5_has_13 : decode cX5_has 13 = .ok (.iconst 0, 1) := by decide +kernel
theorem dX5_has_14 : decode cX5_has 14 = .ok (.ireturn, 1) := by decide +kernel
theorem dX5_bits_0 : decode cX5_bits 0 = .ok (.iconst 0, 1) := by decide +kernel
theorem dX5_bits_1 : decode cX5_bits 1 = .ok (.istore_n 1, 1) := by decide +kernel
theorem dX5_bits_2 : decode cX5_bits 2 = .ok (.iload_n 0, 1) := by decide +kernel
theorem dX5_bits_3 : decode cX5_bits 3 = .ok (.istore_n 2, 1) := by decide +kernel
theorem dX5_bits_4 : decode cX5_bits 4 = .ok (.iload_n 2, 1) := by decide +kernel
theorem dX5_bits_5 : decode cX5_bits 5 = .ok (.ifCond .eq 15, 3) := by decide +kernel
theorem dX5_bits_8 : decode cX5_bits 8 = .ok (.iinc 1 1, 3) := by decide +kernel
theorem dX5_bits_11 : decode cX5_bits 11 = .ok (.iload_n 2, 1) := by decide +kernel
theorem dX5_bits_12 : decode cX5_bits 12 = .ok (.iload_n 2, 1) := by decide +kernel
theorem dX5_bits_13 : decode cX5_bits 13 = .ok (.iconst 1, 1) := by decide +kernel
theorem dX5_bits_14 : decode cX5_bits 14 = .ok (.isub, 1) := by decide +kernel
theorem dX5_bits_15 : decode cX5_bits 15 = .ok (.iand, 1) := by decide +kernel
theorem dX5_bits_16 : decode cX5_bits 16 = .ok (.istore_n 2, 1) := by decide +kernel
theorem dX5_bits_17 : decode cX5_bits 17 = .ok (.goto (-13), 3) := by decide +kernel
theorem dX5_bits_20 : decode cX5_bits 20 = .ok (.iload_n 1, 1) := by decide +kernel
theorem dX5_bits_21 : decode cX5_bits 21 = .ok (.ireturn, 1) := by decide +kernel
theorem dX5_isCat_0 : decode cX5_isCat 0 = .ok (.iload_n 1, 1) := by decide +kernel
theorem dX5_isCat_1 : decode cX5_isCat 1 = .ok (.iconst 0, 1) := by decide +kernel
theorem dX5_isCat_2 : decode cX5_isCat 2 = .ok (.aload_n 0, 1) := by decide +kernel
theorem dX5_isCat_3 : decode cX5_isCat 3 = .ok (.getfield 9, 3) := by decide +kernel
theorem dX5_isCat_6 : decode cX5_isCat 6 = .ok (.iconst 4, 1) := by decide +kernel
theorem dX5_isCat_7 : decode cX5_isCat 7 = .ok (.iaload, 1) := by decide +kernel
theorem dX5_isCat_8 : decode cX5_isCat 8 = .ok (.iconst 1, 1) := by decide +kernel
theorem dX5_isCat_9 : decode cX5_isCat 9 = .ok (.isub, 1) := by decide +kernel
theorem dX5_isCat_10 : decode cX5_isCat 10 = .ok (.invokestatic 71, 3) := by decide +kernel
theorem dX5_isCat_13 : decode cX5_isCat 13 = .ok (.ireturn, 1) := by decide +kernel
theorem dX5_isShip_0 : decode cX5_isShip 0 = .ok (.iload_n 0, 1) := by decide +kernel
theorem dX5_isShip_1 : decode cX5_isShip 1 = .ok (.iconst 0, 1) := by decide +kernel
theorem dX5_isShip_2 : decode cX5_isShip 2 = .ok (.iconst 3, 1) := by decide +kernel
theorem dX5_isShip_3 : decode cX5_isShip 3 = .ok (.invokestatic 71, 3) := by decide +kernel
theorem dX5_isShip_6 : decode cX5_isShip 6 = .ok (.ireturn, 1) := by decide +kernel
theorem dX5_isCell_0 : decode cX5_isCell 0 = .ok (.iload_n 0, 1) := by decide +kernel
theorem dX5_isCell_1 : decode cX5_isCell 1 = .ok (.iconst 0, 1) := by decide +kernel
theorem dX5_isCell_2 : decode cX5_isCell 2 = .ok (.bipush 99, 2) := by decide +kernel
theorem dX5_isCell_4 : decode cX5_isCell 4 = .ok (.invokestatic 71, 3) := by decide +kernel
theorem dX5_isCell_7 : decode cX5_isCell 7 = .ok (.ireturn, 1) := by decide +kernel
theorem dX5_isKind_0 : decode cX5_isKind 0 = .ok (.iload_n 0, 1) := by decide +kernel
theorem dX5_isKind_1 : decode cX5_isKind 1 = .ok (.iconst 0, 1) := by decide +kernel
theorem dX5_isKind_2 : decode cX5_isKind 2 = .ok (.bipush 6, 2) := by decide +kernel
theorem dX5_isKind_4 : decode cX5_isKind 4 = .ok (.invokestatic 71, 3) := by decide +kernel
theorem dX5_isKind_7 : decode cX5_isKind 7 = .ok (.ireturn, 1) := by decide +kernel
theorem dX5_areCats_0 : decode cX5_areCats 0 = .ok (.iload_n 1, 1) := by decide +kernel
theorem dX5_areCats_1 : decode cX5_areCats 1 = .ok (.iconst 0, 1) := by decide +kernel
theorem dX5_areCats_2 : decode cX5_areCats 2 = .ok (.iconst 1, 1) := by decide +kernel
theorem dX5_areCats_3 : decode cX5_areCats 3 = .ok (.aload_n 0, 1) := by decide +kernel
theorem dX5_areCats_4 : decode cX5_areCats 4 = .ok (.getfield 9, 3) := by decide +kernel
theorem dX5_areCats_7 : decode cX5_areCats 7 = .ok (.iconst 4, 1) := by decide +kernel
theorem dX5_areCats_8 : decode cX5_areCats 8 = .ok (.iaload, 1) := by decide +kernel
theorem dX5_areCats_9 : decode cX5_areCats 9 = .ok (.ishl, 1) := by decide +kernel
theorem dX5_areCats_10 : decode cX5_areCats 10 = .ok (.iconst 1, 1) := by decide +kernel
theorem dX5_areCats_11 : decode cX5_areCats 11 = .ok (.isub, 1) := by decide +kernel
theorem dX5_areCats_12 : decode cX5_areCats 12 = .ok (.invokestatic 71, 3) := by decide +kernel
theorem dX5_areCats_15 : decode cX5_areCats 15 = .ok (.ireturn, 1) := by decide +kernel
theorem dX5_at_0 : decode cX5_at 0 = .ok (.sipush 128, 3) := by decide +kernel
theorem dX5_at_3 : decode cX5_at 3 = .ok (.iconst 3, 1) := by decide +kernel
theorem dX5_at_4 : decode cX5_at 4 = .ok (.iload_n 0, 1) := by decide +kernel
theorem dX5_at_5 : decode cX5_at 5 = .ok (.imul, 1) := by decide +kernel
theorem dX5_at_6 : decode cX5_at 6 = .ok (.iadd, 1) := by decide +kernel
theorem dX5_at_7 : decode cX5_at 7 = .ok (.iload_n 1, 1) := by decide +kernel
theorem dX5_at_8 : decode cX5_at 8 = .ok (.iadd, 1) := by decide +kernel
theorem dX5_at_9 : decode cX5_at 9 = .ok (.ireturn, 1) := by decide +kernel
theorem dX5_catIs_0 : decode cX5_catIs 0 = .ok (.aload_n 0, 1) := by decide +kernel
theorem dX5_catIs_1 : decode cX5_catIs 1 = .ok (.getfield 9, 3) := by decide +kernel
theorem dX5_catIs_4 : decode cX5_catIs 4 = .ok (.iload_n 1, 1) := by decide +kernel
theorem dX5_catIs_5 : decode cX5_catIs 5 = .ok (.iload_n 2, 1) := by decide +kernel
theorem dX5_catIs_6 : decode cX5_catIs 6 = .ok (.invokestatic 75, 3) := by decide +kernel
theorem dX5_catIs_9 : decode cX5_catIs 9 = .ok (.iaload, 1) := by decide +kernel
theorem dX5_catIs_10 : decode cX5_catIs 10 = .ok (.ireturn, 1) := by decide +kernel
theorem dX5_atShip_0 : decode cX5_atShip 0 = .ok (.bipush 116, 2) := by decide +kernel
theorem dX5_atShip_2 : decode cX5_atShip 2 = .ok (.iconst 3, 1) := by decide +kernel
theorem dX5_atShip_3 : decode cX5_atShip 3 = .ok (.iload_n 0, 1) := by decide +kernel
theorem dX5_atShip_4 : decode cX5_atShip 4 = .ok (.imul, 1) := by decide +kernel
theorem dX5_atShip_5 : decode cX5_atShip 5 = .ok (.iadd, 1) := by decide +kernel
theorem dX5_atShip_6 : decode cX5_atShip 6 = .ok (.iload_n 1, 1) := by decide +kernel
theorem dX5_atShip_7 : decode cX5_atShip 7 = .ok (.iadd, 1) := by decide +kernel
theorem dX5_atShip_8 : decode cX5_atShip 8 = .ok (.ireturn, 1) := by decide +kernel
theorem dX5_shipIs_0 : decode cX5_shipIs 0 = .ok (.aload_n 0, 1) := by decide +kernel
theorem dX5_shipIs_1 : decode cX5_shipIs 1 = .ok (.getfield 9, 3) := by decide +kernel
theorem dX5_shipIs_4 : decode cX5_shipIs 4 = .ok (.iload_n 1, 1) := by decide +kernel
theorem dX5_shipIs_5 : decode cX5_shipIs 5 = .ok (.iload_n 2, 1) := by decide +kernel
theorem dX5_shipIs_6 : decode cX5_shipIs 6 = .ok (.invokestatic 79, 3) := by decide +kernel
theorem dX5_shipIs_9 : decode cX5_shipIs 9 = .ok (.iaload, 1) := by decide +kernel
theorem dX5_shipIs_10 : decode cX5_shipIs 10 = .ok (.ireturn, 1) := by decide +kernel
theorem dX5_comes_0 : decode cX5_comes 0 = .ok (.aload_n 0, 1) := by decide +kernel
theorem dX5_comes_1 : decode cX5_comes 1 = .ok (.getfield 9, 3) := by decide +kernel
theorem dX5_comes_4 : decode cX5_comes 4 = .ok (.iconst 4, 1) := by decide +kernel
theorem dX5_comes_5 : decode cX5_comes 5 = .ok (.iaload, 1) := by decide +kernel
theorem dX5_comes_6 : decode cX5_comes 6 = .ok (.istore 4, 2) := by decide +kernel
theorem dX5_comes_8 : decode cX5_comes 8 = .ok (.aload_n 0, 1) := by decide +kernel
theorem dX5_comes_9 : decode cX5_comes 9 = .ok (.getfield 9, 3) := by decide +kernel
theorem dX5_comes_12 : decode cX5_comes 12 = .ok (.iload 4, 2) := by decide +kernel
theorem dX5_comes_14 : decode cX5_comes 14 = .ok (.iconst 0, 1) := by decide +kernel
theorem dX5_comes_15 : decode cX5_comes 15 = .ok (.invokestatic 75, 3) := by decide +kernel
theorem dX5_comes_18 : decode cX5_comes 18 = .ok (.iload_n 1, 1) := by decide +kernel
theorem dX5_comes_19 : decode cX5_comes 19 = .ok (.iastore, 1) := by decide +kernel
theorem dX5_comes_20 : decode cX5_comes 20 = .ok (.aload_n 0, 1) := by decide +kernel
theorem dX5_comes_21 : decode cX5_comes 21 = .ok (.getfield 9, 3) := by decide +kernel
theorem dX5_comes_24 : decode cX5_comes 24 = .ok (.iload 4, 2) := by decide +kernel
theorem dX5_comes_26 : decode cX5_comes 26 = .ok (.iconst 1, 1) := by decide +kernel
theorem dX5_comes_27 : decode cX5_comes 27 = .ok (.invokestatic 75, 3) := by decide +kernel
theorem dX5_comes_30 : decode cX5_comes 30 = .ok (.iload_n 2, 1) := by decide +kernel
theorem dX5_comes_31 : decode cX5_comes 31 = .ok (.iastore, 1) := by decide +kernel
theorem dX5_comes_32 : decode cX5_comes 32 = .ok (.aload_n 0, 1) := by decide +kernel
theorem dX5_comes_33 : decode cX5_comes 33 = .ok (.getfield 9, 3) := by decide +kernel
theorem dX5_comes_36 : decode cX5_comes 36 = .ok (.iload 4, 2) := by decide +kernel
theorem dX5_comes_38 : decode cX5_comes 38 = .ok (.iconst 2, 1) := by decide +kernel
theorem dX5_comes_39 : decode cX5_comes 39 = .ok (.invokestatic 75, 3) := by decide +kernel
theorem dX5_comes_42 : decode cX5_comes 42 = .ok (.iload_n 3, 1) := by decide +kernel
theorem dX5_comes_43 : decode cX5_comes 43 = .ok (.iastore, 1) := by decide +kernel
theorem dX5_comes_44 : decode cX5_comes 44 = .ok (.aload_n 0, 1) := by decide +kernel
theorem dX5_comes_45 : decode cX5_comes 45 = .ok (.getfield 9, 3) := by decide +kernel
theorem dX5_comes_48 : decode cX5_comes 48 = .ok (.iconst 4, 1) := by decide +kernel
theorem dX5_comes_49 : decode cX5_comes 49 = .ok (.dup2, 1) := by decide +kernel
theorem dX5_comes_50 : decode cX5_comes 50 = .ok (.iaload, 1) := by decide +kernel
theorem dX5_comes_51 : decode cX5_comes 51 = .ok (.iconst 1, 1) := by decide +kernel
theorem dX5_comes_52 : decode cX5_comes 52 = .ok (.iadd, 1) := by decide +kernel
theorem dX5_comes_53 : decode cX5_comes 53 = .ok (.iastore, 1) := by decide +kernel
theorem dX5_comes_54 : decode cX5_comes 54 = .ok (.iload 4, 2) := by decide +kernel
theorem dX5_comes_56 : decode cX5_comes 56 = .ok (.ireturn, 1) := by decide +kernel
theorem dX5_cat_0 : decode cX5_cat 0 = .ok (.iload_n 1, 1) := by decide +kernel
theorem dX5_cat_1 : decode cX5_cat 1 = .ok (.invokestatic 82, 3) := by decide +kernel
theorem dX5_cat_4 : decode cX5_cat 4 = .ok (.ifCond .ne 10, 3) := by decide +kernel
theorem dX5_cat_7 : decode cX5_cat 7 = .ok (.aload_n 0, 1) := by decide +kernel
theorem dX5_cat_8 : decode cX5_cat 8 = .ok (.ldc 66, 2) := by decide +kernel
theorem dX5_cat_10 : decode cX5_cat 10 = .ok (.invokevirtual 86, 3) := by decide +kernel
theorem dX5_cat_13 : decode cX5_cat 13 = .ok (.ireturn, 1) := by decide +kernel
theorem dX5_cat_14 : decode cX5_cat 14 = .ok (.aload_n 0, 1) := by decide +kernel
theorem dX5_cat_15 : decode cX5_cat 15 = .ok (.getfield 9, 3) := by decide +kernel
theorem dX5_cat_18 : decode cX5_cat 18 = .ok (.iconst 4, 1) := by decide +kernel
theorem dX5_cat_19 : decode cX5_cat 19 = .ok (.iaload, 1) := by decide +kernel
theorem dX5_cat_20 : decode cX5_cat 20 = .ok (.bipush 8, 2) := by decide +kernel
theorem dX5_cat_22 : decode cX5_cat 22 = .ok (.if_icmp .ne 12, 3) := by decide +kernel
theorem dX5_cat_25 : decode cX5_cat 25 = .ok (.aload_n 0, 1) := by decide +kernel
theorem dX5_cat_26 : decode cX5_cat 26 = .ok (.ldc 90, 2) := by decide +kernel
theorem dX5_cat_28 : decode cX5_cat 28 = .ok (.invokevirtual 86, 3) := by decide +kernel
theorem dX5_cat_31 : decode cX5_cat 31 = .ok (.goto 10, 3) := by decide +kernel
theorem dX5_cat_34 : decode cX5_cat 34 = .ok (.aload_n 0, 1) := by decide +kernel
theorem dX5_cat_35 : decode cX5_cat 35 = .ok (.iload_n 1, 1) := by decide +kernel
theorem dX5_cat_36 : decode cX5_cat 36 = .ok (.iconst 0, 1) := by decide +kernel
theorem dX5_cat_37 : decode cX5_cat 37 = .ok (.iconst 0, 1) := by decide +kernel
theorem dX5_cat_38 : decode cX5_cat 38 = .ok (.invokevirtual 91, 3) := by decide +kernel
theorem dX5_cat_41 : decode cX5_cat 41 = .ok (.ireturn, 1) := by decide +kernel
theorem dX5_above_0 : decode cX5_above 0 = .ok (.iload_n 0, 1) := by decide +kernel
theorem dX5_above_1 : decode cX5_above 1 = .ok (.ifCond .ne 7, 3) := by decide +kernel
theorem dX5_above_4 : decode cX5_above 4 = .ok (.iconst (-1), 1) := by decide +kernel
theorem dX5_above_5 : decode cX5_above 5 = .ok (.goto 32, 3) := by decide +kernel
theorem dX5_above_8 : decode cX5_above 8 = .ok (.iload_n 0, 1) := by decide +kernel
theorem dX5_above_9 : decode cX5_above 9 = .ok (.iconst 3, 1) := by decide +kernel
theorem dX5_above_10 : decode cX5_above 10 = .ok (.if_icmp .ne 7, 3) := by decide +kernel
theorem dX5_above_13 : decode cX5_above 13 = .ok (.iconst 1, 1) := by decide +kernel
theorem dX5_above_14 : decode cX5_above 14 = .ok (.goto 23, 3) := by decide +kernel
theorem dX5_above_17 : decode cX5_above 17 = .ok (.iload_n 0, 1) := by decide +kernel
theorem dX5_above_18 : decode cX5_above 18 = .ok (.iconst 4, 1) := by decide +kernel
theorem dX5_above_19 : decode cX5_above 19 = .ok (.if_icmp .ne 7, 3) := by decide +kernel
theorem dX5_above_22 : decode cX5_above 22 = .ok (.iconst 3, 1) := by decide +kernel
theorem dX5_above_23 : decode cX5_above 23 = .ok (.goto 14, 3) := by decide +kernel
theorem dX5_above_26 : decode cX5_above 26 = .ok (.iload_n 0, 1) := by decide +kernel
theorem dX5_above_27 : decode cX5_above 27 = .ok (.bipush 6, 2) := by decide +kernel
theorem dX5_above_29 : decode cX5_above 29 = .ok (.if_icmp .ne 7, 3) := by decide +kernel
theorem dX5_above_32 : decode cX5_above 32 = .ok (.iconst 2, 1) := by decide +kernel
theorem dX5_above_33 : decode cX5_above 33 = .ok (.goto 4, 3) := by decide +kernel
theorem dX5_above_36 : decode cX5_above 36 = .ok (.iconst 0, 1) := by decide +kernel
theorem dX5_above_37 : decode cX5_above 37 = .ok (.ireturn, 1) := by decide +kernel
theorem dX5_isUnder_0 : decode cX5_isUnder 0 = .ok (.iload_n 0, 1) := by decide +kernel
theorem dX5_isUnder_1 : decode cX5_isUnder 1 = .ok (.istore_n 2, 1) := by decide +kernel
theorem dX5_isUnder_2 : decode cX5_isUnder 2 = .ok (.iload_n 2, 1) := by decide +kernel
theorem dX5_isUnder_3 : decode cX5_isUnder 3 = .ok (.ifCond .lt 16, 3) := by decide +kernel
theorem dX5_isUnder_6 : decode cX5_isUnder 6 = .ok (.iload_n 2, 1) := by decide +kernel
theorem dX5_isUnder_7 : decode cX5_isUnder 7 = .ok (.iload_n 1, 1) := by decide +kernel
theorem dX5_isUnder_8 : decode cX5_isUnder 8 = .ok (.if_icmp .eq 11, 3) := by decide +kernel
theorem dX5_isUnder_11 : decode cX5_isUnder 11 = .ok (.iload_n 2, 1) := by decide +kernel
theorem dX5_isUnder_12 : decode cX5_isUnder 12 = .ok (.invokestatic 95, 3) := by decide +kernel
theorem dX5_isUnder_15 : decode cX5_isUnder 15 = .ok (.istore_n 2, 1) := by decide +kernel
theorem dX5_isUnder_16 : decode cX5_isUnder 16 = .ok (.goto (-14), 3) := by decide +kernel
theorem dX5_isUnder_19 : decode cX5_isUnder 19 = .ok (.iload_n 2, 1) := by decide +kernel
theorem dX5_isUnder_20 : decode cX5_isUnder 20 = .ok (.ifCond .lt 7, 3) := by decide +kernel
theorem dX5_isUnder_23 : decode cX5_isUnder 23 = .ok (.iconst 1, 1) := by decide +kernel
theorem dX5_isUnder_24 : decode cX5_isUnder 24 = .ok (.goto 4, 3) := by decide +kernel
theorem dX5_isUnder_27 : decode cX5_isUnder 27 = .ok (.iconst 0, 1) := by decide +kernel
theorem dX5_isUnder_28 : decode cX5_isUnder 28 = .ok (.ireturn, 1) := by decide +kernel
theorem dX5_errs_0 : decode cX5_errs 0 = .ok (.aload_n 0, 1) := by decide +kernel
theorem dX5_errs_1 : decode cX5_errs 1 = .ok (.getfield 9, 3) := by decide +kernel
theorem dX5_errs_4 : decode cX5_errs 4 = .ok (.iconst 0, 1) := by decide +kernel
theorem dX5_errs_5 : decode cX5_errs 5 = .ok (.iaload, 1) := by decide +kernel
theorem dX5_errs_6 : decode cX5_errs 6 = .ok (.bipush 16, 2) := by decide +kernel
theorem dX5_errs_8 : decode cX5_errs 8 = .ok (.irem, 1) := by decide +kernel
theorem dX5_errs_9 : decode cX5_errs 9 = .ok (.istore_n 2, 1) := by decide +kernel
theorem dX5_errs_10 : decode cX5_errs 10 = .ok (.aload_n 0, 1) := by decide +kernel
theorem dX5_errs_11 : decode cX5_errs 11 = .ok (.iload_n 1, 1) := by decide +kernel
theorem dX5_errs_12 : decode cX5_errs 12 = .ok (.iconst 1, 1) := by decide +kernel
theorem dX5_errs_13 : decode cX5_errs 13 = .ok (.invokevirtual 98, 3) := by decide +kernel
theorem dX5_errs_16 : decode cX5_errs 16 = .ok (.bipush 10, 2) := by decide +kernel
theorem dX5_errs_18 : decode cX5_errs 18 = .ok (.idiv, 1) := by decide +kernel
theorem dX5_errs_19 : decode cX5_errs 19 = .ok (.istore_n 3, 1) := by decide +kernel
theorem dX5_errs_20 : decode cX5_errs 20 = .ok (.iload_n 3, 1) := by decide +kernel
theorem dX5_errs_21 : decode cX5_errs 21 = .ok (.aload_n 0, 1) := by decide +kernel
theorem dX5_errs_22 : decode cX5_errs 22 = .ok (.getfield 9, 3) := by decide +kernel
theorem dX5_errs_25 : decode cX5_errs 25 = .ok (.iconst 3, 1) := by decide +kernel
theorem dX5_errs_26 : decode cX5_errs 26 = .ok (.iaload, 1) := by decide +kernel
theorem dX5_errs_27 : decode cX5_errs 27 = .ok (.iload_n 2, 1) := by decide +kernel
theorem dX5_errs_28 : decode cX5_errs 28 = .ok (.invokestatic 101, 3) := by decide +kernel
theorem dX5_errs_31 : decode cX5_errs 31 = .ok (.ifCond .eq 7, 3) := by decide +kernel
theorem dX5_errs_34 : decode cX5_errs 34 = .ok (.iconst 2, 1) := by decide +kernel
theorem dX5_errs_35 : decode cX5_errs 35 = .ok (.goto 4, 3) := by decide +kernel
theorem dX5_errs_38 : decode cX5_errs 38 = .ok (.iconst 0, 1) := by decide +kernel
theorem dX5_errs_39 : decode cX5_errs 39 = .ok (.iadd, 1) := by decide +kernel
theorem dX5_errs_40 : decode cX5_errs 40 = .ok (.istore 4, 2) := by decide +kernel
theorem dX5_errs_42 : decode cX5_errs 42 = .ok (.aload_n 0, 1) := by decide +kernel
theorem dX5_errs_43 : decode cX5_errs 43 = .ok (.iload_n 1, 1) := by decide +kernel
theorem dX5_errs_44 : decode cX5_errs 44 = .ok (.iconst 1, 1) := by decide +kernel
theorem dX5_errs_45 : decode cX5_errs 45 = .ok (.invokevirtual 98, 3) := by decide +kernel
theorem dX5_errs_48 : decode cX5_errs 48 = .ok (.bipush 50, 2) := by decide +kernel
theorem dX5_errs_50 : decode cX5_errs 50 = .ok (.if_icmp .lt 12, 3) := by decide +kernel
theorem dX5_errs_53 : decode cX5_errs 53 = .ok (.aload_n 0, 1) := by decide +kernel
theorem dX5_errs_54 : decode cX5_errs 54 = .ok (.iload_n 1, 1) := by decide +kernel
theorem dX5_errs_55 : decode cX5_errs 55 = .ok (.iconst 2, 1) := by decide +kernel
theorem dX5_errs_56 : decode cX5_errs 56 = .ok (.invokevirtual 98, 3) := by decide +kernel
theorem dX5_errs_59 : decode cX5_errs 59 = .ok (.goto 5, 3) := by decide +kernel
theorem dX5_errs_62 : decode cX5_errs 62 = .ok (.iload 4, 2) := by decide +kernel
theorem dX5_errs_64 : decode cX5_errs 64 = .ok (.istore 5, 2) := by decide +kernel
theorem dX5_errs_66 : decode cX5_errs 66 = .ok (.iload_n 3, 1) := by decide +kernel
theorem dX5_errs_67 : decode cX5_errs 67 = .ok (.iload_n 2, 1) := by decide +kernel
theorem dX5_errs_68 : decode cX5_errs 68 = .ok (.iconst 5, 1) := by decide +kernel
theorem dX5_errs_69 : decode cX5_errs 69 = .ok (.irem, 1) := by decide +kernel
theorem dX5_errs_70 : decode cX5_errs 70 = .ok (.iadd, 1) := by decide +kernel
theorem dX5_errs_71 : decode cX5_errs 71 = .ok (.iconst 2, 1) := by decide +kernel
theorem dX5_errs_72 : decode cX5_errs 72 = .ok (.isub, 1) := by decide +kernel
theorem dX5_errs_73 : decode cX5_errs 73 = .ok (.istore 6, 2) := by decide +kernel
theorem dX5_errs_75 : decode cX5_errs 75 = .ok (.aload_n 0, 1) := by decide +kernel
theorem dX5_errs_76 : decode cX5_errs 76 = .ok (.iload_n 1, 1) := by decide +kernel
theorem dX5_errs_77 : decode cX5_errs 77 = .ok (.iconst 0, 1) := by decide +kernel
theorem dX5_errs_78 : decode cX5_errs 78 = .ok (.invokevirtual 98, 3) := by decide +kernel
theorem dX5_errs_81 : decode cX5_errs 81 = .ok (.tableswitch 63 1 6 #[39, 42, 45, 48, 54, 58], 39) := by decide +kernel
theorem dX5_errs_120 : decode cX5_errs 120 = .ok (.iload 4, 2) := by decide +kernel
theorem dX5_errs_122 : decode cX5_errs 122 = .ok (.ireturn, 1) := by decide +kernel
theorem dX5_errs_123 : decode cX5_errs 123 = .ok (.iload 6, 2) := by decide +kernel
theorem dX5_errs_125 : decode cX5_errs 125 = .ok (.ireturn, 1) := by decide +kernel
theorem dX5_errs_126 : decode cX5_errs 126 = .ok (.iload 5, 2) := by decide +kernel
theorem dX5_errs_128 : decode cX5_errs 128 = .ok (.ireturn, 1) := by decide +kernel
theorem dX5_errs_129 : decode cX5_errs 129 = .ok (.bipush 16, 2) := by decide +kernel
theorem dX5_errs_131 : decode cX5_errs 131 = .ok (.iload 5, 2) := by decide +kernel
theorem dX5_errs_133 : decode cX5_errs 133 = .ok (.isub, 1) := by decide +kernel
theorem dX5_errs_134 : decode cX5_errs 134 = .ok (.ireturn, 1) := by decide +kernel
theorem dX5_errs_135 : decode cX5_errs 135 = .ok (.iload_n 3, 1) := by decide +kernel
theorem dX5_errs_136 : decode cX5_errs 136 = .ok (.iconst 2, 1) := by decide +kernel
theorem dX5_errs_137 : decode cX5_errs 137 = .ok (.idiv, 1) := by decide +kernel
theorem dX5_errs_138 : decode cX5_errs 138 = .ok (.ireturn, 1) := by decide +kernel
theorem dX5_errs_139 : decode cX5_errs 139 = .ok (.iload 6, 2) := by decide +kernel
theorem dX5_errs_141 : decode cX5_errs 141 = .ok (.iconst 1, 1) := by decide +kernel
theorem dX5_errs_142 : decode cX5_errs 142 = .ok (.iadd, 1) := by decide +kernel
theorem dX5_errs_143 : decode cX5_errs 143 = .ok (.ireturn, 1) := by decide +kernel
theorem dX5_errs_144 : decode cX5_errs 144 = .ok (.iload_n 3, 1) := by decide +kernel
theorem dX5_errs_145 : decode cX5_errs 145 = .ok (.ireturn, 1) := by decide +kernel
theorem dX5_of_0 : decode cX5_of 0 = .ok (.aload_n 0, 1) := by decide +kernel
theorem dX5_of_1 : decode cX5_of 1 = .ok (.iload_n 1, 1) := by decide +kernel
theorem dX5_of_2 : decode cX5_of 2 = .ok (.invokevirtual 105, 3) := by decide +kernel
theorem dX5_of_5 : decode cX5_of 5 = .ok (.ifCond .eq 12, 3) := by decide +kernel
theorem dX5_of_8 : decode cX5_of 8 = .ok (.iload_n 2, 1) := by decide +kernel
theorem dX5_of_9 : decode cX5_of 9 = .ok (.iconst 0, 1) := by decide +kernel
theorem dX5_of_10 : decode cX5_of 10 = .ok (.iconst 3, 1) := by decide +kernel
theorem dX5_of_11 : decode cX5_of 11 = .ok (.invokestatic 71, 3) := by decide +kernel
theorem dX5_of_14 : decode cX5_of 14 = .ok (.ifCond .ne 10, 3) := by decide +kernel
theorem dX5_of_17 : decode cX5_of 17 = .ok (.aload_n 0, 1) := by decide +kernel
theorem dX5_of_18 : decode cX5_of 18 = .ok (.ldc 66, 2) := by decide +kernel
theorem dX5_of_20 : decode cX5_of 20 = .ok (.invokevirtual 86, 3) := by decide +kernel
theorem dX5_of_23 : decode cX5_of 23 = .ok (.ireturn, 1) := by decide +kernel
theorem dX5_of_24 : decode cX5_of 24 = .ok (.iload_n 2, 1) := by decide +kernel
theorem dX5_of_25 : decode cX5_of 25 = .ok (.iconst 3, 1) := by decide +kernel
theorem dX5_of_26 : decode cX5_of 26 = .ok (.if_icmp .ge 12, 3) := by decide +kernel
theorem dX5_of_29 : decode cX5_of 29 = .ok (.aload_n 0, 1) := by decide +kernel
theorem dX5_of_30 : decode cX5_of 30 = .ok (.iload_n 1, 1) := by decide +kernel
theorem dX5_of_31 : decode cX5_of 31 = .ok (.iload_n 2, 1) := by decide +kernel
theorem dX5_of_32 : decode cX5_of 32 = .ok (.invokevirtual 98, 3) := by decide +kernel
theorem dX5_of_35 : decode cX5_of 35 = .ok (.goto 8, 3) := by decide +kernel
theorem dX5_of_38 : decode cX5_of 38 = .ok (.aload_n 0, 1) := by decide +kernel
theorem dX5_of_39 : decode cX5_of 39 = .ok (.iload_n 1, 1) := by decide +kernel
theorem dX5_of_40 : decode cX5_of 40 = .ok (.invokevirtual 108, 3) := by decide +kernel
theorem dX5_of_43 : decode cX5_of 43 = .ok (.ireturn, 1) := by decide +kernel
theorem dX5_change_0 : decode cX5_change 0 = .ok (.iload_n 2, 1) := by decide +kernel
theorem dX5_change_1 : decode cX5_change 1 = .ok (.ifCond .ne 10, 3) := by decide +kernel
theorem dX5_change_4 : decode cX5_change 4 = .ok (.iload_n 3, 1) := by decide +kernel
theorem dX5_change_5 : decode cX5_change 5 = .ok (.invokestatic 82, 3) := by decide +kernel
theorem dX5_change_8 : decode cX5_change 8 = .ok (.ifCond .ne 34, 3) := by decide +kernel
theorem dX5_change_11 : decode cX5_change 11 = .ok (.iload_n 2, 1) := by decide +kernel
theorem dX5_change_12 : decode cX5_change 12 = .ok (.iconst 1, 1) := by decide +kernel
theorem dX5_change_13 : decode cX5_change 13 = .ok (.if_icmp .ne 13, 3) := by decide +kernel
theorem dX5_change_16 : decode cX5_change 16 = .ok (.iload_n 3, 1) := by decide +kernel
theorem dX5_change_17 : decode cX5_change 17 = .ok (.iconst 0, 1) := by decide +kernel
theorem dX5_change_18 : decode cX5_change 18 = .ok (.bipush 99, 2) := by decide +kernel
theorem dX5_change_20 : decode cX5_change 20 = .ok (.invokestatic 71, 3) := by decide +kernel
theorem dX5_change_23 : decode cX5_change 23 = .ok (.ifCond .ne 19, 3) := by decide +kernel
theorem dX5_change_26 : decode cX5_change 26 = .ok (.iload_n 2, 1) := by decide +kernel
theorem dX5_change_27 : decode cX5_change 27 = .ok (.iconst 2, 1) := by decide +kernel
theorem dX5_change_28 : decode cX5_change 28 = .ok (.if_icmp .ne 18, 3) := by decide +kernel
theorem dX5_change_31 : decode cX5_change 31 = .ok (.iload_n 3, 1) := by decide +kernel
theorem dX5_change_32 : decode cX5_change 32 = .ok (.bipush (-15), 2) := by decide +kernel
theorem dX5_change_34 : decode cX5_change 34 = .ok (.bipush 15, 2) := by decide +kernel
theorem dX5_change_36 : decode cX5_change 36 = .ok (.invokestatic 71, 3) := by decide +kernel
theorem dX5_change_39 : decode cX5_change 39 = .ok (.ifCond .eq 7, 3) := by decide +kernel
theorem dX5_change_42 : decode cX5_change 42 = .ok (.iconst 1, 1) := by decide +kernel
theorem dX5_change_43 : decode cX5_change 43 = .ok (.goto 4, 3) := by decide +kernel
theorem dX5_change_46 : decode cX5_change 46 = .ok (.iconst 0, 1) := by decide +kernel
theorem dX5_change_47 : decode cX5_change 47 = .ok (.istore 4, 2) := by decide +kernel
theorem dX5_change_49 : decode cX5_change 49 = .ok (.aload_n 0, 1) := by decide +kernel
theorem dX5_change_50 : decode cX5_change 50 = .ok (.iload_n 1, 1) := by decide +kernel
theorem dX5_change_51 : decode cX5_change 51 = .ok (.invokevirtual 105, 3) := by decide +kernel
theorem dX5_change_54 : decode cX5_change 54 = .ok (.ifCond .eq 21, 3) := by decide +kernel
theorem dX5_change_57 : decode cX5_change 57 = .ok (.iload 4, 2) := by decide +kernel
theorem dX5_change_59 : decode cX5_change 59 = .ok (.ifCond .eq 16, 3) := by decide +kernel
theorem dX5_change_62 : decode cX5_change 62 = .ok (.aload_n 0, 1) := by decide +kernel
theorem dX5_change_63 : decode cX5_change 63 = .ok (.iload_n 1, 1) := by decide +kernel
theorem dX5_change_64 : decode cX5_change 64 = .ok (.iload_n 2, 1) := by decide +kernel
theorem dX5_change_65 : decode cX5_change 65 = .ok (.invokestatic 75, 3) := by decide +kernel
theorem dX5_change_68 : decode cX5_change 68 = .ok (.iload_n 3, 1) := by decide +kernel
theorem dX5_change_69 : decode cX5_change 69 = .ok (.invokevirtual 111, 3) := by decide +kernel
theorem dX5_change_72 : decode cX5_change 72 = .ok (.goto 9, 3) := by decide +kernel
theorem dX5_change_75 : decode cX5_change 75 = .ok (.aload_n 0, 1) := by decide +kernel
theorem dX5_change_76 : decode cX5_change 76 = .ok (.ldc 66, 2) := by decide +kernel
theorem dX5_change_78 : decode cX5_change 78 = .ok (.invokevirtual 86, 3) := by decide +kernel
theorem dX5_change_81 : decode cX5_change 81 = .ok (.ireturn, 1) := by decide +kernel
theorem dX5_meanOf_0 : decode cX5_meanOf 0 = .ok (.iconst 0, 1) := by decide +kernel
theorem dX5_meanOf_1 : decode cX5_meanOf 1 = .ok (.istore_n 2, 1) := by decide +kernel
theorem dX5_meanOf_2 : decode cX5_meanOf 2 = .ok (.iconst 0, 1) := by decide +kernel
theorem dX5_meanOf_3 : decode cX5_meanOf 3 = .ok (.istore_n 3, 1) := by decide +kernel
theorem dX5_meanOf_4 : decode cX5_meanOf 4 = .ok (.iload_n 3, 1) := by decide +kernel
theorem dX5_meanOf_5 : decode cX5_meanOf 5 = .ok (.aload_n 0, 1) := by decide +kernel
theorem dX5_meanOf_6 : decode cX5_meanOf 6 = .ok (.getfield 9, 3) := by decide +kernel
theorem dX5_meanOf_9 : decode cX5_meanOf 9 = .ok (.iconst 4, 1) := by decide +kernel
theorem dX5_meanOf_10 : decode cX5_meanOf 10 = .ok (.iaload, 1) := by decide +kernel
theorem dX5_meanOf_11 : decode cX5_meanOf 11 = .ok (.if_icmp .ge 29, 3) := by decide +kernel
theorem dX5_meanOf_14 : decode cX5_meanOf 14 = .ok (.iload_n 2, 1) := by decide +kernel
theorem dX5_meanOf_15 : decode cX5_meanOf 15 = .ok (.iload_n 1, 1) := by decide +kernel
theorem dX5_meanOf_16 : decode cX5_meanOf 16 = .ok (.iload_n 3, 1) := by decide +kernel
theorem dX5_meanOf_17 : decode cX5_meanOf 17 = .ok (.invokestatic 101, 3) := by decide +kernel
theorem dX5_meanOf_20 : decode cX5_meanOf 20 = .ok (.ifCond .eq 11, 3) := by decide +kernel
theorem dX5_meanOf_23 : decode cX5_meanOf 23 = .ok (.aload_n 0, 1) := by decide +kernel
theorem dX5_meanOf_24 : decode cX5_meanOf 24 = .ok (.iload_n 3, 1) := by decide +kernel
theorem dX5_meanOf_25 : decode cX5_meanOf 25 = .ok (.invokevirtual 108, 3) := by decide +kernel
theorem dX5_meanOf_28 : decode cX5_meanOf 28 = .ok (.goto 4, 3) := by decide +kernel
theorem dX5_meanOf_31 : decode cX5_meanOf 31 = .ok (.iconst 0, 1) := by decide +kernel
theorem dX5_meanOf_32 : decode cX5_meanOf 32 = .ok (.iadd, 1) := by decide +kernel
theorem dX5_meanOf_33 : decode cX5_meanOf 33 = .ok (.istore_n 2, 1) := by decide +kernel
theorem dX5_meanOf_34 : decode cX5_meanOf 34 = .ok (.iinc 3 1, 3) := by decide +kernel
theorem dX5_meanOf_37 : decode cX5_meanOf 37 = .ok (.goto (-33), 3) := by decide +kernel
theorem dX5_meanOf_40 : decode cX5_meanOf 40 = .ok (.iload_n 1, 1) := by decide +kernel
theorem dX5_meanOf_41 : decode cX5_meanOf 41 = .ok (.ifCond .ne 7, 3) := by decide +kernel
theorem dX5_meanOf_44 : decode cX5_meanOf 44 = .ok (.iconst 0, 1) := by decide +kernel
theorem dX5_meanOf_45 : decode cX5_meanOf 45 = .ok (.goto 9, 3) := by decide +kernel
theorem dX5_meanOf_48 : decode cX5_meanOf 48 = .ok (.iload_n 2, 1) := by decide +kernel
theorem dX5_meanOf_49 : decode cX5_meanOf 49 = .ok (.iload_n 1, 1) := by decide +kernel
theorem dX5_meanOf_50 : decode cX5_meanOf 50 = .ok (.invokestatic 114, 3) := by decide +kernel
theorem dX5_meanOf_53 : decode cX5_meanOf 53 = .ok (.idiv, 1) := by decide +kernel
theorem dX5_meanOf_54 : decode cX5_meanOf 54 = .ok (.ireturn, 1) := by decide +kernel
theorem dX5_reads_0 : decode cX5_reads 0 = .ok (.aload_n 0, 1) := by decide +kernel
theorem dX5_reads_1 : decode cX5_reads 1 = .ok (.aload_n 0, 1) := by decide +kernel
theorem dX5_reads_2 : decode cX5_reads 2 = .ok (.iload_n 1, 1) := by decide +kernel
theorem dX5_reads_3 : decode cX5_reads 3 = .ok (.iconst 2, 1) := by decide +kernel
theorem dX5_reads_4 : decode cX5_reads 4 = .ok (.invokevirtual 117, 3) := by decide +kernel
theorem dX5_reads_7 : decode cX5_reads 7 = .ok (.invokevirtual 120, 3) := by decide +kernel
theorem dX5_reads_10 : decode cX5_reads 10 = .ok (.ireturn, 1) := by decide +kernel
theorem dX5_course_0 : decode cX5_course 0 = .ok (.aload_n 0, 1) := by decide +kernel
theorem dX5_course_1 : decode cX5_course 1 = .ok (.iload_n 1, 1) := by decide +kernel
theorem dX5_course_2 : decode cX5_course 2 = .ok (.iconst 1, 1) := by decide +kernel
theorem dX5_course_3 : decode cX5_course 3 = .ok (.invokevirtual 117, 3) := by decide +kernel
theorem dX5_course_6 : decode cX5_course 6 = .ok (.aload_n 0, 1) := by decide +kernel
theorem dX5_course_7 : decode cX5_course 7 = .ok (.iload_n 1, 1) := by decide +kernel
theorem dX5_course_8 : decode cX5_course 8 = .ok (.invokevirtual 123, 3) := by decide +kernel
theorem dX5_course_11 : decode cX5_course 11 = .ok (.iadd, 1) := by decide +kernel
theorem dX5_course_12 : decode cX5_course 12 = .ok (.bipush 32, 2) := by decide +kernel
theorem dX5_course_14 : decode cX5_course 14 = .ok (.irem, 1) := by decide +kernel
theorem dX5_course_15 : decode cX5_course 15 = .ok (.istore_n 2, 1) := by decide +kernel
theorem dX5_course_16 : decode cX5_course 16 = .ok (.iload_n 2, 1) := by decide +kernel
theorem dX5_course_17 : decode cX5_course 17 = .ok (.ifCond .ge 10, 3) := by decide +kernel
theorem dX5_course_20 : decode cX5_course 20 = .ok (.iload_n 2, 1) := by decide +kernel
theorem dX5_course_21 : decode cX5_course 21 = .ok (.bipush 32, 2) := by decide +kernel
theorem dX5_course_23 : decode cX5_course 23 = .ok (.iadd, 1) := by decide +kernel
theorem dX5_course_24 : decode cX5_course 24 = .ok (.goto 4, 3) := by decide +kernel
theorem dX5_course_27 : decode cX5_course 27 = .ok (.iload_n 2, 1) := by decide +kernel
theorem dX5_course_28 : decode cX5_course 28 = .ok (.ireturn, 1) := by decide +kernel
theorem dX5_beside_0 : decode cX5_beside 0 = .ok (.iload_n 1, 1) := by decide +kernel
theorem dX5_beside_1 : decode cX5_beside 1 = .ok (.bipush 10, 2) := by decide +kernel
theorem dX5_beside_3 : decode cX5_beside 3 = .ok (.idiv, 1) := by decide +kernel
theorem dX5_beside_4 : decode cX5_beside 4 = .ok (.aload_n 0, 1) := by decide +kernel
theorem dX5_beside_5 : decode cX5_beside 5 = .ok (.getfield 22, 3) := by decide +kernel
theorem dX5_beside_8 : decode cX5_beside 8 = .ok (.iload_n 2, 1) := by decide +kernel
theorem dX5_beside_9 : decode cX5_beside 9 = .ok (.iaload, 1) := by decide +kernel
theorem dX5_beside_10 : decode cX5_beside 10 = .ok (.iadd, 1) := by decide +kernel
theorem dX5_beside_11 : decode cX5_beside 11 = .ok (.istore_n 3, 1) := by decide +kernel
theorem dX5_beside_12 : decode cX5_beside 12 = .ok (.iload_n 1, 1) := by decide +kernel
theorem dX5_beside_13 : decode cX5_beside 13 = .ok (.bipush 10, 2) := by decide +kernel
theorem dX5_beside_15 : decode cX5_beside 15 = .ok (.irem, 1) := by decide +kernel
theorem dX5_beside_16 : decode cX5_beside 16 = .ok (.aload_n 0, 1) := by decide +kernel
theorem dX5_beside_17 : decode cX5_beside 17 = .ok (.getfield 25, 3) := by decide +kernel
theorem dX5_beside_20 : decode cX5_beside 20 = .ok (.iload_n 2, 1) := by decide +kernel
theorem dX5_beside_21 : decode cX5_beside 21 = .ok (.iaload, 1) := by decide +kernel
theorem dX5_beside_22 : decode cX5_beside 22 = .ok (.iadd, 1) := by decide +kernel
theorem dX5_beside_23 : decode cX5_beside 23 = .ok (.istore 4, 2) := by decide +kernel
theorem dX5_beside_25 : decode cX5_beside 25 = .ok (.iload_n 3, 1) := by decide +kernel
theorem dX5_beside_26 : decode cX5_beside 26 = .ok (.iconst 0, 1) := by decide +kernel
theorem dX5_beside_27 : decode cX5_beside 27 = .ok (.bipush 9, 2) := by decide +kernel
theorem dX5_beside_29 : decode cX5_beside 29 = .ok (.invokestatic 71, 3) := by decide +kernel
theorem dX5_beside_32 : decode cX5_beside 32 = .ok (.ifCond .eq 24, 3) := by decide +kernel
theorem dX5_beside_35 : decode cX5_beside 35 = .ok (.iload 4, 2) := by decide +kernel
theorem dX5_beside_37 : decode cX5_beside 37 = .ok (.iconst 0, 1) := by decide +kernel
theorem dX5_beside_38 : decode cX5_beside 38 = .ok (.bipush 9, 2) := by decide +kernel
theorem dX5_beside_40 : decode cX5_beside 40 = .ok (.invokestatic 71, 3) := by decide +kernel
theorem dX5_beside_43 : decode cX5_beside 43 = .ok (.ifCond .eq 13, 3) := by decide +kernel
theorem dX5_beside_46 : decode cX5_beside 46 = .ok (.bipush 10, 2) := by decide +kernel
theorem dX5_beside_48 : decode cX5_beside 48 = .ok (.iload_n 3, 1) := by decide +kernel
theorem dX5_beside_49 : decode cX5_beside 49 = .ok (.imul, 1) := by decide +kernel
theorem dX5_beside_50 : decode cX5_beside 50 = .ok (.iload 4, 2) := by decide +kernel
theorem dX5_beside_52 : decode cX5_beside 52 = .ok (.iadd, 1) := by decide +kernel
theorem dX5_beside_53 : decode cX5_beside 53 = .ok (.goto 4, 3) := by decide +kernel
theorem dX5_beside_56 : decode cX5_beside 56 = .ok (.iload_n 1, 1) := by decide +kernel
theorem dX5_beside_57 : decode cX5_beside 57 = .ok (.ireturn, 1) := by decide +kernel
theorem dX5_isIsland_0 : decode cX5_isIsland 0 = .ok (.aload_n 0, 1) := by decide +kernel
theorem dX5_isIsland_1 : decode cX5_isIsland 1 = .ok (.getfield 9, 3) := by decide +kernel
theorem dX5_isIsland_4 : decode cX5_isIsland 4 = .ok (.bipush 16, 2) := by decide +kernel
theorem dX5_isIsland_6 : decode cX5_isIsland 6 = .ok (.iload_n 1, 1) := by decide +kernel
theorem dX5_isIsland_7 : decode cX5_isIsland 7 = .ok (.iadd, 1) := by decide +kernel
theorem dX5_isIsland_8 : decode cX5_isIsland 8 = .ok (.iaload, 1) := by decide +kernel
theorem dX5_isIsland_9 : decode cX5_isIsland 9 = .ok (.iconst 1, 1) := by decide +kernel
theorem dX5_isIsland_10 : decode cX5_isIsland 10 = .ok (.if_icmp .ne 7, 3) := by decide +kernel
theorem dX5_isIsland_13 : decode cX5_isIsland 13 = .ok (.iconst 1, 1) := by decide +kernel
theorem dX5_isIsland_14 : decode cX5_isIsland 14 = .ok (.goto 4, 3) := by decide +kernel
theorem dX5_isIsland_17 : decode cX5_isIsland 17 = .ok (.iconst 0, 1) := by decide +kernel
theorem dX5_isIsland_18 : decode cX5_isIsland 18 = .ok (.ireturn, 1) := by decide +kernel
theorem dX5_isLanded_0 : decode cX5_isLanded 0 = .ok (.aload_n 0, 1) := by decide +kernel
theorem dX5_isLanded_1 : decode cX5_isLanded 1 = .ok (.aload_n 0, 1) := by decide +kernel
theorem dX5_isLanded_2 : decode cX5_isLanded 2 = .ok (.iload_n 1, 1) := by decide +kernel
theorem dX5_isLanded_3 : decode cX5_isLanded 3 = .ok (.iconst 0, 1) := by decide +kernel
theorem dX5_isLanded_4 : decode cX5_isLanded 4 = .ok (.invokevirtual 117, 3) := by decide +kernel
theorem dX5_isLanded_7 : decode cX5_isLanded 7 = .ok (.invokevirtual 126, 3) := by decide +kernel
theorem dX5_isLanded_10 : decode cX5_isLanded 10 = .ok (.ireturn, 1) := by decide +kernel
theorem dX5_goesTo_0 : decode cX5_goesTo 0 = .ok (.aload_n 0, 1) := by decide +kernel
theorem dX5_goesTo_1 : decode cX5_goesTo 1 = .ok (.iload_n 1, 1) := by decide +kernel
theorem dX5_goesTo_2 : decode cX5_goesTo 2 = .ok (.invokevirtual 129, 3) := by decide +kernel
theorem dX5_goesTo_5 : decode cX5_goesTo 5 = .ok (.iconst 2, 1) := by decide +kernel
theorem dX5_goesTo_6 : decode cX5_goesTo 6 = .ok (.iadd, 1) := by decide +kernel
theorem dX5_goesTo_7 : decode cX5_goesTo 7 = .ok (.iconst 4, 1) := by decide +kernel
theorem dX5_goesTo_8 : decode cX5_goesTo 8 = .ok (.idiv, 1) := by decide +kernel
theorem dX5_goesTo_9 : decode cX5_goesTo 9 = .ok (.bipush 8, 2) := by decide +kernel
theorem dX5_goesTo_11 : decode cX5_goesTo 11 = .ok (.irem, 1) := by decide +kernel
theorem dX5_goesTo_12 : decode cX5_goesTo 12 = .ok (.istore_n 2, 1) := by decide +kernel
theorem dX5_goesTo_13 : decode cX5_goesTo 13 = .ok (.aload_n 0, 1) := by decide +kernel
theorem dX5_goesTo_14 : decode cX5_goesTo 14 = .ok (.iload_n 1, 1) := by decide +kernel
theorem dX5_goesTo_15 : decode cX5_goesTo 15 = .ok (.iconst 0, 1) := by decide +kernel
theorem dX5_goesTo_16 : decode cX5_goesTo 16 = .ok (.invokevirtual 117, 3) := by decide +kernel
theorem dX5_goesTo_19 : decode cX5_goesTo 19 = .ok (.istore_n 3, 1) := by decide +kernel
theorem dX5_goesTo_20 : decode cX5_goesTo 20 = .ok (.aload_n 0, 1) := by decide +kernel
theorem dX5_goesTo_21 : decode cX5_goesTo 21 = .ok (.iload_n 1, 1) := by decide +kernel
theorem dX5_goesTo_22 : decode cX5_goesTo 22 = .ok (.invokevirtual 132, 3) := by decide +kernel
theorem dX5_goesTo_25 : decode cX5_goesTo 25 = .ok (.ifCond .ne 13, 3) := by decide +kernel
theorem dX5_goesTo_28 : decode cX5_goesTo 28 = .ok (.iload_n 2, 1) := by decide +kernel
theorem dX5_goesTo_29 : decode cX5_goesTo 29 = .ok (.aload_n 0, 1) := by decide +kernel
theorem dX5_goesTo_30 : decode cX5_goesTo 30 = .ok (.getfield 9, 3) := by decide +kernel
theorem dX5_goesTo_33 : decode cX5_goesTo 33 = .ok (.iconst 2, 1) := by decide +kernel
theorem dX5_goesTo_34 : decode cX5_goesTo 34 = .ok (.iaload, 1) := by decide +kernel
theorem dX5_goesTo_35 : decode cX5_goesTo 35 = .ok (.if_icmp .ne 7, 3) := by decide +kernel
theorem dX5_goesTo_38 : decode cX5_goesTo 38 = .ok (.iload_n 3, 1) := by decide +kernel
theorem dX5_goesTo_39 : decode cX5_goesTo 39 = .ok (.goto 9, 3) := by decide +kernel
theorem dX5_goesTo_42 : decode cX5_goesTo 42 = .ok (.aload_n 0, 1) := by decide +kernel
theorem dX5_goesTo_43 : decode cX5_goesTo 43 = .ok (.iload_n 3, 1) := by decide +kernel
theorem dX5_goesTo_44 : decode cX5_goesTo 44 = .ok (.iload_n 2, 1) := by decide +kernel
theorem dX5_goesTo_45 : decode cX5_goesTo 45 = .ok (.invokevirtual 135, 3) := by decide +kernel
theorem dX5_goesTo_48 : decode cX5_goesTo 48 = .ok (.ireturn, 1) := by decide +kernel
theorem dX5_ship_0 : decode cX5_ship 0 = .ok (.iload_n 1, 1) := by decide +kernel
theorem dX5_ship_1 : decode cX5_ship 1 = .ok (.invokestatic 138, 3) := by decide +kernel
theorem dX5_ship_4 : decode cX5_ship 4 = .ok (.ifCond .eq 13, 3) := by decide +kernel
theorem dX5_ship_7 : decode cX5_ship 7 = .ok (.iload_n 2, 1) := by decide +kernel
theorem dX5_ship_8 : decode cX5_ship 8 = .ok (.iconst 0, 1) := by decide +kernel
theorem dX5_ship_9 : decode cX5_ship 9 = .ok (.bipush 6, 2) := by decide +kernel
theorem dX5_ship_11 : decode cX5_ship 11 = .ok (.invokestatic 71, 3) := by decide +kernel
theorem dX5_ship_14 : decode cX5_ship 14 = .ok (.ifCond .ne 10, 3) := by decide +kernel
theorem dX5_ship_17 : decode cX5_ship 17 = .ok (.aload_n 0, 1) := by decide +kernel
theorem dX5_ship_18 : decode cX5_ship 18 = .ok (.ldc 66, 2) := by decide +kernel
theorem dX5_ship_20 : decode cX5_ship 20 = .ok (.invokevirtual 86, 3) := by decide +kernel
theorem dX5_ship_23 : decode cX5_ship 23 = .ok (.ireturn, 1) := by decide +kernel
theorem dX5_ship_24 : decode cX5_ship 24 = .ok (.iload_n 2, 1) := by decide +kernel
theorem dX5_ship_25 : decode cX5_ship 25 = .ok (.tableswitch 63 3 6 #[31, 37, 43, 49], 31) := by decide +kernel
theorem dX5_ship_56 : decode cX5_ship 56 = .ok (.aload_n 0, 1) := by decide +kernel
theorem dX5_ship_57 : decode cX5_ship 57 = .ok (.iload_n 1, 1) := by decide +kernel
theorem dX5_ship_58 : decode cX5_ship 58 = .ok (.invokevirtual 123, 3) := by decide +kernel
theorem dX5_ship_61 : decode cX5_ship 61 = .ok (.ireturn, 1) := by decide +kernel
theorem dX5_ship_62 : decode cX5_ship 62 = .ok (.aload_n 0, 1) := by decide +kernel
theorem dX5_ship_63 : decode cX5_ship 63 = .ok (.iload_n 1, 1) := by decide +kernel
theorem dX5_ship_64 : decode cX5_ship 64 = .ok (.invokevirtual 129, 3) := by decide +kernel
theorem dX5_ship_67 : decode cX5_ship 67 = .ok (.ireturn, 1) := by decide +kernel
theorem dX5_ship_68 : decode cX5_ship 68 = .ok (.aload_n 0, 1) := by decide +kernel
theorem dX5_ship_69 : decode cX5_ship 69 = .ok (.iload_n 1, 1) := by decide +kernel
theorem dX5_ship_70 : decode cX5_ship 70 = .ok (.invokevirtual 141, 3) := by decide +kernel
theorem dX5_ship_73 : decode cX5_ship 73 = .ok (.ireturn, 1) := by decide +kernel
theorem dX5_ship_74 : decode cX5_ship 74 = .ok (.aload_n 0, 1) := by decide +kernel
theorem dX5_ship_75 : decode cX5_ship 75 = .ok (.iload_n 1, 1) := by decide +kernel
theorem dX5_ship_76 : decode cX5_ship 76 = .ok (.invokevirtual 132, 3) := by decide +kernel
theorem dX5_ship_79 : decode cX5_ship 79 = .ok (.ifCond .eq 7, 3) := by decide +kernel
theorem dX5_ship_82 : decode cX5_ship 82 = .ok (.iconst 1, 1) := by decide +kernel
theorem dX5_ship_83 : decode cX5_ship 83 = .ok (.goto 4, 3) := by decide +kernel
theorem dX5_ship_86 : decode cX5_ship 86 = .ok (.iconst 0, 1) := by decide +kernel
theorem dX5_ship_87 : decode cX5_ship 87 = .ok (.ireturn, 1) := by decide +kernel
theorem dX5_ship_88 : decode cX5_ship 88 = .ok (.aload_n 0, 1) := by decide +kernel
theorem dX5_ship_89 : decode cX5_ship 89 = .ok (.iload_n 1, 1) := by decide +kernel
theorem dX5_ship_90 : decode cX5_ship 90 = .ok (.iload_n 2, 1) := by decide +kernel
theorem dX5_ship_91 : decode cX5_ship 91 = .ok (.invokevirtual 117, 3) := by decide +kernel
theorem dX5_ship_94 : decode cX5_ship 94 = .ok (.ireturn, 1) := by decide +kernel
theorem dX5_steer_0 : decode cX5_steer 0 = .ok (.iload_n 2, 1) := by decide +kernel
theorem dX5_steer_1 : decode cX5_steer 1 = .ok (.ifCond .ne 10, 3) := by decide +kernel
theorem dX5_steer_4 : decode cX5_steer 4 = .ok (.iload_n 3, 1) := by decide +kernel
theorem dX5_steer_5 : decode cX5_steer 5 = .ok (.invokestatic 144, 3) := by decide +kernel
theorem dX5_steer_8 : decode cX5_steer 8 = .ok (.ifCond .ne 31, 3) := by decide +kernel
theorem dX5_steer_11 : decode cX5_steer 11 = .ok (.iload_n 2, 1) := by decide +kernel
theorem dX5_steer_12 : decode cX5_steer 12 = .ok (.iconst 1, 1) := by decide +kernel
theorem dX5_steer_13 : decode cX5_steer 13 = .ok (.if_icmp .ne 13, 3) := by decide +kernel
theorem dX5_steer_16 : decode cX5_steer 16 = .ok (.iload_n 3, 1) := by decide +kernel
theorem dX5_steer_17 : decode cX5_steer 17 = .ok (.iconst 0, 1) := by decide +kernel
theorem dX5_steer_18 : decode cX5_steer 18 = .ok (.bipush 31, 2) := by decide +kernel
theorem dX5_steer_20 : decode cX5_steer 20 = .ok (.invokestatic 71, 3) := by decide +kernel
theorem dX5_steer_23 : decode cX5_steer 23 = .ok (.ifCond .ne 16, 3) := by decide +kernel
theorem dX5_steer_26 : decode cX5_steer 26 = .ok (.iload_n 2, 1) := by decide +kernel
theorem dX5_steer_27 : decode cX5_steer 27 = .ok (.iconst 2, 1) := by decide +kernel
theorem dX5_steer_28 : decode cX5_steer 28 = .ok (.if_icmp .ne 15, 3) := by decide +kernel
theorem dX5_steer_31 : decode cX5_steer 31 = .ok (.aload_n 0, 1) := by decide +kernel
theorem dX5_steer_32 : decode cX5_steer 32 = .ok (.iload_n 3, 1) := by decide +kernel
theorem dX5_steer_33 : decode cX5_steer 33 = .ok (.invokevirtual 147, 3) := by decide +kernel
theorem dX5_steer_36 : decode cX5_steer 36 = .ok (.ifCond .eq 7, 3) := by decide +kernel
theorem dX5_steer_39 : decode cX5_steer 39 = .ok (.iconst 1, 1) := by decide +kernel
theorem dX5_steer_40 : decode cX5_steer 40 = .ok (.goto 4, 3) := by decide +kernel
theorem dX5_steer_43 : decode cX5_steer 43 = .ok (.iconst 0, 1) := by decide +kernel
theorem dX5_steer_44 : decode cX5_steer 44 = .ok (.istore 4, 2) := by decide +kernel
theorem dX5_steer_46 : decode cX5_steer 46 = .ok (.iload_n 1, 1) := by decide +kernel
theorem dX5_steer_47 : decode cX5_steer 47 = .ok (.invokestatic 138, 3) := by decide +kernel
theorem dX5_steer_50 : decode cX5_steer 50 = .ok (.ifCond .eq 21, 3) := by decide +kernel
theorem dX5_steer_53 : decode cX5_steer 53 = .ok (.iload 4, 2) := by decide +kernel
theorem dX5_steer_55 : decode cX5_steer 55 = .ok (.ifCond .eq 16, 3) := by decide +kernel
theorem dX5_steer_58 : decode cX5_steer 58 = .ok (.aload_n 0, 1) := by decide +kernel
theorem dX5_steer_59 : decode cX5_steer 59 = .ok (.iload_n 1, 1) := by decide +kernel
theorem dX5_steer_60 : decode cX5_steer 60 = .ok (.iload_n 2, 1) := by decide +kernel
theorem dX5_steer_61 : decode cX5_steer 61 = .ok (.invokestatic 79, 3) := by decide +kernel
theorem dX5_steer_64 : decode cX5_steer 64 = .ok (.iload_n 3, 1) := by decide +kernel
theorem dX5_steer_65 : decode cX5_steer 65 = .ok (.invokevirtual 111, 3) := by decide +kernel
theorem dX5_steer_68 : decode cX5_steer 68 = .ok (.goto 9, 3) := by decide +kernel
theorem dX5_steer_71 : decode cX5_steer 71 = .ok (.aload_n 0, 1) := by decide +kernel
theorem dX5_steer_72 : decode cX5_steer 72 = .ok (.ldc 66, 2) := by decide +kernel
theorem dX5_steer_74 : decode cX5_steer 74 = .ok (.invokevirtual 86, 3) := by decide +kernel
theorem dX5_steer_77 : decode cX5_steer 77 = .ok (.ireturn, 1) := by decide +kernel
theorem dX5_island_0 : decode cX5_island 0 = .ok (.iload_n 1, 1) := by decide +kernel
theorem dX5_island_1 : decode cX5_island 1 = .ok (.invokestatic 144, 3) := by decide +kernel
theorem dX5_island_4 : decode cX5_island 4 = .ok (.ifCond .eq 12, 3) := by decide +kernel
theorem dX5_island_7 : decode cX5_island 7 = .ok (.iload_n 2, 1) := by decide +kernel
theorem dX5_island_8 : decode cX5_island 8 = .ok (.iconst 0, 1) := by decide +kernel
theorem dX5_island_9 : decode cX5_island 9 = .ok (.iconst 1, 1) := by decide +kernel
theorem dX5_island_10 : decode cX5_island 10 = .ok (.invokestatic 71, 3) := by decide +kernel
theorem dX5_island_13 : decode cX5_island 13 = .ok (.ifCond .ne 10, 3) := by decide +kernel
theorem dX5_island_16 : decode cX5_island 16 = .ok (.aload_n 0, 1) := by decide +kernel
theorem dX5_island_17 : decode cX5_island 17 = .ok (.ldc 66, 2) := by decide +kernel
theorem dX5_island_19 : decode cX5_island 19 = .ok (.invokevirtual 86, 3) := by decide +kernel
theorem dX5_island_22 : decode cX5_island 22 = .ok (.ireturn, 1) := by decide +kernel
theorem dX5_island_23 : decode cX5_island 23 = .ok (.aload_n 0, 1) := by decide +kernel
theorem dX5_island_24 : decode cX5_island 24 = .ok (.bipush 16, 2) := by decide +kernel
theorem dX5_island_26 : decode cX5_island 26 = .ok (.iload_n 1, 1) := by decide +kernel
theorem dX5_island_27 : decode cX5_island 27 = .ok (.iadd, 1) := by decide +kernel
theorem dX5_island_28 : decode cX5_island 28 = .ok (.iload_n 2, 1) := by decide +kernel
theorem dX5_island_29 : decode cX5_island 29 = .ok (.invokevirtual 111, 3) := by decide +kernel
theorem dX5_island_32 : decode cX5_island 32 = .ok (.iload_n 2, 1) := by decide +kernel
theorem dX5_island_33 : decode cX5_island 33 = .ok (.if_icmp .ne 7, 3) := by decide +kernel
theorem dX5_island_36 : decode cX5_island 36 = .ok (.iconst 0, 1) := by decide +kernel
theorem dX5_island_37 : decode cX5_island 37 = .ok (.goto 4, 3) := by decide +kernel
theorem dX5_island_40 : decode cX5_island 40 = .ok (.iconst 1, 1) := by decide +kernel
theorem dX5_island_41 : decode cX5_island 41 = .ok (.ireturn, 1) := by decide +kernel
theorem dX5_wind_0 : decode cX5_wind 0 = .ok (.iload_n 1, 1) := by decide +kernel
theorem dX5_wind_1 : decode cX5_wind 1 = .ok (.iconst 0, 1) := by decide +kernel
theorem dX5_wind_2 : decode cX5_wind 2 = .ok (.bipush 7, 2) := by decide +kernel
theorem dX5_wind_4 : decode cX5_wind 4 = .ok (.invokestatic 71, 3) := by decide +kernel
theorem dX5_wind_7 : decode cX5_wind 7 = .ok (.ifCond .eq 12, 3) := by decide +kernel
theorem dX5_wind_10 : decode cX5_wind 10 = .ok (.aload_n 0, 1) := by decide +kernel
theorem dX5_wind_11 : decode cX5_wind 11 = .ok (.iconst 2, 1) := by decide +kernel
theorem dX5_wind_12 : decode cX5_wind 12 = .ok (.iload_n 1, 1) := by decide +kernel
theorem dX5_wind_13 : decode cX5_wind 13 = .ok (.invokevirtual 111, 3) := by decide +kernel
theorem dX5_wind_16 : decode cX5_wind 16 = .ok (.goto 9, 3) := by decide +kernel
theorem dX5_wind_19 : decode cX5_wind 19 = .ok (.aload_n 0, 1) := by decide +kernel
theorem dX5_wind_20 : decode cX5_wind 20 = .ok (.ldc 66, 2) := by decide +kernel
theorem dX5_wind_22 : decode cX5_wind 22 = .ok (.invokevirtual 86, 3) := by decide +kernel
theorem dX5_wind_25 : decode cX5_wind 25 = .ok (.ireturn, 1) := by decide +kernel
theorem dX5_fish_0 : decode cX5_fish 0 = .ok (.iload_n 1, 1) := by decide +kernel
theorem dX5_fish_1 : decode cX5_fish 1 = .ok (.iconst 0, 1) := by decide +kernel
theorem dX5_fish_2 : decode cX5_fish 2 = .ok (.ldc 150, 2) := by decide +kernel
theorem dX5_fish_4 : decode cX5_fish 4 = .ok (.invokestatic 71, 3) := by decide +kernel
theorem dX5_fish_7 : decode cX5_fish 7 = .ok (.ifCond .eq 12, 3) := by decide +kernel
theorem dX5_fish_10 : decode cX5_fish 10 = .ok (.aload_n 0, 1) := by decide +kernel
theorem dX5_fish_11 : decode cX5_fish 11 = .ok (.iconst 3, 1) := by decide +kernel
theorem dX5_fish_12 : decode cX5_fish 12 = .ok (.iload_n 1, 1) := by decide +kernel
theorem dX5_fish_13 : decode cX5_fish 13 = .ok (.invokevirtual 111, 3) := by decide +kernel
theorem dX5_fish_16 : decode cX5_fish 16 = .ok (.goto 9, 3) := by decide +kernel
theorem dX5_fish_19 : decode cX5_fish 19 = .ok (.aload_n 0, 1) := by decide +kernel
theorem dX5_fish_20 : decode cX5_fish 20 = .ok (.ldc 66, 2) := by decide +kernel
theorem dX5_fish_22 : decode cX5_fish 22 = .ok (.invokevirtual 86, 3) := by decide +kernel
theorem dX5_fish_25 : decode cX5_fish 25 = .ok (.ireturn, 1) := by decide +kernel
theorem dX5_store_0 : decode cX5_store 0 = .ok (.iload_n 1, 1) := by decide +kernel
theorem dX5_store_1 : decode cX5_store 1 = .ok (.iconst 0, 1) := by decide +kernel
theorem dX5_store_2 : decode cX5_store 2 = .ok (.sipush 9999, 3) := by decide +kernel
theorem dX5_store_5 : decode cX5_store 5 = .ok (.invokestatic 71, 3) := by decide +kernel
theorem dX5_store_8 : decode cX5_store 8 = .ok (.ifCond .eq 12, 3) := by decide +kernel
theorem dX5_store_11 : decode cX5_store 11 = .ok (.aload_n 0, 1) := by decide +kernel
theorem dX5_store_12 : decode cX5_store 12 = .ok (.iconst 1, 1) := by decide +kernel
theorem dX5_store_13 : decode cX5_store 13 = .ok (.iload_n 1, 1) := by decide +kernel
theorem dX5_store_14 : decode cX5_store 14 = .ok (.invokevirtual 111, 3) := by decide +kernel
theorem dX5_store_17 : decode cX5_store 17 = .ok (.goto 9, 3) := by decide +kernel
theorem dX5_store_20 : decode cX5_store 20 = .ok (.aload_n 0, 1) := by decide +kernel
theorem dX5_store_21 : decode cX5_store 21 = .ok (.ldc 66, 2) := by decide +kernel
theorem dX5_store_23 : decode cX5_store 23 = .ok (.invokevirtual 86, 3) := by decide +kernel
theorem dX5_store_26 : decode cX5_store 26 = .ok (.ireturn, 1) := by decide +kernel
theorem dX5_landed_0 : decode cX5_landed 0 = .ok (.iconst 0, 1) := by decide +kernel
theorem dX5_landed_1 : decode cX5_landed 1 = .ok (.istore_n 1, 1) := by decide +kernel
theorem dX5_landed_2 : decode cX5_landed 2 = .ok (.iconst 0, 1) := by decide +kernel
theorem dX5_landed_3 : decode cX5_landed 3 = .ok (.istore_n 2, 1) := by decide +kernel
theorem dX5_landed_4 : decode cX5_landed 4 = .ok (.iload_n 2, 1) := by decide +kernel
theorem dX5_landed_5 : decode cX5_landed 5 = .ok (.iconst 4, 1) := by decide +kernel
theorem dX5_landed_6 : decode cX5_landed 6 = .ok (.if_icmp .ge 27, 3) := by decide +kernel
theorem dX5_landed_9 : decode cX5_landed 9 = .ok (.iload_n 1, 1) := by decide +kernel
theorem dX5_landed_10 : decode cX5_landed 10 = .ok (.aload_n 0, 1) := by decide +kernel
theorem dX5_landed_11 : decode cX5_landed 11 = .ok (.iload_n 2, 1) := by decide +kernel
theorem dX5_landed_12 : decode cX5_landed 12 = .ok (.invokevirtual 132, 3) := by decide +kernel
theorem dX5_landed_15 : decode cX5_landed 15 = .ok (.ifCond .eq 9, 3) := by decide +kernel
theorem dX5_landed_18 : decode cX5_landed 18 = .ok (.iconst 1, 1) := by decide +kernel
theorem dX5_landed_19 : decode cX5_landed 19 = .ok (.iload_n 2, 1) := by decide +kernel
theorem dX5_landed_20 : decode cX5_landed 20 = .ok (.ishl, 1) := by decide +kernel
theorem dX5_landed_21 : decode cX5_landed 21 = .ok (.goto 4, 3) := by decide +kernel
theorem dX5_landed_24 : decode cX5_landed 24 = .ok (.iconst 0, 1) := by decide +kernel
theorem dX5_landed_25 : decode cX5_landed 25 = .ok (.ior, 1) := by decide +kernel
theorem dX5_landed_26 : decode cX5_landed 26 = .ok (.istore_n 1, 1) := by decide +kernel
theorem dX5_landed_27 : decode cX5_landed 27 = .ok (.iinc 2 1, 3) := by decide +kernel
theorem dX5_landed_30 : decode cX5_landed 30 = .ok (.goto (-26), 3) := by decide +kernel
theorem dX5_landed_33 : decode cX5_landed 33 = .ok (.iload_n 1, 1) := by decide +kernel
theorem dX5_landed_34 : decode cX5_landed 34 = .ok (.ireturn, 1) := by decide +kernel
theorem dX5_watch_0 : decode cX5_watch 0 = .ok (.iconst 0, 1) := by decide +kernel
theorem dX5_watch_1 : decode cX5_watch 1 = .ok (.istore_n 1, 1) := by decide +kernel
theorem dX5_watch_2 : decode cX5_watch 2 = .ok (.iload_n 1, 1) := by decide +kernel
theorem dX5_watch_3 : decode cX5_watch 3 = .ok (.iconst 4, 1) := by decide +kernel
theorem dX5_watch_4 : decode cX5_watch 4 = .ok (.if_icmp .ge 24, 3) := by decide +kernel
theorem dX5_watch_7 : decode cX5_watch 7 = .ok (.aload_n 0, 1) := by decide +kernel
theorem dX5_watch_8 : decode cX5_watch 8 = .ok (.getfield 9, 3) := by decide +kernel
theorem dX5_watch_11 : decode cX5_watch 11 = .ok (.iload_n 1, 1) := by decide +kernel
theorem dX5_watch_12 : decode cX5_watch 12 = .ok (.iconst 0, 1) := by decide +kernel
theorem dX5_watch_13 : decode cX5_watch 13 = .ok (.invokestatic 79, 3) := by decide +kernel
theorem dX5_watch_16 : decode cX5_watch 16 = .ok (.aload_n 0, 1) := by decide +kernel
theorem dX5_watch_17 : decode cX5_watch 17 = .ok (.iload_n 1, 1) := by decide +kernel
theorem dX5_watch_18 : decode cX5_watch 18 = .ok (.invokevirtual 141, 3) := by decide +kernel
theorem dX5_watch_21 : decode cX5_watch 21 = .ok (.iastore, 1) := by decide +kernel
theorem dX5_watch_22 : decode cX5_watch 22 = .ok (.iinc 1 1, 3) := by decide +kernel
theorem dX5_watch_25 : decode cX5_watch 25 = .ok (.goto (-23), 3) := by decide +kernel
theorem dX5_watch_28 : decode cX5_watch 28 = .ok (.iconst 0, 1) := by decide +kernel
theorem dX5_watch_29 : decode cX5_watch 29 = .ok (.istore_n 1, 1) := by decide +kernel
theorem dX5_watch_30 : decode cX5_watch 30 = .ok (.iload_n 1, 1) := by decide +kernel
theorem dX5_watch_31 : decode cX5_watch 31 = .ok (.aload_n 0, 1) := by decide +kernel
theorem dX5_watch_32 : decode cX5_watch 32 = .ok (.getfield 9, 3) := by decide +kernel
theorem dX5_watch_35 : decode cX5_watch 35 = .ok (.iconst 4, 1) := by decide +kernel
theorem dX5_watch_36 : decode cX5_watch 36 = .ok (.iaload, 1) := by decide +kernel
theorem dX5_watch_37 : decode cX5_watch 37 = .ok (.if_icmp .ge 32, 3) := by decide +kernel
theorem dX5_watch_40 : decode cX5_watch 40 = .ok (.aload_n 0, 1) := by decide +kernel
theorem dX5_watch_41 : decode cX5_watch 41 = .ok (.getfield 9, 3) := by decide +kernel
theorem dX5_watch_44 : decode cX5_watch 44 = .ok (.iload_n 1, 1) := by decide +kernel
theorem dX5_watch_45 : decode cX5_watch 45 = .ok (.iconst 1, 1) := by decide +kernel
theorem dX5_watch_46 : decode cX5_watch 46 = .ok (.invokestatic 75, 3) := by decide +kernel
theorem dX5_watch_49 : decode cX5_watch 49 = .ok (.bipush 99, 2) := by decide +kernel
theorem dX5_watch_51 : decode cX5_watch 51 = .ok (.aload_n 0, 1) := by decide +kernel
theorem dX5_watch_52 : decode cX5_watch 52 = .ok (.iload_n 1, 1) := by decide +kernel
theorem dX5_watch_53 : decode cX5_watch 53 = .ok (.iconst 1, 1) := by decide +kernel
theorem dX5_watch_54 : decode cX5_watch 54 = .ok (.invokevirtual 98, 3) := by decide +kernel
theorem dX5_watch_57 : decode cX5_watch 57 = .ok (.iconst 1, 1) := by decide +kernel
theorem dX5_watch_58 : decode cX5_watch 58 = .ok (.iadd, 1) := by decide +kernel
theorem dX5_watch_59 : decode cX5_watch 59 = .ok (.invokestatic 151, 3) := by decide +kernel
theorem dX5_watch_62 : decode cX5_watch 62 = .ok (.iastore, 1) := by decide +kernel
theorem dX5_watch_63 : decode cX5_watch 63 = .ok (.iinc 1 1, 3) := by decide +kernel
theorem dX5_watch_66 : decode cX5_watch 66 = .ok (.goto (-36), 3) := by decide +kernel
theorem dX5_watch_69 : decode cX5_watch 69 = .ok (.aload_n 0, 1) := by decide +kernel
theorem dX5_watch_70 : decode cX5_watch 70 = .ok (.getfield 9, 3) := by decide +kernel
theorem dX5_watch_73 : decode cX5_watch 73 = .ok (.iconst 0, 1) := by decide +kernel
theorem dX5_watch_74 : decode cX5_watch 74 = .ok (.dup2, 1) := by decide +kernel
theorem dX5_watch_75 : decode cX5_watch 75 = .ok (.iaload, 1) := by decide +kernel
theorem dX5_watch_76 : decode cX5_watch 76 = .ok (.iconst 1, 1) := by decide +kernel
theorem dX5_watch_77 : decode cX5_watch 77 = .ok (.iadd, 1) := by decide +kernel
theorem dX5_watch_78 : decode cX5_watch 78 = .ok (.iastore, 1) := by decide +kernel
theorem dX5_watch_79 : decode cX5_watch 79 = .ok (.return_, 1) := by decide +kernel
theorem dX5_watches_0 : decode cX5_watches 0 = .ok (.iconst 0, 1) := by decide +kernel
theorem dX5_watches_1 : decode cX5_watches 1 = .ok (.istore_n 2, 1) := by decide +kernel
theorem dX5_watches_2 : decode cX5_watches 2 = .ok (.iload_n 2, 1) := by decide +kernel
theorem dX5_watches_3 : decode cX5_watches 3 = .ok (.iload_n 1, 1) := by decide +kernel
theorem dX5_watches_4 : decode cX5_watches 4 = .ok (.if_icmp .ge 13, 3) := by decide +kernel
theorem dX5_watches_7 : decode cX5_watches 7 = .ok (.aload_n 0, 1) := by decide +kernel
theorem dX5_watches_8 : decode cX5_watches 8 = .ok (.invokevirtual 156, 3) := by decide +kernel
theorem dX5_watches_11 : decode cX5_watches 11 = .ok (.iinc 2 1, 3) := by decide +kernel
theorem dX5_watches_14 : decode cX5_watches 14 = .ok (.goto (-12), 3) := by decide +kernel
theorem dX5_watches_17 : decode cX5_watches 17 = .ok (.return_, 1) := by decide +kernel
theorem dX5_go_0 : decode cX5_go 0 = .ok (.iload_n 1, 1) := by decide +kernel
theorem dX5_go_1 : decode cX5_go 1 = .ok (.iconst 1, 1) := by decide +kernel
theorem dX5_go_2 : decode cX5_go 2 = .ok (.bipush 60, 2) := by decide +kernel
theorem dX5_go_4 : decode cX5_go 4 = .ok (.invokestatic 71, 3) := by decide +kernel
theorem dX5_go_7 : decode cX5_go 7 = .ok (.ifCond .ne 10, 3) := by decide +kernel
theorem dX5_go_10 : decode cX5_go 10 = .ok (.aload_n 0, 1) := by decide +kernel
theorem dX5_go_11 : decode cX5_go 11 = .ok (.ldc 66, 2) := by decide +kernel
theorem dX5_go_13 : decode cX5_go 13 = .ok (.invokevirtual 86, 3) := by decide +kernel
theorem dX5_go_16 : decode cX5_go 16 = .ok (.ireturn, 1) := by decide +kernel
theorem dX5_go_17 : decode cX5_go 17 = .ok (.aload_n 0, 1) := by decide +kernel
theorem dX5_go_18 : decode cX5_go 18 = .ok (.getfield 9, 3) := by decide +kernel
theorem dX5_go_21 : decode cX5_go 21 = .ok (.iconst 0, 1) := by decide +kernel
theorem dX5_go_22 : decode cX5_go 22 = .ok (.iaload, 1) := by decide +kernel
theorem dX5_go_23 : decode cX5_go 23 = .ok (.iload_n 1, 1) := by decide +kernel
theorem dX5_go_24 : decode cX5_go 24 = .ok (.iadd, 1) := by decide +kernel
theorem dX5_go_25 : decode cX5_go 25 = .ok (.ldc 159, 2) := by decide +kernel
theorem dX5_go_27 : decode cX5_go 27 = .ok (.if_icmp .le 10, 3) := by decide +kernel
theorem dX5_go_30 : decode cX5_go 30 = .ok (.aload_n 0, 1) := by decide +kernel
theorem dX5_go_31 : decode cX5_go 31 = .ok (.ldc 160, 2) := by decide +kernel
theorem dX5_go_33 : decode cX5_go 33 = .ok (.invokevirtual 86, 3) := by decide +kernel
theorem dX5_go_36 : decode cX5_go 36 = .ok (.ireturn, 1) := by decide +kernel
theorem dX5_go_37 : decode cX5_go 37 = .ok (.aload_n 0, 1) := by decide +kernel
theorem dX5_go_38 : decode cX5_go 38 = .ok (.iload_n 1, 1) := by decide +kernel
theorem dX5_go_39 : decode cX5_go 39 = .ok (.invokevirtual 161, 3) := by decide +kernel
theorem dX5_go_42 : decode cX5_go 42 = .ok (.aload_n 0, 1) := by decide +kernel
theorem dX5_go_43 : decode cX5_go 43 = .ok (.invokevirtual 165, 3) := by decide +kernel
theorem dX5_go_46 : decode cX5_go 46 = .ok (.invokestatic 114, 3) := by decide +kernel
theorem dX5_go_49 : decode cX5_go 49 = .ok (.ireturn, 1) := by decide +kernel
theorem dX5_feeds_0 : decode cX5_feeds 0 = .ok (.aload_n 0, 1) := by decide +kernel
theorem dX5_feeds_1 : decode cX5_feeds 1 = .ok (.iload_n 1, 1) := by decide +kernel
theorem dX5_feeds_2 : decode cX5_feeds 2 = .ok (.invokevirtual 147, 3) := by decide +kernel
theorem dX5_feeds_5 : decode cX5_feeds 5 = .ok (.ifCond .ne 10, 3) := by decide +kernel
theorem dX5_feeds_8 : decode cX5_feeds 8 = .ok (.aload_n 0, 1) := by decide +kernel
theorem dX5_feeds_9 : decode cX5_feeds 9 = .ok (.ldc 66, 2) := by decide +kernel
theorem dX5_feeds_11 : decode cX5_feeds 11 = .ok (.invokevirtual 86, 3) := by decide +kernel
theorem dX5_feeds_14 : decode cX5_feeds 14 = .ok (.ireturn, 1) := by decide +kernel
theorem dX5_feeds_15 : decode cX5_feeds 15 = .ok (.aload_n 0, 1) := by decide +kernel
theorem dX5_feeds_16 : decode cX5_feeds 16 = .ok (.getfield 9, 3) := by decide +kernel
theorem dX5_feeds_19 : decode cX5_feeds 19 = .ok (.iconst 1, 1) := by decide +kernel
theorem dX5_feeds_20 : decode cX5_feeds 20 = .ok (.iaload, 1) := by decide +kernel
theorem dX5_feeds_21 : decode cX5_feeds 21 = .ok (.iload_n 1, 1) := by decide +kernel
theorem dX5_feeds_22 : decode cX5_feeds 22 = .ok (.invokestatic 114, 3) := by decide +kernel
theorem dX5_feeds_25 : decode cX5_feeds 25 = .ok (.if_icmp .ge 10, 3) := by decide +kernel
theorem dX5_feeds_28 : decode cX5_feeds 28 = .ok (.aload_n 0, 1) := by decide +kernel
theorem dX5_feeds_29 : decode cX5_feeds 29 = .ok (.ldc 160, 2) := by decide +kernel
theorem dX5_feeds_31 : decode cX5_feeds 31 = .ok (.invokevirtual 86, 3) := by decide +kernel
theorem dX5_feeds_34 : decode cX5_feeds 34 = .ok (.ireturn, 1) := by decide +kernel
theorem dX5_feeds_35 : decode cX5_feeds 35 = .ok (.iconst 0, 1) := by decide +kernel
theorem dX5_feeds_36 : decode cX5_feeds 36 = .ok (.istore_n 2, 1) := by decide +kernel
theorem dX5_feeds_37 : decode cX5_feeds 37 = .ok (.iload_n 2, 1) := by decide +kernel
theorem dX5_feeds_38 : decode cX5_feeds 38 = .ok (.aload_n 0, 1) := by decide +kernel
theorem dX5_feeds_39 : decode cX5_feeds 39 = .ok (.getfield 9, 3) := by decide +kernel
theorem dX5_feeds_42 : decode cX5_feeds 42 = .ok (.iconst 4, 1) := by decide +kernel
theorem dX5_feeds_43 : decode cX5_feeds 43 = .ok (.iaload, 1) := by decide +kernel
theorem dX5_feeds_44 : decode cX5_feeds 44 = .ok (.if_icmp .ge 37, 3) := by decide +kernel
theorem dX5_feeds_47 : decode cX5_feeds 47 = .ok (.aload_n 0, 1) := by decide +kernel
theorem dX5_feeds_48 : decode cX5_feeds 48 = .ok (.getfield 9, 3) := by decide +kernel
theorem dX5_feeds_51 : decode cX5_feeds 51 = .ok (.iload_n 2, 1) := by decide +kernel
theorem dX5_feeds_52 : decode cX5_feeds 52 = .ok (.iconst 1, 1) := by decide +kernel
theorem dX5_feeds_53 : decode cX5_feeds 53 = .ok (.invokestatic 75, 3) := by decide +kernel
theorem dX5_feeds_56 : decode cX5_feeds 56 = .ok (.iload_n 1, 1) := by decide +kernel
theorem dX5_feeds_57 : decode cX5_feeds 57 = .ok (.iload_n 2, 1) := by decide +kernel
theorem dX5_feeds_58 : decode cX5_feeds 58 = .ok (.invokestatic 101, 3) := by decide +kernel
theorem dX5_feeds_61 : decode cX5_feeds 61 = .ok (.ifCond .eq 7, 3) := by decide +kernel
theorem dX5_feeds_64 : decode cX5_feeds 64 = .ok (.iconst 0, 1) := by decide +kernel
theorem dX5_feeds_65 : decode cX5_feeds 65 = .ok (.goto 9, 3) := by decide +kernel
theorem dX5_feeds_68 : decode cX5_feeds 68 = .ok (.aload_n 0, 1) := by decide +kernel
theorem dX5_feeds_69 : decode cX5_feeds 69 = .ok (.iload_n 2, 1) := by decide +kernel
theorem dX5_feeds_70 : decode cX5_feeds 70 = .ok (.iconst 1, 1) := by decide +kernel
theorem dX5_feeds_71 : decode cX5_feeds 71 = .ok (.invokevirtual 98, 3) := by decide +kernel
theorem dX5_feeds_74 : decode cX5_feeds 74 = .ok (.iastore, 1) := by decide +kernel
theorem dX5_feeds_75 : decode cX5_feeds 75 = .ok (.iinc 2 1, 3) := by decide +kernel
theorem dX5_feeds_78 : decode cX5_feeds 78 = .ok (.goto (-41), 3) := by decide +kernel
theorem dX5_feeds_81 : decode cX5_feeds 81 = .ok (.aload_n 0, 1) := by decide +kernel
theorem dX5_feeds_82 : decode cX5_feeds 82 = .ok (.getfield 9, 3) := by decide +kernel
theorem dX5_feeds_85 : decode cX5_feeds 85 = .ok (.iconst 1, 1) := by decide +kernel
theorem dX5_feeds_86 : decode cX5_feeds 86 = .ok (.dup2, 1) := by decide +kernel
theorem dX5_feeds_87 : decode cX5_feeds 87 = .ok (.iaload, 1) := by decide +kernel
theorem dX5_feeds_88 : decode cX5_feeds 88 = .ok (.iload_n 1, 1) := by decide +kernel
theorem dX5_feeds_89 : decode cX5_feeds 89 = .ok (.invokestatic 114, 3) := by decide +kernel
theorem dX5_feeds_92 : decode cX5_feeds 92 = .ok (.isub, 1) := by decide +kernel
theorem dX5_feeds_93 : decode cX5_feeds 93 = .ok (.iastore, 1) := by decide +kernel
theorem dX5_feeds_94 : decode cX5_feeds 94 = .ok (.aload_n 0, 1) := by decide +kernel
theorem dX5_feeds_95 : decode cX5_feeds 95 = .ok (.getfield 9, 3) := by decide +kernel
theorem dX5_feeds_98 : decode cX5_feeds 98 = .ok (.iconst 1, 1) := by decide +kernel
theorem dX5_feeds_99 : decode cX5_feeds 99 = .ok (.iaload, 1) := by decide +kernel
theorem dX5_feeds_100 : decode cX5_feeds 100 = .ok (.ireturn, 1) := by decide +kernel
theorem dX5_islands_0 : decode cX5_islands 0 = .ok (.iconst 0, 1) := by decide +kernel
theorem dX5_islands_1 : decode cX5_islands 1 = .ok (.istore_n 1, 1) := by decide +kernel
theorem dX5_islands_2 : decode cX5_islands 2 = .ok (.iconst 0, 1) := by decide +kernel
theorem dX5_islands_3 : decode cX5_islands 3 = .ok (.istore_n 2, 1) := by decide +kernel
theorem dX5_islands_4 : decode cX5_islands 4 = .ok (.iload_n 2, 1) := by decide +kernel
theorem dX5_islands_5 : decode cX5_islands 5 = .ok (.bipush 100, 2) := by decide +kernel
theorem dX5_islands_7 : decode cX5_islands 7 = .ok (.if_icmp .ge 21, 3) := by decide +kernel
theorem dX5_islands_10 : decode cX5_islands 10 = .ok (.iload_n 1, 1) := by decide +kernel
theorem dX5_islands_11 : decode cX5_islands 11 = .ok (.aload_n 0, 1) := by decide +kernel
theorem dX5_islands_12 : decode cX5_islands 12 = .ok (.getfield 9, 3) := by decide +kernel
theorem dX5_islands_15 : decode cX5_islands 15 = .ok (.bipush 16, 2) := by decide +kernel
theorem dX5_islands_17 : decode cX5_islands 17 = .ok (.iload_n 2, 1) := by decide +kernel
theorem dX5_islands_18 : decode cX5_islands 18 = .ok (.iadd, 1) := by decide +kernel
theorem dX5_islands_19 : decode cX5_islands 19 = .ok (.iaload, 1) := by decide +kernel
theorem dX5_islands_20 : decode cX5_islands 20 = .ok (.iadd, 1) := by decide +kernel
theorem dX5_islands_21 : decode cX5_islands 21 = .ok (.istore_n 1, 1) := by decide +kernel
theorem dX5_islands_22 : decode cX5_islands 22 = .ok (.iinc 2 1, 3) := by decide +kernel
theorem dX5_islands_25 : decode cX5_islands 25 = .ok (.goto (-21), 3) := by decide +kernel
theorem dX5_islands_28 : decode cX5_islands 28 = .ok (.iload_n 1, 1) := by decide +kernel
theorem dX5_islands_29 : decode cX5_islands 29 = .ok (.ireturn, 1) := by decide +kernel
theorem dX5_hungriest_0 : decode cX5_hungriest 0 = .ok (.iconst 0, 1) := by decide +kernel
theorem dX5_hungriest_1 : decode cX5_hungriest 1 = .ok (.istore_n 1, 1) := by decide +kernel
theorem dX5_hungriest_2 : decode cX5_hungriest 2 = .ok (.iconst 0, 1) := by decide +kernel
theorem dX5_hungriest_3 : decode cX5_hungriest 3 = .ok (.istore_n 2, 1) := by decide +kernel
theorem dX5_hungriest_4 : decode cX5_hungriest 4 = .ok (.iload_n 2, 1) := by decide +kernel
theorem dX5_hungriest_5 : decode cX5_hungriest 5 = .ok (.aload_n 0, 1) := by decide +kernel
theorem dX5_hungriest_6 : decode cX5_hungriest 6 = .ok (.getfield 9, 3) := by decide +kernel
theorem dX5_hungriest_9 : decode cX5_hungriest 9 = .ok (.iconst 4, 1) := by decide +kernel
theorem dX5_hungriest_10 : decode cX5_hungriest 10 = .ok (.iaload, 1) := by decide +kernel
theorem dX5_hungriest_11 : decode cX5_hungriest 11 = .ok (.if_icmp .ge 20, 3) := by decide +kernel
theorem dX5_hungriest_14 : decode cX5_hungriest 14 = .ok (.iload_n 1, 1) := by decide +kernel
theorem dX5_hungriest_15 : decode cX5_hungriest 15 = .ok (.aload_n 0, 1) := by decide +kernel
theorem dX5_hungriest_16 : decode cX5_hungriest 16 = .ok (.iload_n 2, 1) := by decide +kernel
theorem dX5_hungriest_17 : decode cX5_hungriest 17 = .ok (.iconst 1, 1) := by decide +kernel
theorem dX5_hungriest_18 : decode cX5_hungriest 18 = .ok (.invokevirtual 98, 3) := by decide +kernel
theorem dX5_hungriest_21 : decode cX5_hungriest 21 = .ok (.invokestatic 169, 3) := by decide +kernel
theorem dX5_hungriest_24 : decode cX5_hungriest 24 = .ok (.istore_n 1, 1) := by decide +kernel
theorem dX5_hungriest_25 : decode cX5_hungriest 25 = .ok (.iinc 2 1, 3) := by decide +kernel
theorem dX5_hungriest_28 : decode cX5_hungriest 28 = .ok (.goto (-24), 3) := by decide +kernel
theorem dX5_hungriest_31 : decode cX5_hungriest 31 = .ok (.iload_n 1, 1) := by decide +kernel
theorem dX5_hungriest_32 : decode cX5_hungriest 32 = .ok (.ireturn, 1) := by decide +kernel
theorem dX5_now_0 : decode cX5_now 0 = .ok (.iload_n 1, 1) := by decide +kernel
theorem dX5_now_1 : decode cX5_now 1 = .ok (.tableswitch 61 0 5 #[39, 39, 39, 46, 51, 56], 39) := by decide +kernel
theorem dX5_now_40 : decode cX5_now 40 = .ok (.aload_n 0, 1) := by decide +kernel
theorem dX5_now_41 : decode cX5_now 41 = .ok (.getfield 9, 3) := by decide +kernel
theorem dX5_now_44 : decode cX5_now 44 = .ok (.iload_n 1, 1) := by decide +kernel
theorem dX5_now_45 : decode cX5_now 45 = .ok (.iaload, 1) := by decide +kernel
theorem dX5_now_46 : decode cX5_now 46 = .ok (.ireturn, 1) := by decide +kernel
theorem dX5_now_47 : decode cX5_now 47 = .ok (.aload_n 0, 1) := by decide +kernel
theorem dX5_now_48 : decode cX5_now 48 = .ok (.invokevirtual 165, 3) := by decide +kernel
theorem dX5_now_51 : decode cX5_now 51 = .ok (.ireturn, 1) := by decide +kernel
theorem dX5_now_52 : decode cX5_now 52 = .ok (.aload_n 0, 1) := by decide +kernel
theorem dX5_now_53 : decode cX5_now 53 = .ok (.invokevirtual 172, 3) := by decide +kernel
theorem dX5_now_56 : decode cX5_now 56 = .ok (.ireturn, 1) := by decide +kernel
theorem dX5_now_57 : decode cX5_now 57 = .ok (.aload_n 0, 1) := by decide +kernel
theorem dX5_now_58 : decode cX5_now 58 = .ok (.invokevirtual 175, 3) := by decide +kernel
theorem dX5_now_61 : decode cX5_now 61 = .ok (.ireturn, 1) := by decide +kernel
theorem dX5_now_62 : decode cX5_now 62 = .ok (.aload_n 0, 1) := by decide +kernel
theorem dX5_now_63 : decode cX5_now 63 = .ok (.ldc 66, 2) := by decide +kernel
theorem dX5_now_65 : decode cX5_now 65 = .ok (.invokevirtual 86, 3) := by decide +kernel
theorem dX5_now_68 : decode cX5_now 68 = .ok (.ireturn, 1) := by decide +kernel
theorem dX5_aheadOf_0 : decode cX5_aheadOf 0 = .ok (.aload_n 0, 1) := by decide +kernel
theorem dX5_aheadOf_1 : decode cX5_aheadOf 1 = .ok (.getfield 9, 3) := by decide +kernel
theorem dX5_aheadOf_4 : decode cX5_aheadOf 4 = .ok (.aload_n 0, 1) := by decide +kernel
theorem dX5_aheadOf_5 : decode cX5_aheadOf 5 = .ok (.getfield 16, 3) := by decide +kernel
theorem dX5_aheadOf_8 : decode cX5_aheadOf 8 = .ok (.invokestatic 67, 3) := by decide +kernel
theorem dX5_aheadOf_11 : decode cX5_aheadOf 11 = .ok (.aload_n 0, 1) := by decide +kernel
theorem dX5_aheadOf_12 : decode cX5_aheadOf 12 = .ok (.iload_n 2, 1) := by decide +kernel
theorem dX5_aheadOf_13 : decode cX5_aheadOf 13 = .ok (.invokevirtual 161, 3) := by decide +kernel
theorem dX5_aheadOf_16 : decode cX5_aheadOf 16 = .ok (.aload_n 0, 1) := by decide +kernel
theorem dX5_aheadOf_17 : decode cX5_aheadOf 17 = .ok (.aload_n 0, 1) := by decide +kernel
theorem dX5_aheadOf_18 : decode cX5_aheadOf 18 = .ok (.iload_n 1, 1) := by decide +kernel
theorem dX5_aheadOf_19 : decode cX5_aheadOf 19 = .ok (.iconst 0, 1) := by decide +kernel
theorem dX5_aheadOf_20 : decode cX5_aheadOf 20 = .ok (.invokevirtual 117, 3) := by decide +kernel
theorem dX5_aheadOf_23 : decode cX5_aheadOf 23 = .ok (.invokevirtual 178, 3) := by decide +kernel
theorem dX5_aheadOf_26 : decode cX5_aheadOf 26 = .ok (.ireturn, 1) := by decide +kernel
theorem dX5_ahead_0 : decode cX5_ahead 0 = .ok (.iload_n 1, 1) := by decide +kernel
theorem dX5_ahead_1 : decode cX5_ahead 1 = .ok (.invokestatic 138, 3) := by decide +kernel
theorem dX5_ahead_4 : decode cX5_ahead 4 = .ok (.ifCond .eq 23, 3) := by decide +kernel
theorem dX5_ahead_7 : decode cX5_ahead 7 = .ok (.iload_n 2, 1) := by decide +kernel
theorem dX5_ahead_8 : decode cX5_ahead 8 = .ok (.iconst 0, 1) := by decide +kernel
theorem dX5_ahead_9 : decode cX5_ahead 9 = .ok (.sipush 200, 3) := by decide +kernel
theorem dX5_ahead_12 : decode cX5_ahead 12 = .ok (.invokestatic 71, 3) := by decide +kernel
theorem dX5_ahead_15 : decode cX5_ahead 15 = .ok (.ifCond .eq 12, 3) := by decide +kernel
theorem dX5_ahead_18 : decode cX5_ahead 18 = .ok (.aload_n 0, 1) := by decide +kernel
theorem dX5_ahead_19 : decode cX5_ahead 19 = .ok (.iload_n 1, 1) := by decide +kernel
theorem dX5_ahead_20 : decode cX5_ahead 20 = .ok (.iload_n 2, 1) := by decide +kernel
theorem dX5_ahead_21 : decode cX5_ahead 21 = .ok (.invokevirtual 181, 3) := by decide +kernel
theorem dX5_ahead_24 : decode cX5_ahead 24 = .ok (.goto 9, 3) := by decide +kernel
theorem dX5_ahead_27 : decode cX5_ahead 27 = .ok (.aload_n 0, 1) := by decide +kernel
theorem dX5_ahead_28 : decode cX5_ahead 28 = .ok (.ldc 66, 2) := by decide +kernel
theorem dX5_ahead_30 : decode cX5_ahead 30 = .ok (.invokevirtual 86, 3) := by decide +kernel
theorem dX5_ahead_33 : decode cX5_ahead 33 = .ok (.ireturn, 1) := by decide +kernel
theorem dX5_landsIn_0 : decode cX5_landsIn 0 = .ok (.aload_n 0, 1) := by decide +kernel
theorem dX5_landsIn_1 : decode cX5_landsIn 1 = .ok (.getfield 9, 3) := by decide +kernel
theorem dX5_landsIn_4 : decode cX5_landsIn 4 = .ok (.aload_n 0, 1) := by decide +kernel
theorem dX5_landsIn_5 : decode cX5_landsIn 5 = .ok (.getfield 16, 3) := by decide +kernel
theorem dX5_landsIn_8 : decode cX5_landsIn 8 = .ok (.invokestatic 67, 3) := by decide +kernel
theorem dX5_landsIn_11 : decode cX5_landsIn 11 = .ok (.iconst 0, 1) := by decide +kernel
theorem dX5_landsIn_12 : decode cX5_landsIn 12 = .ok (.istore_n 3, 1) := by decide +kernel
theorem dX5_landsIn_13 : decode cX5_landsIn 13 = .ok (.iload_n 3, 1) := by decide +kernel
theorem dX5_landsIn_14 : decode cX5_landsIn 14 = .ok (.iload_n 2, 1) := by decide +kernel
theorem dX5_landsIn_15 : decode cX5_landsIn 15 = .ok (.if_icmp .ge 21, 3) := by decide +kernel
theorem dX5_landsIn_18 : decode cX5_landsIn 18 = .ok (.aload_n 0, 1) := by decide +kernel
theorem dX5_landsIn_19 : decode cX5_landsIn 19 = .ok (.iload_n 1, 1) := by decide +kernel
theorem dX5_landsIn_20 : decode cX5_landsIn 20 = .ok (.invokevirtual 132, 3) := by decide +kernel
theorem dX5_landsIn_23 : decode cX5_landsIn 23 = .ok (.ifCond .ne 13, 3) := by decide +kernel
theorem dX5_landsIn_26 : decode cX5_landsIn 26 = .ok (.aload_n 0, 1) := by decide +kernel
theorem dX5_landsIn_27 : decode cX5_landsIn 27 = .ok (.invokevirtual 156, 3) := by decide +kernel
theorem dX5_landsIn_30 : decode cX5_landsIn 30 = .ok (.iinc 3 1, 3) := by decide +kernel
theorem dX5_landsIn_33 : decode cX5_landsIn 33 = .ok (.goto (-20), 3) := by decide +kernel
theorem dX5_landsIn_36 : decode cX5_landsIn 36 = .ok (.aload_n 0, 1) := by decide +kernel
theorem dX5_landsIn_37 : decode cX5_landsIn 37 = .ok (.aload_n 0, 1) := by decide +kernel
theorem dX5_landsIn_38 : decode cX5_landsIn 38 = .ok (.iload_n 1, 1) := by decide +kernel
theorem dX5_landsIn_39 : decode cX5_landsIn 39 = .ok (.invokevirtual 132, 3) := by decide +kernel
theorem dX5_landsIn_42 : decode cX5_landsIn 42 = .ok (.ifCond .eq 7, 3) := by decide +kernel
theorem dX5_landsIn_45 : decode cX5_landsIn 45 = .ok (.iload_n 3, 1) := by decide +kernel
theorem dX5_landsIn_46 : decode cX5_landsIn 46 = .ok (.goto 5, 3) := by decide +kernel
theorem dX5_landsIn_49 : decode cX5_landsIn 49 = .ok (.ldc 184, 2) := by decide +kernel
theorem dX5_landsIn_51 : decode cX5_landsIn 51 = .ok (.invokevirtual 178, 3) := by decide +kernel
theorem dX5_landsIn_54 : decode cX5_landsIn 54 = .ok (.ireturn, 1) := by decide +kernel
theorem dX5_told_0 : decode cX5_told 0 = .ok (.iload_n 1, 1) := by decide +kernel
theorem dX5_told_1 : decode cX5_told 1 = .ok (.ldc 184, 2) := by decide +kernel
theorem dX5_told_3 : decode cX5_told 3 = .ok (.if_icmp .ne 12, 3) := by decide +kernel
theorem dX5_told_6 : decode cX5_told 6 = .ok (.aload_n 0, 1) := by decide +kernel
theorem dX5_told_7 : decode cX5_told 7 = .ok (.ldc 185, 2) := by decide +kernel
theorem dX5_told_9 : decode cX5_told 9 = .ok (.invokevirtual 86, 3) := by decide +kernel
theorem dX5_told_12 : decode cX5_told 12 = .ok (.goto 4, 3) := by decide +kernel
theorem dX5_told_15 : decode cX5_told 15 = .ok (.iload_n 1, 1) := by decide +kernel
theorem dX5_told_16 : decode cX5_told 16 = .ok (.ireturn, 1) := by decide +kernel
theorem dX5_lands_0 : decode cX5_lands 0 = .ok (.iload_n 1, 1) := by decide +kernel
theorem dX5_lands_1 : decode cX5_lands 1 = .ok (.invokestatic 138, 3) := by decide +kernel
theorem dX5_lands_4 : decode cX5_lands 4 = .ok (.ifCond .eq 18, 3) := by decide +kernel
theorem dX5_lands_7 : decode cX5_lands 7 = .ok (.aload_n 0, 1) := by decide +kernel
theorem dX5_lands_8 : decode cX5_lands 8 = .ok (.aload_n 0, 1) := by decide +kernel
theorem dX5_lands_9 : decode cX5_lands 9 = .ok (.iload_n 1, 1) := by decide +kernel
theorem dX5_lands_10 : decode cX5_lands 10 = .ok (.sipush 200, 3) := by decide +kernel
theorem dX5_lands_13 : decode cX5_lands 13 = .ok (.invokevirtual 186, 3) := by decide +kernel
theorem dX5_lands_16 : decode cX5_lands 16 = .ok (.invokevirtual 189, 3) := by decide +kernel
theorem dX5_lands_19 : decode cX5_lands 19 = .ok (.goto 9, 3) := by decide +kernel
theorem dX5_lands_22 : decode cX5_lands 22 = .ok (.aload_n 0, 1) := by decide +kernel
theorem dX5_lands_23 : decode cX5_lands 23 = .ok (.ldc 66, 2) := by decide +kernel
theorem dX5_lands_25 : decode cX5_lands 25 = .ok (.invokevirtual 86, 3) := by decide +kernel
theorem dX5_lands_28 : decode cX5_lands 28 = .ok (.ireturn, 1) := by decide +kernel
theorem dX5_meets_0 : decode cX5_meets 0 = .ok (.iload_n 1, 1) := by decide +kernel
theorem dX5_meets_1 : decode cX5_meets 1 = .ok (.invokestatic 138, 3) := by decide +kernel
theorem dX5_meets_4 : decode cX5_meets 4 = .ok (.ifCond .eq 15, 3) := by decide +kernel
theorem dX5_meets_7 : decode cX5_meets 7 = .ok (.iload_n 2, 1) := by decide +kernel
theorem dX5_meets_8 : decode cX5_meets 8 = .ok (.invokestatic 138, 3) := by decide +kernel
theorem dX5_meets_11 : decode cX5_meets 11 = .ok (.ifCond .eq 8, 3) := by decide +kernel
theorem dX5_meets_14 : decode cX5_meets 14 = .ok (.iload_n 1, 1) := by decide +kernel
theorem dX5_meets_15 : decode cX5_meets 15 = .ok (.iload_n 2, 1) := by decide +kernel
theorem dX5_meets_16 : decode cX5_meets 16 = .ok (.if_icmp .ne 10, 3) := by decide +kernel
theorem dX5_meets_19 : decode cX5_meets 19 = .ok (.aload_n 0, 1) := by decide +kernel
theorem dX5_meets_20 : decode cX5_meets 20 = .ok (.ldc 66, 2) := by decide +kernel
theorem dX5_meets_22 : decode cX5_meets 22 = .ok (.invokevirtual 86, 3) := by decide +kernel
theorem dX5_meets_25 : decode cX5_meets 25 = .ok (.ireturn, 1) := by decide +kernel
theorem dX5_meets_26 : decode cX5_meets 26 = .ok (.aload_n 0, 1) := by decide +kernel
theorem dX5_meets_27 : decode cX5_meets 27 = .ok (.getfield 9, 3) := by decide +kernel
theorem dX5_meets_30 : decode cX5_meets 30 = .ok (.aload_n 0, 1) := by decide +kernel
theorem dX5_meets_31 : decode cX5_meets 31 = .ok (.getfield 16, 3) := by decide +kernel
theorem dX5_meets_34 : decode cX5_meets 34 = .ok (.invokestatic 67, 3) := by decide +kernel
theorem dX5_meets_37 : decode cX5_meets 37 = .ok (.iconst 0, 1) := by decide +kernel
theorem dX5_meets_38 : decode cX5_meets 38 = .ok (.istore_n 3, 1) := by decide +kernel
theorem dX5_meets_39 : decode cX5_meets 39 = .ok (.iload_n 3, 1) := by decide +kernel
theorem dX5_meets_40 : decode cX5_meets 40 = .ok (.sipush 200, 3) := by decide +kernel
theorem dX5_meets_43 : decode cX5_meets 43 = .ok (.if_icmp .ge 28, 3) := by decide +kernel
theorem dX5_meets_46 : decode cX5_meets 46 = .ok (.aload_n 0, 1) := by decide +kernel
theorem dX5_meets_47 : decode cX5_meets 47 = .ok (.iload_n 1, 1) := by decide +kernel
theorem dX5_meets_48 : decode cX5_meets 48 = .ok (.iconst 0, 1) := by decide +kernel
theorem dX5_meets_49 : decode cX5_meets 49 = .ok (.invokevirtual 117, 3) := by decide +kernel
theorem dX5_meets_52 : decode cX5_meets 52 = .ok (.aload_n 0, 1) := by decide +kernel
theorem dX5_meets_53 : decode cX5_meets 53 = .ok (.iload_n 2, 1) := by decide +kernel
theorem dX5_meets_54 : decode cX5_meets 54 = .ok (.iconst 0, 1) := by decide +kernel
theorem dX5_meets_55 : decode cX5_meets 55 = .ok (.invokevirtual 117, 3) := by decide +kernel
theorem dX5_meets_58 : decode cX5_meets 58 = .ok (.if_icmp .eq 13, 3) := by decide +kernel
theorem dX5_meets_61 : decode cX5_meets 61 = .ok (.aload_n 0, 1) := by decide +kernel
theorem dX5_meets_62 : decode cX5_meets 62 = .ok (.invokevirtual 156, 3) := by decide +kernel
theorem dX5_meets_65 : decode cX5_meets 65 = .ok (.iinc 3 1, 3) := by decide +kernel
theorem dX5_meets_68 : decode cX5_meets 68 = .ok (.goto (-29), 3) := by decide +kernel
theorem dX5_meets_71 : decode cX5_meets 71 = .ok (.aload_n 0, 1) := by decide +kernel
theorem dX5_meets_72 : decode cX5_meets 72 = .ok (.iload_n 1, 1) := by decide +kernel
theorem dX5_meets_73 : decode cX5_meets 73 = .ok (.iconst 0, 1) := by decide +kernel
theorem dX5_meets_74 : decode cX5_meets 74 = .ok (.invokevirtual 117, 3) := by decide +kernel
theorem dX5_meets_77 : decode cX5_meets 77 = .ok (.aload_n 0, 1) := by decide +kernel
theorem dX5_meets_78 : decode cX5_meets 78 = .ok (.iload_n 2, 1) := by decide +kernel
theorem dX5_meets_79 : decode cX5_meets 79 = .ok (.iconst 0, 1) := by decide +kernel
theorem dX5_meets_80 : decode cX5_meets 80 = .ok (.invokevirtual 117, 3) := by decide +kernel
theorem dX5_meets_83 : decode cX5_meets 83 = .ok (.if_icmp .ne 7, 3) := by decide +kernel
theorem dX5_meets_86 : decode cX5_meets 86 = .ok (.iconst 1, 1) := by decide +kernel
theorem dX5_meets_87 : decode cX5_meets 87 = .ok (.goto 4, 3) := by decide +kernel
theorem dX5_meets_90 : decode cX5_meets 90 = .ok (.iconst 0, 1) := by decide +kernel
theorem dX5_meets_91 : decode cX5_meets 91 = .ok (.istore 4, 2) := by decide +kernel
theorem dX5_meets_93 : decode cX5_meets 93 = .ok (.aload_n 0, 1) := by decide +kernel
theorem dX5_meets_94 : decode cX5_meets 94 = .ok (.aload_n 0, 1) := by decide +kernel
theorem dX5_meets_95 : decode cX5_meets 95 = .ok (.iload 4, 2) := by decide +kernel
theorem dX5_meets_97 : decode cX5_meets 97 = .ok (.ifCond .eq 7, 3) := by decide +kernel
theorem dX5_meets_100 : decode cX5_meets 100 = .ok (.iload_n 3, 1) := by decide +kernel
theorem dX5_meets_101 : decode cX5_meets 101 = .ok (.goto 5, 3) := by decide +kernel
theorem dX5_meets_104 : decode cX5_meets 104 = .ok (.ldc 184, 2) := by decide +kernel
theorem dX5_meets_106 : decode cX5_meets 106 = .ok (.invokevirtual 178, 3) := by decide +kernel
theorem dX5_meets_109 : decode cX5_meets 109 = .ok (.invokevirtual 189, 3) := by decide +kernel
theorem dX5_meets_112 : decode cX5_meets 112 = .ok (.ireturn, 1) := by decide +kernel
theorem dX5_isStill_0 : decode cX5_isStill 0 = .ok (.iconst 1, 1) := by decide +kernel
theorem dX5_isStill_1 : decode cX5_isStill 1 = .ok (.istore_n 1, 1) := by decide +kernel
theorem dX5_isStill_2 : decode cX5_isStill 2 = .ok (.iconst 0, 1) := by decide +kernel
theorem dX5_isStill_3 : decode cX5_isStill 3 = .ok (.istore_n 2, 1) := by decide +kernel
theorem dX5_isStill_4 : decode cX5_isStill 4 = .ok (.iload_n 2, 1) := by decide +kernel
theorem dX5_isStill_5 : decode cX5_isStill 5 = .ok (.iconst 4, 1) := by decide +kernel
theorem dX5_isStill_6 : decode cX5_isStill 6 = .ok (.if_icmp .ge 33, 3) := by decide +kernel
theorem dX5_isStill_9 : decode cX5_isStill 9 = .ok (.iload_n 1, 1) := by decide +kernel
theorem dX5_isStill_10 : decode cX5_isStill 10 = .ok (.ifCond .eq 21, 3) := by decide +kernel
theorem dX5_isStill_13 : decode cX5_isStill 13 = .ok (.aload_n 0, 1) := by decide +kernel
theorem dX5_isStill_14 : decode cX5_isStill 14 = .ok (.iload_n 2, 1) := by decide +kernel
theorem dX5_isStill_15 : decode cX5_isStill 15 = .ok (.invokevirtual 141, 3) := by decide +kernel
theorem dX5_isStill_18 : decode cX5_isStill 18 = .ok (.aload_n 0, 1) := by decide +kernel
theorem dX5_isStill_19 : decode cX5_isStill 19 = .ok (.iload_n 2, 1) := by decide +kernel
theorem dX5_isStill_20 : decode cX5_isStill 20 = .ok (.iconst 0, 1) := by decide +kernel
theorem dX5_isStill_21 : decode cX5_isStill 21 = .ok (.invokevirtual 117, 3) := by decide +kernel
theorem dX5_isStill_24 : decode cX5_isStill 24 = .ok (.if_icmp .ne 7, 3) := by decide +kernel
theorem dX5_isStill_27 : decode cX5_isStill 27 = .ok (.iconst 1, 1) := by decide +kernel
theorem dX5_isStill_28 : decode cX5_isStill 28 = .ok (.goto 4, 3) := by decide +kernel
theorem dX5_isStill_31 : decode cX5_isStill 31 = .ok (.iconst 0, 1) := by decide +kernel
theorem dX5_isStill_32 : decode cX5_isStill 32 = .ok (.istore_n 1, 1) := by decide +kernel
theorem dX5_isStill_33 : decode cX5_isStill 33 = .ok (.iinc 2 1, 3) := by decide +kernel
theorem dX5_isStill_36 : decode cX5_isStill 36 = .ok (.goto (-32), 3) := by decide +kernel
theorem dX5_isStill_39 : decode cX5_isStill 39 = .ok (.iload_n 1, 1) := by decide +kernel
theorem dX5_isStill_40 : decode cX5_isStill 40 = .ok (.ireturn, 1) := by decide +kernel
theorem dX5_still_0 : decode cX5_still 0 = .ok (.aload_n 0, 1) := by decide +kernel
theorem dX5_still_1 : decode cX5_still 1 = .ok (.getfield 9, 3) := by decide +kernel
theorem dX5_still_4 : decode cX5_still 4 = .ok (.aload_n 0, 1) := by decide +kernel
theorem dX5_still_5 : decode cX5_still 5 = .ok (.getfield 16, 3) := by decide +kernel
theorem dX5_still_8 : decode cX5_still 8 = .ok (.invokestatic 67, 3) := by decide +kernel
theorem dX5_still_11 : decode cX5_still 11 = .ok (.iconst 0, 1) := by decide +kernel
theorem dX5_still_12 : decode cX5_still 12 = .ok (.istore_n 1, 1) := by decide +kernel
theorem dX5_still_13 : decode cX5_still 13 = .ok (.iload_n 1, 1) := by decide +kernel
theorem dX5_still_14 : decode cX5_still 14 = .ok (.bipush 60, 2) := by decide +kernel
theorem dX5_still_16 : decode cX5_still 16 = .ok (.if_icmp .ge 20, 3) := by decide +kernel
theorem dX5_still_19 : decode cX5_still 19 = .ok (.aload_n 0, 1) := by decide +kernel
theorem dX5_still_20 : decode cX5_still 20 = .ok (.invokevirtual 192, 3) := by decide +kernel
theorem dX5_still_23 : decode cX5_still 23 = .ok (.ifCond .ne 13, 3) := by decide +kernel
theorem dX5_still_26 : decode cX5_still 26 = .ok (.aload_n 0, 1) := by decide +kernel
theorem dX5_still_27 : decode cX5_still 27 = .ok (.invokevirtual 156, 3) := by decide +kernel
theorem dX5_still_30 : decode cX5_still 30 = .ok (.iinc 1 1, 3) := by decide +kernel
theorem dX5_still_33 : decode cX5_still 33 = .ok (.goto (-20), 3) := by decide +kernel
theorem dX5_still_36 : decode cX5_still 36 = .ok (.aload_n 0, 1) := by decide +kernel
theorem dX5_still_37 : decode cX5_still 37 = .ok (.aload_n 0, 1) := by decide +kernel
theorem dX5_still_38 : decode cX5_still 38 = .ok (.aload_n 0, 1) := by decide +kernel
theorem dX5_still_39 : decode cX5_still 39 = .ok (.invokevirtual 192, 3) := by decide +kernel
theorem dX5_still_42 : decode cX5_still 42 = .ok (.ifCond .eq 7, 3) := by decide +kernel
theorem dX5_still_45 : decode cX5_still 45 = .ok (.iload_n 1, 1) := by decide +kernel
theorem dX5_still_46 : decode cX5_still 46 = .ok (.goto 5, 3) := by decide +kernel
theorem dX5_still_49 : decode cX5_still 49 = .ok (.ldc 184, 2) := by decide +kernel
theorem dX5_still_51 : decode cX5_still 51 = .ok (.invokevirtual 178, 3) := by decide +kernel
theorem dX5_still_54 : decode cX5_still 54 = .ok (.invokevirtual 189, 3) := by decide +kernel
theorem dX5_still_57 : decode cX5_still 57 = .ok (.ireturn, 1) := by decide +kernel
theorem dX5_satBehind_0 : decode cX5_satBehind 0 = .ok (.aload_n 0, 1) := by decide +kernel
theorem dX5_satBehind_1 : decode cX5_satBehind 1 = .ok (.getfield 9, 3) := by decide +kernel
theorem dX5_satBehind_4 : decode cX5_satBehind 4 = .ok (.aload_n 0, 1) := by decide +kernel
theorem dX5_satBehind_5 : decode cX5_satBehind 5 = .ok (.getfield 16, 3) := by decide +kernel
theorem dX5_satBehind_8 : decode cX5_satBehind 8 = .ok (.invokestatic 67, 3) := by decide +kernel
theorem dX5_satBehind_11 : decode cX5_satBehind 11 = .ok (.aload_n 0, 1) := by decide +kernel
theorem dX5_satBehind_12 : decode cX5_satBehind 12 = .ok (.iload_n 2, 1) := by decide +kernel
theorem dX5_satBehind_13 : decode cX5_satBehind 13 = .ok (.invokevirtual 161, 3) := by decide +kernel
theorem dX5_satBehind_16 : decode cX5_satBehind 16 = .ok (.aload_n 0, 1) := by decide +kernel
theorem dX5_satBehind_17 : decode cX5_satBehind 17 = .ok (.aload_n 0, 1) := by decide +kernel
theorem dX5_satBehind_18 : decode cX5_satBehind 18 = .ok (.iload_n 1, 1) := by decide +kernel
theorem dX5_satBehind_19 : decode cX5_satBehind 19 = .ok (.invokevirtual 108, 3) := by decide +kernel
theorem dX5_satBehind_22 : decode cX5_satBehind 22 = .ok (.invokevirtual 178, 3) := by decide +kernel
theorem dX5_satBehind_25 : decode cX5_satBehind 25 = .ok (.ireturn, 1) := by decide +kernel
theorem dX5_sits_0 : decode cX5_sits 0 = .ok (.aload_n 0, 1) := by decide +kernel
theorem dX5_sits_1 : decode cX5_sits 1 = .ok (.iload_n 1, 1) := by decide +kernel
theorem dX5_sits_2 : decode cX5_sits 2 = .ok (.invokevirtual 105, 3) := by decide +kernel
theorem dX5_sits_5 : decode cX5_sits 5 = .ok (.ifCond .eq 23, 3) := by decide +kernel
theorem dX5_sits_8 : decode cX5_sits 8 = .ok (.iload_n 2, 1) := by decide +kernel
theorem dX5_sits_9 : decode cX5_sits 9 = .ok (.iconst 0, 1) := by decide +kernel
theorem dX5_sits_10 : decode cX5_sits 10 = .ok (.sipush 200, 3) := by decide +kernel
theorem dX5_sits_13 : decode cX5_sits 13 = .ok (.invokestatic 71, 3) := by decide +kernel
theorem dX5_sits_16 : decode cX5_sits 16 = .ok (.ifCond .eq 12, 3) := by decide +kernel
theorem dX5_sits_19 : decode cX5_sits 19 = .ok (.aload_n 0, 1) := by decide +kernel
theorem dX5_sits_20 : decode cX5_sits 20 = .ok (.iload_n 1, 1) := by decide +kernel
theorem dX5_sits_21 : decode cX5_sits 21 = .ok (.iload_n 2, 1) := by decide +kernel
theorem dX5_sits_22 : decode cX5_sits 22 = .ok (.invokevirtual 196, 3) := by decide +kernel
theorem dX5_sits_25 : decode cX5_sits 25 = .ok (.goto 9, 3) := by decide +kernel
theorem dX5_sits_28 : decode cX5_sits 28 = .ok (.aload_n 0, 1) := by decide +kernel
theorem dX5_sits_29 : decode cX5_sits 29 = .ok (.ldc 66, 2) := by decide +kernel
theorem dX5_sits_31 : decode cX5_sits 31 = .ok (.invokevirtual 86, 3) := by decide +kernel
theorem dX5_sits_34 : decode cX5_sits 34 = .ok (.ireturn, 1) := by decide +kernel
theorem dX5_soonestWith_0 : decode cX5_soonestWith 0 = .ok (.aload_n 0, 1) := by decide +kernel
theorem dX5_soonestWith_1 : decode cX5_soonestWith 1 = .ok (.getfield 9, 3) := by decide +kernel
theorem dX5_soonestWith_4 : decode cX5_soonestWith 4 = .ok (.iload_n 1, 1) := by decide +kernel
theorem dX5_soonestWith_5 : decode cX5_soonestWith 5 = .ok (.iaload, 1) := by decide +kernel
theorem dX5_soonestWith_6 : decode cX5_soonestWith 6 = .ok (.istore 4, 2) := by decide +kernel
theorem dX5_soonestWith_8 : decode cX5_soonestWith 8 = .ok (.iconst (-1), 1) := by decide +kernel
theorem dX5_soonestWith_9 : decode cX5_soonestWith 9 = .ok (.istore 5, 2) := by decide +kernel
theorem dX5_soonestWith_11 : decode cX5_soonestWith 11 = .ok (.aload_n 0, 1) := by decide +kernel
theorem dX5_soonestWith_12 : decode cX5_soonestWith 12 = .ok (.ldc 184, 2) := by decide +kernel
theorem dX5_soonestWith_14 : decode cX5_soonestWith 14 = .ok (.putfield 199, 3) := by decide +kernel
theorem dX5_soonestWith_17 : decode cX5_soonestWith 17 = .ok (.iconst 0, 1) := by decide +kernel
theorem dX5_soonestWith_18 : decode cX5_soonestWith 18 = .ok (.istore 6, 2) := by decide +kernel
theorem dX5_soonestWith_20 : decode cX5_soonestWith 20 = .ok (.iload 6, 2) := by decide +kernel
theorem dX5_soonestWith_22 : decode cX5_soonestWith 22 = .ok (.iload_n 2, 1) := by decide +kernel
theorem dX5_soonestWith_23 : decode cX5_soonestWith 23 = .ok (.if_icmp .ge 57, 3) := by decide +kernel
theorem dX5_soonestWith_26 : decode cX5_soonestWith 26 = .ok (.aload_n 0, 1) := by decide +kernel
theorem dX5_soonestWith_27 : decode cX5_soonestWith 27 = .ok (.getfield 9, 3) := by decide +kernel
theorem dX5_soonestWith_30 : decode cX5_soonestWith 30 = .ok (.iload_n 1, 1) := by decide +kernel
theorem dX5_soonestWith_31 : decode cX5_soonestWith 31 = .ok (.iload 6, 2) := by decide +kernel
theorem dX5_soonestWith_33 : decode cX5_soonestWith 33 = .ok (.iastore, 1) := by decide +kernel
theorem dX5_soonestWith_34 : decode cX5_soonestWith 34 = .ok (.aload_n 0, 1) := by decide +kernel
theorem dX5_soonestWith_35 : decode cX5_soonestWith 35 = .ok (.iload_n 3, 1) := by decide +kernel
theorem dX5_soonestWith_36 : decode cX5_soonestWith 36 = .ok (.bipush 60, 2) := by decide +kernel
theorem dX5_soonestWith_38 : decode cX5_soonestWith 38 = .ok (.invokevirtual 186, 3) := by decide +kernel
theorem dX5_soonestWith_41 : decode cX5_soonestWith 41 = .ok (.istore 7, 2) := by decide +kernel
theorem dX5_soonestWith_43 : decode cX5_soonestWith 43 = .ok (.iload 7, 2) := by decide +kernel
theorem dX5_soonestWith_45 : decode cX5_soonestWith 45 = .ok (.aload_n 0, 1) := by decide +kernel
theorem dX5_soonestWith_46 : decode cX5_soonestWith 46 = .ok (.getfield 199, 3) := by decide +kernel
theorem dX5_soonestWith_49 : decode cX5_soonestWith 49 = .ok (.if_icmp .ge 8, 3) := by decide +kernel
theorem dX5_soonestWith_52 : decode cX5_soonestWith 52 = .ok (.iload 6, 2) := by decide +kernel
theorem dX5_soonestWith_54 : decode cX5_soonestWith 54 = .ok (.goto 5, 3) := by decide +kernel
theorem dX5_soonestWith_57 : decode cX5_soonestWith 57 = .ok (.iload 5, 2) := by decide +kernel
theorem dX5_soonestWith_59 : decode cX5_soonestWith 59 = .ok (.istore 5, 2) := by decide +kernel
theorem dX5_soonestWith_61 : decode cX5_soonestWith 61 = .ok (.aload_n 0, 1) := by decide +kernel
theorem dX5_soonestWith_62 : decode cX5_soonestWith 62 = .ok (.aload_n 0, 1) := by decide +kernel
theorem dX5_soonestWith_63 : decode cX5_soonestWith 63 = .ok (.getfield 199, 3) := by decide +kernel
theorem dX5_soonestWith_66 : decode cX5_soonestWith 66 = .ok (.iload 7, 2) := by decide +kernel
theorem dX5_soonestWith_68 : decode cX5_soonestWith 68 = .ok (.invokestatic 151, 3) := by decide +kernel
theorem dX5_soonestWith_71 : decode cX5_soonestWith 71 = .ok (.putfield 199, 3) := by decide +kernel
theorem dX5_soonestWith_74 : decode cX5_soonestWith 74 = .ok (.iinc 6 1, 3) := by decide +kernel
theorem dX5_soonestWith_77 : decode cX5_soonestWith 77 = .ok (.goto (-57), 3) := by decide +kernel
theorem dX5_soonestWith_80 : decode cX5_soonestWith 80 = .ok (.aload_n 0, 1) := by decide +kernel
theorem dX5_soonestWith_81 : decode cX5_soonestWith 81 = .ok (.getfield 9, 3) := by decide +kernel
theorem dX5_soonestWith_84 : decode cX5_soonestWith 84 = .ok (.iload_n 1, 1) := by decide +kernel
theorem dX5_soonestWith_85 : decode cX5_soonestWith 85 = .ok (.iload 4, 2) := by decide +kernel
theorem dX5_soonestWith_87 : decode cX5_soonestWith 87 = .ok (.iastore, 1) := by decide +kernel
theorem dX5_soonestWith_88 : decode cX5_soonestWith 88 = .ok (.iload 5, 2) := by decide +kernel
theorem dX5_soonestWith_90 : decode cX5_soonestWith 90 = .ok (.ireturn, 1) := by decide +kernel
theorem dX5_bestOrder_0 : decode cX5_bestOrder 0 = .ok (.aload_n 0, 1) := by decide +kernel
theorem dX5_bestOrder_1 : decode cX5_bestOrder 1 = .ok (.iload_n 1, 1) := by decide +kernel
theorem dX5_bestOrder_2 : decode cX5_bestOrder 2 = .ok (.iconst 1, 1) := by decide +kernel
theorem dX5_bestOrder_3 : decode cX5_bestOrder 3 = .ok (.invokestatic 79, 3) := by decide +kernel
theorem dX5_bestOrder_6 : decode cX5_bestOrder 6 = .ok (.bipush 32, 2) := by decide +kernel
theorem dX5_bestOrder_8 : decode cX5_bestOrder 8 = .ok (.iload_n 1, 1) := by decide +kernel
theorem dX5_bestOrder_9 : decode cX5_bestOrder 9 = .ok (.invokevirtual 203, 3) := by decide +kernel
theorem dX5_bestOrder_12 : decode cX5_bestOrder 12 = .ok (.ireturn, 1) := by decide +kernel
theorem dX5_orNone_0 : decode cX5_orNone 0 = .ok (.iload_n 1, 1) := by decide +kernel
theorem dX5_orNone_1 : decode cX5_orNone 1 = .ok (.ifCond .ge 12, 3) := by decide +kernel
theorem dX5_orNone_4 : decode cX5_orNone 4 = .ok (.aload_n 0, 1) := by decide +kernel
theorem dX5_orNone_5 : decode cX5_orNone 5 = .ok (.ldc 185, 2) := by decide +kernel
theorem dX5_orNone_7 : decode cX5_orNone 7 = .ok (.invokevirtual 86, 3) := by decide +kernel
theorem dX5_orNone_10 : decode cX5_orNone 10 = .ok (.goto 4, 3) := by decide +kernel
theorem dX5_orNone_13 : decode cX5_orNone 13 = .ok (.iload_n 1, 1) := by decide +kernel
theorem dX5_orNone_14 : decode cX5_orNone 14 = .ok (.ireturn, 1) := by decide +kernel
theorem dX5_order_0 : decode cX5_order 0 = .ok (.iload_n 1, 1) := by decide +kernel
theorem dX5_order_1 : decode cX5_order 1 = .ok (.invokestatic 138, 3) := by decide +kernel
theorem dX5_order_4 : decode cX5_order 4 = .ok (.ifCond .eq 15, 3) := by decide +kernel
theorem dX5_order_7 : decode cX5_order 7 = .ok (.aload_n 0, 1) := by decide +kernel
theorem dX5_order_8 : decode cX5_order 8 = .ok (.aload_n 0, 1) := by decide +kernel
theorem dX5_order_9 : decode cX5_order 9 = .ok (.iload_n 1, 1) := by decide +kernel
theorem dX5_order_10 : decode cX5_order 10 = .ok (.invokevirtual 206, 3) := by decide +kernel
theorem dX5_order_13 : decode cX5_order 13 = .ok (.invokevirtual 209, 3) := by decide +kernel
theorem dX5_order_16 : decode cX5_order 16 = .ok (.goto 9, 3) := by decide +kernel
theorem dX5_order_19 : decode cX5_order 19 = .ok (.aload_n 0, 1) := by decide +kernel
theorem dX5_order_20 : decode cX5_order 20 = .ok (.ldc 66, 2) := by decide +kernel
theorem dX5_order_22 : decode cX5_order 22 = .ok (.invokevirtual 86, 3) := by decide +kernel
theorem dX5_order_25 : decode cX5_order 25 = .ok (.ireturn, 1) := by decide +kernel
theorem dX5_soonest_0 : decode cX5_soonest 0 = .ok (.iload_n 1, 1) := by decide +kernel
theorem dX5_soonest_1 : decode cX5_soonest 1 = .ok (.invokestatic 138, 3) := by decide +kernel
theorem dX5_soonest_4 : decode cX5_soonest 4 = .ok (.ifCond .ne 10, 3) := by decide +kernel
theorem dX5_soonest_7 : decode cX5_soonest 7 = .ok (.aload_n 0, 1) := by decide +kernel
theorem dX5_soonest_8 : decode cX5_soonest 8 = .ok (.ldc 66, 2) := by decide +kernel
theorem dX5_soonest_10 : decode cX5_soonest 10 = .ok (.invokevirtual 86, 3) := by decide +kernel
theorem dX5_soonest_13 : decode cX5_soonest 13 = .ok (.ireturn, 1) := by decide +kernel
theorem dX5_soonest_14 : decode cX5_soonest 14 = .ok (.aload_n 0, 1) := by decide +kernel
theorem dX5_soonest_15 : decode cX5_soonest 15 = .ok (.aload_n 0, 1) := by decide +kernel
theorem dX5_soonest_16 : decode cX5_soonest 16 = .ok (.iload_n 1, 1) := by decide +kernel
theorem dX5_soonest_17 : decode cX5_soonest 17 = .ok (.invokevirtual 206, 3) := by decide +kernel
theorem dX5_soonest_20 : decode cX5_soonest 20 = .ok (.ifCond .ge 7, 3) := by decide +kernel
theorem dX5_soonest_23 : decode cX5_soonest 23 = .ok (.iconst (-1), 1) := by decide +kernel
theorem dX5_soonest_24 : decode cX5_soonest 24 = .ok (.goto 7, 3) := by decide +kernel
theorem dX5_soonest_27 : decode cX5_soonest 27 = .ok (.aload_n 0, 1) := by decide +kernel
theorem dX5_soonest_28 : decode cX5_soonest 28 = .ok (.getfield 199, 3) := by decide +kernel
theorem dX5_soonest_31 : decode cX5_soonest 31 = .ok (.invokevirtual 209, 3) := by decide +kernel
theorem dX5_soonest_34 : decode cX5_soonest 34 = .ok (.ireturn, 1) := by decide +kernel
theorem dX5_orders_0 : decode cX5_orders 0 = .ok (.iload_n 1, 1) := by decide +kernel
theorem dX5_orders_1 : decode cX5_orders 1 = .ok (.invokestatic 138, 3) := by decide +kernel
theorem dX5_orders_4 : decode cX5_orders 4 = .ok (.ifCond .eq 10, 3) := by decide +kernel
theorem dX5_orders_7 : decode cX5_orders 7 = .ok (.iload_n 2, 1) := by decide +kernel
theorem dX5_orders_8 : decode cX5_orders 8 = .ok (.invokestatic 144, 3) := by decide +kernel
theorem dX5_orders_11 : decode cX5_orders 11 = .ok (.ifCond .ne 11, 3) := by decide +kernel
theorem dX5_orders_14 : decode cX5_orders 14 = .ok (.aload_n 0, 1) := by decide +kernel
theorem dX5_orders_15 : decode cX5_orders 15 = .ok (.ldc 66, 2) := by decide +kernel
theorem dX5_orders_17 : decode cX5_orders 17 = .ok (.invokevirtual 86, 3) := by decide +kernel
theorem dX5_orders_20 : decode cX5_orders 20 = .ok (.i2l, 1) := by decide +kernel
theorem dX5_orders_21 : decode cX5_orders 21 = .ok (.lreturn, 1) := by decide +kernel
theorem dX5_orders_22 : decode cX5_orders 22 = .ok (.aload_n 0, 1) := by decide +kernel
theorem dX5_orders_23 : decode cX5_orders 23 = .ok (.iload_n 2, 1) := by decide +kernel
theorem dX5_orders_24 : decode cX5_orders 24 = .ok (.invokevirtual 126, 3) := by decide +kernel
theorem dX5_orders_27 : decode cX5_orders 27 = .ok (.ifCond .ne 11, 3) := by decide +kernel
theorem dX5_orders_30 : decode cX5_orders 30 = .ok (.aload_n 0, 1) := by decide +kernel
theorem dX5_orders_31 : decode cX5_orders 31 = .ok (.ldc 160, 2) := by decide +kernel
theorem dX5_orders_33 : decode cX5_orders 33 = .ok (.invokevirtual 86, 3) := by decide +kernel
theorem dX5_orders_36 : decode cX5_orders 36 = .ok (.i2l, 1) := by decide +kernel
theorem dX5_orders_37 : decode cX5_orders 37 = .ok (.lreturn, 1) := by decide +kernel
theorem dX5_orders_38 : decode cX5_orders 38 = .ok (.aload_n 0, 1) := by decide +kernel
theorem dX5_orders_39 : decode cX5_orders 39 = .ok (.iload_n 1, 1) := by decide +kernel
theorem dX5_orders_40 : decode cX5_orders 40 = .ok (.iconst 1, 1) := by decide +kernel
theorem dX5_orders_41 : decode cX5_orders 41 = .ok (.invokevirtual 117, 3) := by decide +kernel
theorem dX5_orders_44 : decode cX5_orders 44 = .ok (.istore_n 3, 1) := by decide +kernel
theorem dX5_orders_45 : decode cX5_orders 45 = .ok (.lconst 0, 1) := by decide +kernel
theorem dX5_orders_46 : decode cX5_orders 46 = .ok (.lstore 4, 2) := by decide +kernel
theorem dX5_orders_48 : decode cX5_orders 48 = .ok (.iconst 0, 1) := by decide +kernel
theorem dX5_orders_49 : decode cX5_orders 49 = .ok (.istore 6, 2) := by decide +kernel
theorem dX5_orders_51 : decode cX5_orders 51 = .ok (.iload 6, 2) := by decide +kernel
theorem dX5_orders_53 : decode cX5_orders 53 = .ok (.bipush 32, 2) := by decide +kernel
theorem dX5_orders_55 : decode cX5_orders 55 = .ok (.if_icmp .ge 45, 3) := by decide +kernel
theorem dX5_orders_58 : decode cX5_orders 58 = .ok (.aload_n 0, 1) := by decide +kernel
theorem dX5_orders_59 : decode cX5_orders 59 = .ok (.getfield 9, 3) := by decide +kernel
theorem dX5_orders_62 : decode cX5_orders 62 = .ok (.iload_n 1, 1) := by decide +kernel
theorem dX5_orders_63 : decode cX5_orders 63 = .ok (.iconst 1, 1) := by decide +kernel
theorem dX5_orders_64 : decode cX5_orders 64 = .ok (.invokestatic 79, 3) := by decide +kernel
theorem dX5_orders_67 : decode cX5_orders 67 = .ok (.iload 6, 2) := by decide +kernel
theorem dX5_orders_69 : decode cX5_orders 69 = .ok (.iastore, 1) := by decide +kernel
theorem dX5_orders_70 : decode cX5_orders 70 = .ok (.lload 4, 2) := by decide +kernel
theorem dX5_orders_72 : decode cX5_orders 72 = .ok (.aload_n 0, 1) := by decide +kernel
theorem dX5_orders_73 : decode cX5_orders 73 = .ok (.iload_n 1, 1) := by decide +kernel
theorem dX5_orders_74 : decode cX5_orders 74 = .ok (.bipush 60, 2) := by decide +kernel
theorem dX5_orders_76 : decode cX5_orders 76 = .ok (.invokevirtual 181, 3) := by decide +kernel
theorem dX5_orders_79 : decode cX5_orders 79 = .ok (.iload_n 2, 1) := by decide +kernel
theorem dX5_orders_80 : decode cX5_orders 80 = .ok (.if_icmp .ne 10, 3) := by decide +kernel
theorem dX5_orders_83 : decode cX5_orders 83 = .ok (.lconst 1, 1) := by decide +kernel
theorem dX5_orders_84 : decode cX5_orders 84 = .ok (.iload 6, 2) := by decide +kernel
theorem dX5_orders_86 : decode cX5_orders 86 = .ok (.lshl, 1) := by decide +kernel
theorem dX5_orders_87 : decode cX5_orders 87 = .ok (.goto 4, 3) := by decide +kernel
theorem dX5_orders_90 : decode cX5_orders 90 = .ok (.lconst 0, 1) := by decide +kernel
theorem dX5_orders_91 : decode cX5_orders 91 = .ok (.lor, 1) := by decide +kernel
theorem dX5_orders_92 : decode cX5_orders 92 = .ok (.lstore 4, 2) := by decide +kernel
theorem dX5_orders_94 : decode cX5_orders 94 = .ok (.iinc 6 1, 3) := by decide +kernel
theorem dX5_orders_97 : decode cX5_orders 97 = .ok (.goto (-46), 3) := by decide +kernel
theorem dX5_orders_100 : decode cX5_orders 100 = .ok (.aload_n 0, 1) := by decide +kernel
theorem dX5_orders_101 : decode cX5_orders 101 = .ok (.getfield 9, 3) := by decide +kernel
theorem dX5_orders_104 : decode cX5_orders 104 = .ok (.iload_n 1, 1) := by decide +kernel
theorem dX5_orders_105 : decode cX5_orders 105 = .ok (.iconst 1, 1) := by decide +kernel
theorem dX5_orders_106 : decode cX5_orders 106 = .ok (.invokestatic 79, 3) := by decide +kernel
theorem dX5_orders_109 : decode cX5_orders 109 = .ok (.iload_n 3, 1) := by decide +kernel
theorem dX5_orders_110 : decode cX5_orders 110 = .ok (.iastore, 1) := by decide +kernel
theorem dX5_orders_111 : decode cX5_orders 111 = .ok (.lload 4, 2) := by decide +kernel
theorem dX5_orders_113 : decode cX5_orders 113 = .ok (.lreturn, 1) := by decide +kernel
theorem dX5_findSurest_0 : decode cX5_findSurest 0 = .ok (.aload_n 0, 1) := by decide +kernel
theorem dX5_findSurest_1 : decode cX5_findSurest 1 = .ok (.iload_n 1, 1) := by decide +kernel
theorem dX5_findSurest_2 : decode cX5_findSurest 2 = .ok (.iconst 1, 1) := by decide +kernel
theorem dX5_findSurest_3 : decode cX5_findSurest 3 = .ok (.invokevirtual 117, 3) := by decide +kernel
theorem dX5_findSurest_6 : decode cX5_findSurest 6 = .ok (.istore_n 2, 1) := by decide +kernel
theorem dX5_findSurest_7 : decode cX5_findSurest 7 = .ok (.aload_n 0, 1) := by decide +kernel
theorem dX5_findSurest_8 : decode cX5_findSurest 8 = .ok (.getfield 9, 3) := by decide +kernel
theorem dX5_findSurest_11 : decode cX5_findSurest 11 = .ok (.iconst 2, 1) := by decide +kernel
theorem dX5_findSurest_12 : decode cX5_findSurest 12 = .ok (.iaload, 1) := by decide +kernel
theorem dX5_findSurest_13 : decode cX5_findSurest 13 = .ok (.istore_n 3, 1) := by decide +kernel
theorem dX5_findSurest_14 : decode cX5_findSurest 14 = .ok (.iconst (-1), 1) := by decide +kernel
theorem dX5_findSurest_15 : decode cX5_findSurest 15 = .ok (.istore 4, 2) := by decide +kernel
theorem dX5_findSurest_17 : decode cX5_findSurest 17 = .ok (.aload_n 0, 1) := by decide +kernel
theorem dX5_findSurest_18 : decode cX5_findSurest 18 = .ok (.iconst (-1), 1) := by decide +kernel
theorem dX5_findSurest_19 : decode cX5_findSurest 19 = .ok (.putfield 212, 3) := by decide +kernel
theorem dX5_findSurest_22 : decode cX5_findSurest 22 = .ok (.iconst 0, 1) := by decide +kernel
theorem dX5_findSurest_23 : decode cX5_findSurest 23 = .ok (.istore 5, 2) := by decide +kernel
theorem dX5_findSurest_25 : decode cX5_findSurest 25 = .ok (.iload 5, 2) := by decide +kernel
theorem dX5_findSurest_27 : decode cX5_findSurest 27 = .ok (.bipush 32, 2) := by decide +kernel
theorem dX5_findSurest_29 : decode cX5_findSurest 29 = .ok (.if_icmp .ge 101, 3) := by decide +kernel
theorem dX5_findSurest_32 : decode cX5_findSurest 32 = .ok (.aload_n 0, 1) := by decide +kernel
theorem dX5_findSurest_33 : decode cX5_findSurest 33 = .ok (.getfield 9, 3) := by decide +kernel
theorem dX5_findSurest_36 : decode cX5_findSurest 36 = .ok (.iload_n 1, 1) := by decide +kernel
theorem dX5_findSurest_37 : decode cX5_findSurest 37 = .ok (.iconst 1, 1) := by decide +kernel
theorem dX5_findSurest_38 : decode cX5_findSurest 38 = .ok (.invokestatic 79, 3) := by decide +kernel
theorem dX5_findSurest_41 : decode cX5_findSurest 41 = .ok (.iload 5, 2) := by decide +kernel
theorem dX5_findSurest_43 : decode cX5_findSurest 43 = .ok (.iastore, 1) := by decide +kernel
theorem dX5_findSurest_44 : decode cX5_findSurest 44 = .ok (.iconst 0, 1) := by decide +kernel
theorem dX5_findSurest_45 : decode cX5_findSurest 45 = .ok (.istore 6, 2) := by decide +kernel
theorem dX5_findSurest_47 : decode cX5_findSurest 47 = .ok (.iconst 0, 1) := by decide +kernel
theorem dX5_findSurest_48 : decode cX5_findSurest 48 = .ok (.istore 7, 2) := by decide +kernel
theorem dX5_findSurest_50 : decode cX5_findSurest 50 = .ok (.iload 7, 2) := by decide +kernel
theorem dX5_findSurest_52 : decode cX5_findSurest 52 = .ok (.bipush 8, 2) := by decide +kernel
theorem dX5_findSurest_54 : decode cX5_findSurest 54 = .ok (.if_icmp .ge 39, 3) := by decide +kernel
theorem dX5_findSurest_57 : decode cX5_findSurest 57 = .ok (.aload_n 0, 1) := by decide +kernel
theorem dX5_findSurest_58 : decode cX5_findSurest 58 = .ok (.getfield 9, 3) := by decide +kernel
theorem dX5_findSurest_61 : decode cX5_findSurest 61 = .ok (.iconst 2, 1) := by decide +kernel
theorem dX5_findSurest_62 : decode cX5_findSurest 62 = .ok (.iload 7, 2) := by decide +kernel
theorem dX5_findSurest_64 : decode cX5_findSurest 64 = .ok (.iastore, 1) := by decide +kernel
theorem dX5_findSurest_65 : decode cX5_findSurest 65 = .ok (.iload 6, 2) := by decide +kernel
theorem dX5_findSurest_67 : decode cX5_findSurest 67 = .ok (.aload_n 0, 1) := by decide +kernel
theorem dX5_findSurest_68 : decode cX5_findSurest 68 = .ok (.iload_n 1, 1) := by decide +kernel
theorem dX5_findSurest_69 : decode cX5_findSurest 69 = .ok (.bipush 60, 2) := by decide +kernel
theorem dX5_findSurest_71 : decode cX5_findSurest 71 = .ok (.invokevirtual 186, 3) := by decide +kernel
theorem dX5_findSurest_74 : decode cX5_findSurest 74 = .ok (.ldc 184, 2) := by decide +kernel
theorem dX5_findSurest_76 : decode cX5_findSurest 76 = .ok (.if_icmp .ne 7, 3) := by decide +kernel
theorem dX5_findSurest_79 : decode cX5_findSurest 79 = .ok (.iconst 0, 1) := by decide +kernel
theorem dX5_findSurest_80 : decode cX5_findSurest 80 = .ok (.goto 4, 3) := by decide +kernel
theorem dX5_findSurest_83 : decode cX5_findSurest 83 = .ok (.iconst 1, 1) := by decide +kernel
theorem dX5_findSurest_84 : decode cX5_findSurest 84 = .ok (.iadd, 1) := by decide +kernel
theorem dX5_findSurest_85 : decode cX5_findSurest 85 = .ok (.istore 6, 2) := by decide +kernel
theorem dX5_findSurest_87 : decode cX5_findSurest 87 = .ok (.iinc 7 1, 3) := by decide +kernel
theorem dX5_findSurest_90 : decode cX5_findSurest 90 = .ok (.goto (-40), 3) := by decide +kernel
theorem dX5_findSurest_93 : decode cX5_findSurest 93 = .ok (.iload 6, 2) := by decide +kernel
theorem dX5_findSurest_95 : decode cX5_findSurest 95 = .ok (.aload_n 0, 1) := by decide +kernel
theorem dX5_findSurest_96 : decode cX5_findSurest 96 = .ok (.getfield 212, 3) := by decide +kernel
theorem dX5_findSurest_99 : decode cX5_findSurest 99 = .ok (.if_icmp .le 8, 3) := by decide +kernel
theorem dX5_findSurest_102 : decode cX5_findSurest 102 = .ok (.iload 5, 2) := by decide +kernel
theorem dX5_findSurest_104 : decode cX5_findSurest 104 = .ok (.goto 5, 3) := by decide +kernel
theorem dX5_findSurest_107 : decode cX5_findSurest 107 = .ok (.iload 4, 2) := by decide +kernel
theorem dX5_findSurest_109 : decode cX5_findSurest 109 = .ok (.istore 4, 2) := by decide +kernel
theorem dX5_findSurest_111 : decode cX5_findSurest 111 = .ok (.aload_n 0, 1) := by decide +kernel
theorem dX5_findSurest_112 : decode cX5_findSurest 112 = .ok (.aload_n 0, 1) := by decide +kernel
theorem dX5_findSurest_113 : decode cX5_findSurest 113 = .ok (.getfield 212, 3) := by decide +kernel
theorem dX5_findSurest_116 : decode cX5_findSurest 116 = .ok (.iload 6, 2) := by decide +kernel
theorem dX5_findSurest_118 : decode cX5_findSurest 118 = .ok (.invokestatic 169, 3) := by decide +kernel
theorem dX5_findSurest_121 : decode cX5_findSurest 121 = .ok (.putfield 212, 3) := by decide +kernel
theorem dX5_findSurest_124 : decode cX5_findSurest 124 = .ok (.iinc 5 1, 3) := by decide +kernel
theorem dX5_findSurest_127 : decode cX5_findSurest 127 = .ok (.goto (-102), 3) := by decide +kernel
theorem dX5_findSurest_130 : decode cX5_findSurest 130 = .ok (.aload_n 0, 1) := by decide +kernel
theorem dX5_findSurest_131 : decode cX5_findSurest 131 = .ok (.getfield 9, 3) := by decide +kernel
theorem dX5_findSurest_134 : decode cX5_findSurest 134 = .ok (.iconst 2, 1) := by decide +kernel
theorem dX5_findSurest_135 : decode cX5_findSurest 135 = .ok (.iload_n 3, 1) := by decide +kernel
theorem dX5_findSurest_136 : decode cX5_findSurest 136 = .ok (.iastore, 1) := by decide +kernel
theorem dX5_findSurest_137 : decode cX5_findSurest 137 = .ok (.aload_n 0, 1) := by decide +kernel
theorem dX5_findSurest_138 : decode cX5_findSurest 138 = .ok (.getfield 9, 3) := by decide +kernel
theorem dX5_findSurest_141 : decode cX5_findSurest 141 = .ok (.iload_n 1, 1) := by decide +kernel
theorem dX5_findSurest_142 : decode cX5_findSurest 142 = .ok (.iconst 1, 1) := by decide +kernel
theorem dX5_findSurest_143 : decode cX5_findSurest 143 = .ok (.invokestatic 79, 3) := by decide +kernel
theorem dX5_findSurest_146 : decode cX5_findSurest 146 = .ok (.iload_n 2, 1) := by decide +kernel
theorem dX5_findSurest_147 : decode cX5_findSurest 147 = .ok (.iastore, 1) := by decide +kernel
theorem dX5_findSurest_148 : decode cX5_findSurest 148 = .ok (.iload 4, 2) := by decide +kernel
theorem dX5_findSurest_150 : decode cX5_findSurest 150 = .ok (.ireturn, 1) := by decide +kernel
theorem dX5_surest_0 : decode cX5_surest 0 = .ok (.iload_n 1, 1) := by decide +kernel
theorem dX5_surest_1 : decode cX5_surest 1 = .ok (.invokestatic 138, 3) := by decide +kernel
theorem dX5_surest_4 : decode cX5_surest 4 = .ok (.ifCond .eq 11, 3) := by decide +kernel
theorem dX5_surest_7 : decode cX5_surest 7 = .ok (.aload_n 0, 1) := by decide +kernel
theorem dX5_surest_8 : decode cX5_surest 8 = .ok (.iload_n 1, 1) := by decide +kernel
theorem dX5_surest_9 : decode cX5_surest 9 = .ok (.invokevirtual 215, 3) := by decide +kernel
theorem dX5_surest_12 : decode cX5_surest 12 = .ok (.goto 9, 3) := by decide +kernel
theorem dX5_surest_15 : decode cX5_surest 15 = .ok (.aload_n 0, 1) := by decide +kernel
theorem dX5_surest_16 : decode cX5_surest 16 = .ok (.ldc 66, 2) := by decide +kernel
theorem dX5_surest_18 : decode cX5_surest 18 = .ok (.invokevirtual 86, 3) := by decide +kernel
theorem dX5_surest_21 : decode cX5_surest 21 = .ok (.ireturn, 1) := by decide +kernel
theorem dX5_winds_0 : decode cX5_winds 0 = .ok (.iload_n 1, 1) := by decide +kernel
theorem dX5_winds_1 : decode cX5_winds 1 = .ok (.invokestatic 138, 3) := by decide +kernel
theorem dX5_winds_4 : decode cX5_winds 4 = .ok (.ifCond .ne 10, 3) := by decide +kernel
theorem dX5_winds_7 : decode cX5_winds 7 = .ok (.aload_n 0, 1) := by decide +kernel
theorem dX5_winds_8 : decode cX5_winds 8 = .ok (.ldc 66, 2) := by decide +kernel
theorem dX5_winds_10 : decode cX5_winds 10 = .ok (.invokevirtual 86, 3) := by decide +kernel
theorem dX5_winds_13 : decode cX5_winds 13 = .ok (.ireturn, 1) := by decide +kernel
theorem dX5_winds_14 : decode cX5_winds 14 = .ok (.aload_n 0, 1) := by decide +kernel
theorem dX5_winds_15 : decode cX5_winds 15 = .ok (.iload_n 1, 1) := by decide +kernel
theorem dX5_winds_16 : decode cX5_winds 16 = .ok (.invokevirtual 215, 3) := by decide +kernel
theorem dX5_winds_19 : decode cX5_winds 19 = .ok (.ifCond .ge 7, 3) := by decide +kernel
theorem dX5_winds_22 : decode cX5_winds 22 = .ok (.iconst 0, 1) := by decide +kernel
theorem dX5_winds_23 : decode cX5_winds 23 = .ok (.goto 7, 3) := by decide +kernel
theorem dX5_winds_26 : decode cX5_winds 26 = .ok (.aload_n 0, 1) := by decide +kernel
theorem dX5_winds_27 : decode cX5_winds 27 = .ok (.getfield 212, 3) := by decide +kernel
theorem dX5_winds_30 : decode cX5_winds 30 = .ok (.ireturn, 1) := by decide +kernel
theorem dX5_windFor_0 : decode cX5_windFor 0 = .ok (.iload_n 1, 1) := by decide +kernel
theorem dX5_windFor_1 : decode cX5_windFor 1 = .ok (.invokestatic 138, 3) := by decide +kernel
theorem dX5_windFor_4 : decode cX5_windFor 4 = .ok (.ifCond .eq 18, 3) := by decide +kernel
theorem dX5_windFor_7 : decode cX5_windFor 7 = .ok (.aload_n 0, 1) := by decide +kernel
theorem dX5_windFor_8 : decode cX5_windFor 8 = .ok (.aload_n 0, 1) := by decide +kernel
theorem dX5_windFor_9 : decode cX5_windFor 9 = .ok (.iconst 2, 1) := by decide +kernel
theorem dX5_windFor_10 : decode cX5_windFor 10 = .ok (.bipush 8, 2) := by decide +kernel
theorem dX5_windFor_12 : decode cX5_windFor 12 = .ok (.iload_n 1, 1) := by decide +kernel
theorem dX5_windFor_13 : decode cX5_windFor 13 = .ok (.invokevirtual 203, 3) := by decide +kernel
theorem dX5_windFor_16 : decode cX5_windFor 16 = .ok (.invokevirtual 209, 3) := by decide +kernel
theorem dX5_windFor_19 : decode cX5_windFor 19 = .ok (.goto 9, 3) := by decide +kernel
theorem dX5_windFor_22 : decode cX5_windFor 22 = .ok (.aload_n 0, 1) := by decide +kernel
theorem dX5_windFor_23 : decode cX5_windFor 23 = .ok (.ldc 66, 2) := by decide +kernel
theorem dX5_windFor_25 : decode cX5_windFor 25 = .ok (.invokevirtual 86, 3) := by decide +kernel
theorem dX5_windFor_28 : decode cX5_windFor 28 = .ok (.ireturn, 1) := by decide +kernel
theorem dX5_findCrew_0 : decode cX5_findCrew 0 = .ok (.iconst (-1), 1) := by decide +kernel
theorem dX5_findCrew_1 : decode cX5_findCrew 1 = .ok (.istore_n 2, 1) := by decide +kernel
theorem dX5_findCrew_2 : decode cX5_findCrew 2 = .ok (.iconst 0, 1) := by decide +kernel
theorem dX5_findCrew_3 : decode cX5_findCrew 3 = .ok (.istore_n 3, 1) := by decide +kernel
theorem dX5_findCrew_4 : decode cX5_findCrew 4 = .ok (.iload_n 3, 1) := by decide +kernel
theorem dX5_findCrew_5 : decode cX5_findCrew 5 = .ok (.iconst 1, 1) := by decide +kernel
theorem dX5_findCrew_6 : decode cX5_findCrew 6 = .ok (.aload_n 0, 1) := by decide +kernel
theorem dX5_findCrew_7 : decode cX5_findCrew 7 = .ok (.getfield 9, 3) := by decide +kernel
theorem dX5_findCrew_10 : decode cX5_findCrew 10 = .ok (.iconst 4, 1) := by decide +kernel
theorem dX5_findCrew_11 : decode cX5_findCrew 11 = .ok (.iaload, 1) := by decide +kernel
theorem dX5_findCrew_12 : decode cX5_findCrew 12 = .ok (.ishl, 1) := by decide +kernel
theorem dX5_findCrew_13 : decode cX5_findCrew 13 = .ok (.if_icmp .ge 58, 3) := by decide +kernel
theorem dX5_findCrew_16 : decode cX5_findCrew 16 = .ok (.iload_n 2, 1) := by decide +kernel
theorem dX5_findCrew_17 : decode cX5_findCrew 17 = .ok (.ifCond .lt 22, 3) := by decide +kernel
theorem dX5_findCrew_20 : decode cX5_findCrew 20 = .ok (.aload_n 0, 1) := by decide +kernel
theorem dX5_findCrew_21 : decode cX5_findCrew 21 = .ok (.iload_n 3, 1) := by decide +kernel
theorem dX5_findCrew_22 : decode cX5_findCrew 22 = .ok (.invokevirtual 120, 3) := by decide +kernel
theorem dX5_findCrew_25 : decode cX5_findCrew 25 = .ok (.invokestatic 218, 3) := by decide +kernel
theorem dX5_findCrew_28 : decode cX5_findCrew 28 = .ok (.aload_n 0, 1) := by decide +kernel
theorem dX5_findCrew_29 : decode cX5_findCrew 29 = .ok (.iload_n 2, 1) := by decide +kernel
theorem dX5_findCrew_30 : decode cX5_findCrew 30 = .ok (.invokevirtual 120, 3) := by decide +kernel
theorem dX5_findCrew_33 : decode cX5_findCrew 33 = .ok (.invokestatic 218, 3) := by decide +kernel
theorem dX5_findCrew_36 : decode cX5_findCrew 36 = .ok (.if_icmp .ge 7, 3) := by decide +kernel
theorem dX5_findCrew_39 : decode cX5_findCrew 39 = .ok (.iconst 1, 1) := by decide +kernel
theorem dX5_findCrew_40 : decode cX5_findCrew 40 = .ok (.goto 4, 3) := by decide +kernel
theorem dX5_findCrew_43 : decode cX5_findCrew 43 = .ok (.iconst 0, 1) := by decide +kernel
theorem dX5_findCrew_44 : decode cX5_findCrew 44 = .ok (.istore 4, 2) := by decide +kernel
theorem dX5_findCrew_46 : decode cX5_findCrew 46 = .ok (.iload_n 3, 1) := by decide +kernel
theorem dX5_findCrew_47 : decode cX5_findCrew 47 = .ok (.invokestatic 114, 3) := by decide +kernel
theorem dX5_findCrew_50 : decode cX5_findCrew 50 = .ok (.iload_n 1, 1) := by decide +kernel
theorem dX5_findCrew_51 : decode cX5_findCrew 51 = .ok (.if_icmp .ne 12, 3) := by decide +kernel
theorem dX5_findCrew_54 : decode cX5_findCrew 54 = .ok (.iload 4, 2) := by decide +kernel
theorem dX5_findCrew_56 : decode cX5_findCrew 56 = .ok (.ifCond .eq 7, 3) := by decide +kernel
theorem dX5_findCrew_59 : decode cX5_findCrew 59 = .ok (.iload_n 3, 1) := by decide +kernel
theorem dX5_findCrew_60 : decode cX5_findCrew 60 = .ok (.goto 4, 3) := by decide +kernel
theorem dX5_findCrew_63 : decode cX5_findCrew 63 = .ok (.iload_n 2, 1) := by decide +kernel
theorem dX5_findCrew_64 : decode cX5_findCrew 64 = .ok (.istore_n 2, 1) := by decide +kernel
theorem dX5_findCrew_65 : decode cX5_findCrew 65 = .ok (.iinc 3 1, 3) := by decide +kernel
theorem dX5_findCrew_68 : decode cX5_findCrew 68 = .ok (.goto (-64), 3) := by decide +kernel
theorem dX5_findCrew_71 : decode cX5_findCrew 71 = .ok (.iload_n 2, 1) := by decide +kernel
theorem dX5_findCrew_72 : decode cX5_findCrew 72 = .ok (.ireturn, 1) := by decide +kernel
theorem dX5_crew_0 : decode cX5_crew 0 = .ok (.iload_n 1, 1) := by decide +kernel
theorem dX5_crew_1 : decode cX5_crew 1 = .ok (.iconst 1, 1) := by decide +kernel
theorem dX5_crew_2 : decode cX5_crew 2 = .ok (.bipush 8, 2) := by decide +kernel
theorem dX5_crew_4 : decode cX5_crew 4 = .ok (.invokestatic 71, 3) := by decide +kernel
theorem dX5_crew_7 : decode cX5_crew 7 = .ok (.ifCond .eq 15, 3) := by decide +kernel
theorem dX5_crew_10 : decode cX5_crew 10 = .ok (.aload_n 0, 1) := by decide +kernel
theorem dX5_crew_11 : decode cX5_crew 11 = .ok (.aload_n 0, 1) := by decide +kernel
theorem dX5_crew_12 : decode cX5_crew 12 = .ok (.iload_n 1, 1) := by decide +kernel
theorem dX5_crew_13 : decode cX5_crew 13 = .ok (.invokevirtual 221, 3) := by decide +kernel
theorem dX5_crew_16 : decode cX5_crew 16 = .ok (.invokevirtual 209, 3) := by decide +kernel
theorem dX5_crew_19 : decode cX5_crew 19 = .ok (.goto 9, 3) := by decide +kernel
theorem dX5_crew_22 : decode cX5_crew 22 = .ok (.aload_n 0, 1) := by decide +kernel
theorem dX5_crew_23 : decode cX5_crew 23 = .ok (.ldc 66, 2) := by decide +kernel
theorem dX5_crew_25 : decode cX5_crew 25 = .ok (.invokevirtual 86, 3) := by decide +kernel
theorem dX5_crew_28 : decode cX5_crew 28 = .ok (.ireturn, 1) := by decide +kernel
theorem dX5_mean_0 : decode cX5_mean 0 = .ok (.iload_n 1, 1) := by decide +kernel
theorem dX5_mean_1 : decode cX5_mean 1 = .ok (.iconst 1, 1) := by decide +kernel
theorem dX5_mean_2 : decode cX5_mean 2 = .ok (.bipush 8, 2) := by decide +kernel
theorem dX5_mean_4 : decode cX5_mean 4 = .ok (.invokestatic 71, 3) := by decide +kernel
theorem dX5_mean_7 : decode cX5_mean 7 = .ok (.ifCond .ne 10, 3) := by decide +kernel
theorem dX5_mean_10 : decode cX5_mean 10 = .ok (.aload_n 0, 1) := by decide +kernel
theorem dX5_mean_11 : decode cX5_mean 11 = .ok (.ldc 66, 2) := by decide +kernel
theorem dX5_mean_13 : decode cX5_mean 13 = .ok (.invokevirtual 86, 3) := by decide +kernel
theorem dX5_mean_16 : decode cX5_mean 16 = .ok (.ireturn, 1) := by decide +kernel
theorem dX5_mean_17 : decode cX5_mean 17 = .ok (.aload_n 0, 1) := by decide +kernel
theorem dX5_mean_18 : decode cX5_mean 18 = .ok (.iload_n 1, 1) := by decide +kernel
theorem dX5_mean_19 : decode cX5_mean 19 = .ok (.invokevirtual 221, 3) := by decide +kernel
theorem dX5_mean_22 : decode cX5_mean 22 = .ok (.istore_n 2, 1) := by decide +kernel
theorem dX5_mean_23 : decode cX5_mean 23 = .ok (.iload_n 2, 1) := by decide +kernel
theorem dX5_mean_24 : decode cX5_mean 24 = .ok (.ifCond .ge 12, 3) := by decide +kernel
theorem dX5_mean_27 : decode cX5_mean 27 = .ok (.aload_n 0, 1) := by decide +kernel
theorem dX5_mean_28 : decode cX5_mean 28 = .ok (.ldc 185, 2) := by decide +kernel
theorem dX5_mean_30 : decode cX5_mean 30 = .ok (.invokevirtual 86, 3) := by decide +kernel
theorem dX5_mean_33 : decode cX5_mean 33 = .ok (.goto 8, 3) := by decide +kernel
theorem dX5_mean_36 : decode cX5_mean 36 = .ok (.aload_n 0, 1) := by decide +kernel
theorem dX5_mean_37 : decode cX5_mean 37 = .ok (.iload_n 2, 1) := by decide +kernel
theorem dX5_mean_38 : decode cX5_mean 38 = .ok (.invokevirtual 120, 3) := by decide +kernel
theorem dX5_mean_41 : decode cX5_mean 41 = .ok (.ireturn, 1) := by decide +kernel
theorem dX5_better_0 : decode cX5_better 0 = .ok (.iload_n 1, 1) := by decide +kernel
theorem dX5_better_1 : decode cX5_better 1 = .ok (.invokestatic 138, 3) := by decide +kernel
theorem dX5_better_4 : decode cX5_better 4 = .ok (.ifCond .ne 10, 3) := by decide +kernel
theorem dX5_better_7 : decode cX5_better 7 = .ok (.aload_n 0, 1) := by decide +kernel
theorem dX5_better_8 : decode cX5_better 8 = .ok (.ldc 66, 2) := by decide +kernel
theorem dX5_better_10 : decode cX5_better 10 = .ok (.invokevirtual 86, 3) := by decide +kernel
theorem dX5_better_13 : decode cX5_better 13 = .ok (.ireturn, 1) := by decide +kernel
theorem dX5_better_14 : decode cX5_better 14 = .ok (.aload_n 0, 1) := by decide +kernel
theorem dX5_better_15 : decode cX5_better 15 = .ok (.iload_n 1, 1) := by decide +kernel
theorem dX5_better_16 : decode cX5_better 16 = .ok (.iconst 2, 1) := by decide +kernel
theorem dX5_better_17 : decode cX5_better 17 = .ok (.invokevirtual 117, 3) := by decide +kernel
theorem dX5_better_20 : decode cX5_better 20 = .ok (.istore_n 2, 1) := by decide +kernel
theorem dX5_better_21 : decode cX5_better 21 = .ok (.iconst (-1), 1) := by decide +kernel
theorem dX5_better_22 : decode cX5_better 22 = .ok (.istore_n 3, 1) := by decide +kernel
theorem dX5_better_23 : decode cX5_better 23 = .ok (.ldc 184, 2) := by decide +kernel
theorem dX5_better_25 : decode cX5_better 25 = .ok (.istore 4, 2) := by decide +kernel
theorem dX5_better_27 : decode cX5_better 27 = .ok (.iconst 0, 1) := by decide +kernel
theorem dX5_better_28 : decode cX5_better 28 = .ok (.istore 5, 2) := by decide +kernel
theorem dX5_better_30 : decode cX5_better 30 = .ok (.iload 5, 2) := by decide +kernel
theorem dX5_better_32 : decode cX5_better 32 = .ok (.aload_n 0, 1) := by decide +kernel
theorem dX5_better_33 : decode cX5_better 33 = .ok (.getfield 9, 3) := by decide +kernel
theorem dX5_better_36 : decode cX5_better 36 = .ok (.iconst 4, 1) := by decide +kernel
theorem dX5_better_37 : decode cX5_better 37 = .ok (.iaload, 1) := by decide +kernel
theorem dX5_better_38 : decode cX5_better 38 = .ok (.if_icmp .ge 47, 3) := by decide +kernel
theorem dX5_better_41 : decode cX5_better 41 = .ok (.aload_n 0, 1) := by decide +kernel
theorem dX5_better_42 : decode cX5_better 42 = .ok (.iload_n 2, 1) := by decide +kernel
theorem dX5_better_43 : decode cX5_better 43 = .ok (.iconst 1, 1) := by decide +kernel
theorem dX5_better_44 : decode cX5_better 44 = .ok (.iload 5, 2) := by decide +kernel
theorem dX5_better_46 : decode cX5_better 46 = .ok (.ishl, 1) := by decide +kernel
theorem dX5_better_47 : decode cX5_better 47 = .ok (.ixor, 1) := by decide +kernel
theorem dX5_better_48 : decode cX5_better 48 = .ok (.invokevirtual 120, 3) := by decide +kernel
theorem dX5_better_51 : decode cX5_better 51 = .ok (.invokestatic 218, 3) := by decide +kernel
theorem dX5_better_54 : decode cX5_better 54 = .ok (.istore 6, 2) := by decide +kernel
theorem dX5_better_56 : decode cX5_better 56 = .ok (.iload 6, 2) := by decide +kernel
theorem dX5_better_58 : decode cX5_better 58 = .ok (.iload 4, 2) := by decide +kernel
theorem dX5_better_60 : decode cX5_better 60 = .ok (.if_icmp .ge 8, 3) := by decide +kernel
theorem dX5_better_63 : decode cX5_better 63 = .ok (.iload 5, 2) := by decide +kernel
theorem dX5_better_65 : decode cX5_better 65 = .ok (.goto 4, 3) := by decide +kernel
theorem dX5_better_68 : decode cX5_better 68 = .ok (.iload_n 3, 1) := by decide +kernel
theorem dX5_better_69 : decode cX5_better 69 = .ok (.istore_n 3, 1) := by decide +kernel
theorem dX5_better_70 : decode cX5_better 70 = .ok (.iload 4, 2) := by decide +kernel
theorem dX5_better_72 : decode cX5_better 72 = .ok (.iload 6, 2) := by decide +kernel
theorem dX5_better_74 : decode cX5_better 74 = .ok (.invokestatic 151, 3) := by decide +kernel
theorem dX5_better_77 : decode cX5_better 77 = .ok (.istore 4, 2) := by decide +kernel
theorem dX5_better_79 : decode cX5_better 79 = .ok (.iinc 5 1, 3) := by decide +kernel
theorem dX5_better_82 : decode cX5_better 82 = .ok (.goto (-52), 3) := by decide +kernel
theorem dX5_better_85 : decode cX5_better 85 = .ok (.aload_n 0, 1) := by decide +kernel
theorem dX5_better_86 : decode cX5_better 86 = .ok (.iload_n 3, 1) := by decide +kernel
theorem dX5_better_87 : decode cX5_better 87 = .ok (.invokevirtual 209, 3) := by decide +kernel
theorem dX5_better_90 : decode cX5_better 90 = .ok (.ireturn, 1) := by decide +kernel
theorem dX5_apart_0 : decode cX5_apart 0 = .ok (.iload_n 0, 1) := by decide +kernel
theorem dX5_apart_1 : decode cX5_apart 1 = .ok (.bipush 10, 2) := by decide +kernel
theorem dX5_apart_3 : decode cX5_apart 3 = .ok (.idiv, 1) := by decide +kernel
theorem dX5_apart_4 : decode cX5_apart 4 = .ok (.iload_n 1, 1) := by decide +kernel
theorem dX5_apart_5 : decode cX5_apart 5 = .ok (.bipush 10, 2) := by decide +kernel
theorem dX5_apart_7 : decode cX5_apart 7 = .ok (.idiv, 1) := by decide +kernel
theorem dX5_apart_8 : decode cX5_apart 8 = .ok (.isub, 1) := by decide +kernel
theorem dX5_apart_9 : decode cX5_apart 9 = .ok (.invokestatic 218, 3) := by decide +kernel
theorem dX5_apart_12 : decode cX5_apart 12 = .ok (.iload_n 0, 1) := by decide +kernel
theorem dX5_apart_13 : decode cX5_apart 13 = .ok (.bipush 10, 2) := by decide +kernel
theorem dX5_apart_15 : decode cX5_apart 15 = .ok (.irem, 1) := by decide +kernel
theorem dX5_apart_16 : decode cX5_apart 16 = .ok (.iload_n 1, 1) := by decide +kernel
theorem dX5_apart_17 : decode cX5_apart 17 = .ok (.bipush 10, 2) := by decide +kernel
theorem dX5_apart_19 : decode cX5_apart 19 = .ok (.irem, 1) := by decide +kernel
theorem dX5_apart_20 : decode cX5_apart 20 = .ok (.isub, 1) := by decide +kernel
theorem dX5_apart_21 : decode cX5_apart 21 = .ok (.invokestatic 218, 3) := by decide +kernel
theorem dX5_apart_24 : decode cX5_apart 24 = .ok (.iadd, 1) := by decide +kernel
theorem dX5_apart_25 : decode cX5_apart 25 = .ok (.ireturn, 1) := by decide +kernel
theorem dX5_spy_0 : decode cX5_spy 0 = .ok (.iload_n 1, 1) := by decide +kernel
theorem dX5_spy_1 : decode cX5_spy 1 = .ok (.invokestatic 138, 3) := by decide +kernel
theorem dX5_spy_4 : decode cX5_spy 4 = .ok (.ifCond .eq 21, 3) := by decide +kernel
theorem dX5_spy_7 : decode cX5_spy 7 = .ok (.aload_n 0, 1) := by decide +kernel
theorem dX5_spy_8 : decode cX5_spy 8 = .ok (.iload_n 2, 1) := by decide +kernel
theorem dX5_spy_9 : decode cX5_spy 9 = .ok (.invokevirtual 105, 3) := by decide +kernel
theorem dX5_spy_12 : decode cX5_spy 12 = .ok (.ifCond .eq 13, 3) := by decide +kernel
theorem dX5_spy_15 : decode cX5_spy 15 = .ok (.iload_n 3, 1) := by decide +kernel
theorem dX5_spy_16 : decode cX5_spy 16 = .ok (.iconst 0, 1) := by decide +kernel
theorem dX5_spy_17 : decode cX5_spy 17 = .ok (.bipush 40, 2) := by decide +kernel
theorem dX5_spy_19 : decode cX5_spy 19 = .ok (.invokestatic 71, 3) := by decide +kernel
theorem dX5_spy_22 : decode cX5_spy 22 = .ok (.ifCond .ne 10, 3) := by decide +kernel
theorem dX5_spy_25 : decode cX5_spy 25 = .ok (.aload_n 0, 1) := by decide +kernel
theorem dX5_spy_26 : decode cX5_spy 26 = .ok (.ldc 66, 2) := by decide +kernel
theorem dX5_spy_28 : decode cX5_spy 28 = .ok (.invokevirtual 86, 3) := by decide +kernel
theorem dX5_spy_31 : decode cX5_spy 31 = .ok (.ireturn, 1) := by decide +kernel
theorem dX5_spy_32 : decode cX5_spy 32 = .ok (.aload_n 0, 1) := by decide +kernel
theorem dX5_spy_33 : decode cX5_spy 33 = .ok (.iload_n 1, 1) := by decide +kernel
theorem dX5_spy_34 : decode cX5_spy 34 = .ok (.iconst 2, 1) := by decide +kernel
theorem dX5_spy_35 : decode cX5_spy 35 = .ok (.invokevirtual 117, 3) := by decide +kernel
theorem dX5_spy_38 : decode cX5_spy 38 = .ok (.iload_n 2, 1) := by decide +kernel
theorem dX5_spy_39 : decode cX5_spy 39 = .ok (.invokestatic 101, 3) := by decide +kernel
theorem dX5_spy_42 : decode cX5_spy 42 = .ok (.ifCond .ne 10, 3) := by decide +kernel
theorem dX5_spy_45 : decode cX5_spy 45 = .ok (.aload_n 0, 1) := by decide +kernel
theorem dX5_spy_46 : decode cX5_spy 46 = .ok (.ldc 160, 2) := by decide +kernel
theorem dX5_spy_48 : decode cX5_spy 48 = .ok (.invokevirtual 86, 3) := by decide +kernel
theorem dX5_spy_51 : decode cX5_spy 51 = .ok (.ireturn, 1) := by decide +kernel
theorem dX5_spy_52 : decode cX5_spy 52 = .ok (.aload_n 0, 1) := by decide +kernel
theorem dX5_spy_53 : decode cX5_spy 53 = .ok (.iload_n 1, 1) := by decide +kernel
theorem dX5_spy_54 : decode cX5_spy 54 = .ok (.iload_n 3, 1) := by decide +kernel
theorem dX5_spy_55 : decode cX5_spy 55 = .ok (.invokevirtual 181, 3) := by decide +kernel
theorem dX5_spy_58 : decode cX5_spy 58 = .ok (.istore 4, 2) := by decide +kernel
theorem dX5_spy_60 : decode cX5_spy 60 = .ok (.aload_n 0, 1) := by decide +kernel
theorem dX5_spy_61 : decode cX5_spy 61 = .ok (.iload_n 2, 1) := by decide +kernel
theorem dX5_spy_62 : decode cX5_spy 62 = .ok (.iconst 0, 1) := by decide +kernel
theorem dX5_spy_63 : decode cX5_spy 63 = .ok (.invokevirtual 98, 3) := by decide +kernel
theorem dX5_spy_66 : decode cX5_spy 66 = .ok (.istore 5, 2) := by decide +kernel
theorem dX5_spy_68 : decode cX5_spy 68 = .ok (.iconst (-1), 1) := by decide +kernel
theorem dX5_spy_69 : decode cX5_spy 69 = .ok (.istore 6, 2) := by decide +kernel
theorem dX5_spy_71 : decode cX5_spy 71 = .ok (.iconst (-1), 1) := by decide +kernel
theorem dX5_spy_72 : decode cX5_spy 72 = .ok (.istore 7, 2) := by decide +kernel
theorem dX5_spy_74 : decode cX5_spy 74 = .ok (.iconst 0, 1) := by decide +kernel
theorem dX5_spy_75 : decode cX5_spy 75 = .ok (.istore 8, 2) := by decide +kernel
theorem dX5_spy_77 : decode cX5_spy 77 = .ok (.iload 8, 2) := by decide +kernel
theorem dX5_spy_79 : decode cX5_spy 79 = .ok (.bipush 6, 2) := by decide +kernel
theorem dX5_spy_81 : decode cX5_spy 81 = .ok (.if_icmp .gt 59, 3) := by decide +kernel
theorem dX5_spy_84 : decode cX5_spy 84 = .ok (.aload_n 0, 1) := by decide +kernel
theorem dX5_spy_85 : decode cX5_spy 85 = .ok (.getfield 9, 3) := by decide +kernel
theorem dX5_spy_88 : decode cX5_spy 88 = .ok (.iload_n 2, 1) := by decide +kernel
theorem dX5_spy_89 : decode cX5_spy 89 = .ok (.iconst 0, 1) := by decide +kernel
theorem dX5_spy_90 : decode cX5_spy 90 = .ok (.invokestatic 75, 3) := by decide +kernel
theorem dX5_spy_93 : decode cX5_spy 93 = .ok (.iload 8, 2) := by decide +kernel
theorem dX5_spy_95 : decode cX5_spy 95 = .ok (.iastore, 1) := by decide +kernel
theorem dX5_spy_96 : decode cX5_spy 96 = .ok (.iload 4, 2) := by decide +kernel
theorem dX5_spy_98 : decode cX5_spy 98 = .ok (.aload_n 0, 1) := by decide +kernel
theorem dX5_spy_99 : decode cX5_spy 99 = .ok (.iload_n 1, 1) := by decide +kernel
theorem dX5_spy_100 : decode cX5_spy 100 = .ok (.iload_n 3, 1) := by decide +kernel
theorem dX5_spy_101 : decode cX5_spy 101 = .ok (.invokevirtual 181, 3) := by decide +kernel
theorem dX5_spy_104 : decode cX5_spy 104 = .ok (.invokestatic 224, 3) := by decide +kernel
theorem dX5_spy_107 : decode cX5_spy 107 = .ok (.istore 9, 2) := by decide +kernel
theorem dX5_spy_109 : decode cX5_spy 109 = .ok (.iload 9, 2) := by decide +kernel
theorem dX5_spy_111 : decode cX5_spy 111 = .ok (.iload 7, 2) := by decide +kernel
theorem dX5_spy_113 : decode cX5_spy 113 = .ok (.if_icmp .le 8, 3) := by decide +kernel
theorem dX5_spy_116 : decode cX5_spy 116 = .ok (.iload 8, 2) := by decide +kernel
theorem dX5_spy_118 : decode cX5_spy 118 = .ok (.goto 5, 3) := by decide +kernel
theorem dX5_spy_121 : decode cX5_spy 121 = .ok (.iload 6, 2) := by decide +kernel
theorem dX5_spy_123 : decode cX5_spy 123 = .ok (.istore 6, 2) := by decide +kernel
theorem dX5_spy_125 : decode cX5_spy 125 = .ok (.iload 7, 2) := by decide +kernel
theorem dX5_spy_127 : decode cX5_spy 127 = .ok (.iload 9, 2) := by decide +kernel
theorem dX5_spy_129 : decode cX5_spy 129 = .ok (.invokestatic 169, 3) := by decide +kernel
theorem dX5_spy_132 : decode cX5_spy 132 = .ok (.istore 7, 2) := by decide +kernel
theorem dX5_spy_134 : decode cX5_spy 134 = .ok (.iinc 8 1, 3) := by decide +kernel
theorem dX5_spy_137 : decode cX5_spy 137 = .ok (.goto (-60), 3) := by decide +kernel
theorem dX5_spy_140 : decode cX5_spy 140 = .ok (.aload_n 0, 1) := by decide +kernel
theorem dX5_spy_141 : decode cX5_spy 141 = .ok (.getfield 9, 3) := by decide +kernel
theorem dX5_spy_144 : decode cX5_spy 144 = .ok (.iload_n 2, 1) := by decide +kernel
theorem dX5_spy_145 : decode cX5_spy 145 = .ok (.iconst 0, 1) := by decide +kernel
theorem dX5_spy_146 : decode cX5_spy 146 = .ok (.invokestatic 75, 3) := by decide +kernel
theorem dX5_spy_149 : decode cX5_spy 149 = .ok (.iload 5, 2) := by decide +kernel
theorem dX5_spy_151 : decode cX5_spy 151 = .ok (.iastore, 1) := by decide +kernel
theorem dX5_spy_152 : decode cX5_spy 152 = .ok (.iload 6, 2) := by decide +kernel
theorem dX5_spy_154 : decode cX5_spy 154 = .ok (.ireturn, 1) := by decide +kernel
theorem dX5_usedIn_0 : decode cX5_usedIn 0 = .ok (.aload_n 0, 1) := by decide +kernel
theorem dX5_usedIn_1 : decode cX5_usedIn 1 = .ok (.getfield 9, 3) := by decide +kernel
theorem dX5_usedIn_4 : decode cX5_usedIn 4 = .ok (.aload_n 0, 1) := by decide +kernel
theorem dX5_usedIn_5 : decode cX5_usedIn 5 = .ok (.getfield 16, 3) := by decide +kernel
theorem dX5_usedIn_8 : decode cX5_usedIn 8 = .ok (.invokestatic 67, 3) := by decide +kernel
theorem dX5_usedIn_11 : decode cX5_usedIn 11 = .ok (.iconst 0, 1) := by decide +kernel
theorem dX5_usedIn_12 : decode cX5_usedIn 12 = .ok (.istore_n 3, 1) := by decide +kernel
theorem dX5_usedIn_13 : decode cX5_usedIn 13 = .ok (.iconst 0, 1) := by decide +kernel
theorem dX5_usedIn_14 : decode cX5_usedIn 14 = .ok (.istore 4, 2) := by decide +kernel
theorem dX5_usedIn_16 : decode cX5_usedIn 16 = .ok (.iload 4, 2) := by decide +kernel
theorem dX5_usedIn_18 : decode cX5_usedIn 18 = .ok (.iload_n 1, 1) := by decide +kernel
theorem dX5_usedIn_19 : decode cX5_usedIn 19 = .ok (.if_icmp .ge 59, 3) := by decide +kernel
theorem dX5_usedIn_22 : decode cX5_usedIn 22 = .ok (.iconst 0, 1) := by decide +kernel
theorem dX5_usedIn_23 : decode cX5_usedIn 23 = .ok (.istore 5, 2) := by decide +kernel
theorem dX5_usedIn_25 : decode cX5_usedIn 25 = .ok (.iload 5, 2) := by decide +kernel
theorem dX5_usedIn_27 : decode cX5_usedIn 27 = .ok (.aload_n 0, 1) := by decide +kernel
theorem dX5_usedIn_28 : decode cX5_usedIn 28 = .ok (.getfield 9, 3) := by decide +kernel
theorem dX5_usedIn_31 : decode cX5_usedIn 31 = .ok (.iconst 4, 1) := by decide +kernel
theorem dX5_usedIn_32 : decode cX5_usedIn 32 = .ok (.iaload, 1) := by decide +kernel
theorem dX5_usedIn_33 : decode cX5_usedIn 33 = .ok (.if_icmp .ge 35, 3) := by decide +kernel
theorem dX5_usedIn_36 : decode cX5_usedIn 36 = .ok (.aload_n 0, 1) := by decide +kernel
theorem dX5_usedIn_37 : decode cX5_usedIn 37 = .ok (.iload 5, 2) := by decide +kernel
theorem dX5_usedIn_39 : decode cX5_usedIn 39 = .ok (.iconst 1, 1) := by decide +kernel
theorem dX5_usedIn_40 : decode cX5_usedIn 40 = .ok (.invokevirtual 98, 3) := by decide +kernel
theorem dX5_usedIn_43 : decode cX5_usedIn 43 = .ok (.iload_n 2, 1) := by decide +kernel
theorem dX5_usedIn_44 : decode cX5_usedIn 44 = .ok (.if_icmp .lt 18, 3) := by decide +kernel
theorem dX5_usedIn_47 : decode cX5_usedIn 47 = .ok (.aload_n 0, 1) := by decide +kernel
theorem dX5_usedIn_48 : decode cX5_usedIn 48 = .ok (.getfield 9, 3) := by decide +kernel
theorem dX5_usedIn_51 : decode cX5_usedIn 51 = .ok (.iload 5, 2) := by decide +kernel
theorem dX5_usedIn_53 : decode cX5_usedIn 53 = .ok (.iconst 1, 1) := by decide +kernel
theorem dX5_usedIn_54 : decode cX5_usedIn 54 = .ok (.invokestatic 75, 3) := by decide +kernel
theorem dX5_usedIn_57 : decode cX5_usedIn 57 = .ok (.iconst 0, 1) := by decide +kernel
theorem dX5_usedIn_58 : decode cX5_usedIn 58 = .ok (.iastore, 1) := by decide +kernel
theorem dX5_usedIn_59 : decode cX5_usedIn 59 = .ok (.iinc 3 1, 3) := by decide +kernel
theorem dX5_usedIn_62 : decode cX5_usedIn 62 = .ok (.iinc 5 1, 3) := by decide +kernel
theorem dX5_usedIn_65 : decode cX5_usedIn 65 = .ok (.goto (-40), 3) := by decide +kernel
theorem dX5_usedIn_68 : decode cX5_usedIn 68 = .ok (.aload_n 0, 1) := by decide +kernel
theorem dX5_usedIn_69 : decode cX5_usedIn 69 = .ok (.invokevirtual 156, 3) := by decide +kernel
theorem dX5_usedIn_72 : decode cX5_usedIn 72 = .ok (.iinc 4 1, 3) := by decide +kernel
theorem dX5_usedIn_75 : decode cX5_usedIn 75 = .ok (.goto (-59), 3) := by decide +kernel
theorem dX5_usedIn_78 : decode cX5_usedIn 78 = .ok (.aload_n 0, 1) := by decide +kernel
theorem dX5_usedIn_79 : decode cX5_usedIn 79 = .ok (.iload_n 3, 1) := by decide +kernel
theorem dX5_usedIn_80 : decode cX5_usedIn 80 = .ok (.invokevirtual 178, 3) := by decide +kernel
theorem dX5_usedIn_83 : decode cX5_usedIn 83 = .ok (.ireturn, 1) := by decide +kernel
theorem dX5_uses_0 : decode cX5_uses 0 = .ok (.iload_n 1, 1) := by decide +kernel
theorem dX5_uses_1 : decode cX5_uses 1 = .ok (.iconst 0, 1) := by decide +kernel
theorem dX5_uses_2 : decode cX5_uses 2 = .ok (.sipush 200, 3) := by decide +kernel
theorem dX5_uses_5 : decode cX5_uses 5 = .ok (.invokestatic 71, 3) := by decide +kernel
theorem dX5_uses_8 : decode cX5_uses 8 = .ok (.ifCond .eq 22, 3) := by decide +kernel
theorem dX5_uses_11 : decode cX5_uses 11 = .ok (.iload_n 2, 1) := by decide +kernel
theorem dX5_uses_12 : decode cX5_uses 12 = .ok (.iconst 1, 1) := by decide +kernel
theorem dX5_uses_13 : decode cX5_uses 13 = .ok (.bipush 99, 2) := by decide +kernel
theorem dX5_uses_15 : decode cX5_uses 15 = .ok (.invokestatic 71, 3) := by decide +kernel
theorem dX5_uses_18 : decode cX5_uses 18 = .ok (.ifCond .eq 12, 3) := by decide +kernel
theorem dX5_uses_21 : decode cX5_uses 21 = .ok (.aload_n 0, 1) := by decide +kernel
theorem dX5_uses_22 : decode cX5_uses 22 = .ok (.iload_n 1, 1) := by decide +kernel
theorem dX5_uses_23 : decode cX5_uses 23 = .ok (.iload_n 2, 1) := by decide +kernel
theorem dX5_uses_24 : decode cX5_uses 24 = .ok (.invokevirtual 227, 3) := by decide +kernel
theorem dX5_uses_27 : decode cX5_uses 27 = .ok (.goto 9, 3) := by decide +kernel
theorem dX5_uses_30 : decode cX5_uses 30 = .ok (.aload_n 0, 1) := by decide +kernel
theorem dX5_uses_31 : decode cX5_uses 31 = .ok (.ldc 66, 2) := by decide +kernel
theorem dX5_uses_33 : decode cX5_uses 33 = .ok (.invokevirtual 86, 3) := by decide +kernel
theorem dX5_uses_36 : decode cX5_uses 36 = .ok (.ireturn, 1) := by decide +kernel
theorem dX5_hunger_0 : decode cX5_hunger 0 = .ok (.iload_n 1, 1) := by decide +kernel
theorem dX5_hunger_1 : decode cX5_hunger 1 = .ok (.iconst 0, 1) := by decide +kernel
theorem dX5_hunger_2 : decode cX5_hunger 2 = .ok (.sipush 200, 3) := by decide +kernel
theorem dX5_hunger_5 : decode cX5_hunger 5 = .ok (.invokestatic 71, 3) := by decide +kernel
theorem dX5_hunger_8 : decode cX5_hunger 8 = .ok (.ifCond .ne 10, 3) := by decide +kernel
theorem dX5_hunger_11 : decode cX5_hunger 11 = .ok (.aload_n 0, 1) := by decide +kernel
theorem dX5_hunger_12 : decode cX5_hunger 12 = .ok (.ldc 66, 2) := by decide +kernel
theorem dX5_hunger_14 : decode cX5_hunger 14 = .ok (.invokevirtual 86, 3) := by decide +kernel
theorem dX5_hunger_17 : decode cX5_hunger 17 = .ok (.ireturn, 1) := by decide +kernel
theorem dX5_hunger_18 : decode cX5_hunger 18 = .ok (.iconst 1, 1) := by decide +kernel
theorem dX5_hunger_19 : decode cX5_hunger 19 = .ok (.istore_n 2, 1) := by decide +kernel
theorem dX5_hunger_20 : decode cX5_hunger 20 = .ok (.iload_n 2, 1) := by decide +kernel
theorem dX5_hunger_21 : decode cX5_hunger 21 = .ok (.bipush 99, 2) := by decide +kernel
theorem dX5_hunger_23 : decode cX5_hunger 23 = .ok (.if_icmp .gt 24, 3) := by decide +kernel
theorem dX5_hunger_26 : decode cX5_hunger 26 = .ok (.aload_n 0, 1) := by decide +kernel
theorem dX5_hunger_27 : decode cX5_hunger 27 = .ok (.iload_n 1, 1) := by decide +kernel
theorem dX5_hunger_28 : decode cX5_hunger 28 = .ok (.iload_n 2, 1) := by decide +kernel
theorem dX5_hunger_29 : decode cX5_hunger 29 = .ok (.invokevirtual 227, 3) := by decide +kernel
theorem dX5_hunger_32 : decode cX5_hunger 32 = .ok (.aload_n 0, 1) := by decide +kernel
theorem dX5_hunger_33 : decode cX5_hunger 33 = .ok (.getfield 9, 3) := by decide +kernel
theorem dX5_hunger_36 : decode cX5_hunger 36 = .ok (.iconst 1, 1) := by decide +kernel
theorem dX5_hunger_37 : decode cX5_hunger 37 = .ok (.iaload, 1) := by decide +kernel
theorem dX5_hunger_38 : decode cX5_hunger 38 = .ok (.if_icmp .le 9, 3) := by decide +kernel
theorem dX5_hunger_41 : decode cX5_hunger 41 = .ok (.iinc 2 1, 3) := by decide +kernel
theorem dX5_hunger_44 : decode cX5_hunger 44 = .ok (.goto (-24), 3) := by decide +kernel
theorem dX5_hunger_47 : decode cX5_hunger 47 = .ok (.iload_n 2, 1) := by decide +kernel
theorem dX5_hunger_48 : decode cX5_hunger 48 = .ok (.bipush 99, 2) := by decide +kernel
theorem dX5_hunger_50 : decode cX5_hunger 50 = .ok (.if_icmp .le 12, 3) := by decide +kernel
theorem dX5_hunger_53 : decode cX5_hunger 53 = .ok (.aload_n 0, 1) := by decide +kernel
theorem dX5_hunger_54 : decode cX5_hunger 54 = .ok (.ldc 185, 2) := by decide +kernel
theorem dX5_hunger_56 : decode cX5_hunger 56 = .ok (.invokevirtual 86, 3) := by decide +kernel
theorem dX5_hunger_59 : decode cX5_hunger 59 = .ok (.goto 4, 3) := by decide +kernel
theorem dX5_hunger_62 : decode cX5_hunger 62 = .ok (.iload_n 2, 1) := by decide +kernel
theorem dX5_hunger_63 : decode cX5_hunger 63 = .ok (.ireturn, 1) := by decide +kernel
theorem dX5_satSo_0 : decode cX5_satSo 0 = .ok (.aload_n 0, 1) := by decide +kernel
theorem dX5_satSo_1 : decode cX5_satSo 1 = .ok (.getfield 9, 3) := by decide +kernel
theorem dX5_satSo_4 : decode cX5_satSo 4 = .ok (.aload_n 0, 1) := by decide +kernel
theorem dX5_satSo_5 : decode cX5_satSo 5 = .ok (.getfield 16, 3) := by decide +kernel
theorem dX5_satSo_8 : decode cX5_satSo 8 = .ok (.invokestatic 67, 3) := by decide +kernel
theorem dX5_satSo_11 : decode cX5_satSo 11 = .ok (.iconst 1, 1) := by decide +kernel
theorem dX5_satSo_12 : decode cX5_satSo 12 = .ok (.istore_n 3, 1) := by decide +kernel
theorem dX5_satSo_13 : decode cX5_satSo 13 = .ok (.iconst 0, 1) := by decide +kernel
theorem dX5_satSo_14 : decode cX5_satSo 14 = .ok (.istore 4, 2) := by decide +kernel
theorem dX5_satSo_16 : decode cX5_satSo 16 = .ok (.iload 4, 2) := by decide +kernel
theorem dX5_satSo_18 : decode cX5_satSo 18 = .ok (.aload_n 0, 1) := by decide +kernel
theorem dX5_satSo_19 : decode cX5_satSo 19 = .ok (.getfield 57, 3) := by decide +kernel
theorem dX5_satSo_22 : decode cX5_satSo 22 = .ok (.iload_n 1, 1) := by decide +kernel
theorem dX5_satSo_23 : decode cX5_satSo 23 = .ok (.iaload, 1) := by decide +kernel
theorem dX5_satSo_24 : decode cX5_satSo 24 = .ok (.if_icmp .ge 43, 3) := by decide +kernel
theorem dX5_satSo_27 : decode cX5_satSo 27 = .ok (.iload_n 3, 1) := by decide +kernel
theorem dX5_satSo_28 : decode cX5_satSo 28 = .ok (.ifCond .eq 39, 3) := by decide +kernel
theorem dX5_satSo_31 : decode cX5_satSo 31 = .ok (.aload_n 0, 1) := by decide +kernel
theorem dX5_satSo_32 : decode cX5_satSo 32 = .ok (.iload_n 2, 1) := by decide +kernel
theorem dX5_satSo_33 : decode cX5_satSo 33 = .ok (.invokevirtual 108, 3) := by decide +kernel
theorem dX5_satSo_36 : decode cX5_satSo 36 = .ok (.aload_n 0, 1) := by decide +kernel
theorem dX5_satSo_37 : decode cX5_satSo 37 = .ok (.getfield 60, 3) := by decide +kernel
theorem dX5_satSo_40 : decode cX5_satSo 40 = .ok (.bipush 40, 2) := by decide +kernel
theorem dX5_satSo_42 : decode cX5_satSo 42 = .ok (.iload_n 1, 1) := by decide +kernel
theorem dX5_satSo_43 : decode cX5_satSo 43 = .ok (.imul, 1) := by decide +kernel
theorem dX5_satSo_44 : decode cX5_satSo 44 = .ok (.iload 4, 2) := by decide +kernel
theorem dX5_satSo_46 : decode cX5_satSo 46 = .ok (.iadd, 1) := by decide +kernel
theorem dX5_satSo_47 : decode cX5_satSo 47 = .ok (.iaload, 1) := by decide +kernel
theorem dX5_satSo_48 : decode cX5_satSo 48 = .ok (.if_icmp .ne 7, 3) := by decide +kernel
theorem dX5_satSo_51 : decode cX5_satSo 51 = .ok (.iconst 1, 1) := by decide +kernel
theorem dX5_satSo_52 : decode cX5_satSo 52 = .ok (.goto 4, 3) := by decide +kernel
theorem dX5_satSo_55 : decode cX5_satSo 55 = .ok (.iconst 0, 1) := by decide +kernel
theorem dX5_satSo_56 : decode cX5_satSo 56 = .ok (.istore_n 3, 1) := by decide +kernel
theorem dX5_satSo_57 : decode cX5_satSo 57 = .ok (.aload_n 0, 1) := by decide +kernel
theorem dX5_satSo_58 : decode cX5_satSo 58 = .ok (.invokevirtual 156, 3) := by decide +kernel
theorem dX5_satSo_61 : decode cX5_satSo 61 = .ok (.iinc 4 1, 3) := by decide +kernel
theorem dX5_satSo_64 : decode cX5_satSo 64 = .ok (.goto (-48), 3) := by decide +kernel
theorem dX5_satSo_67 : decode cX5_satSo 67 = .ok (.aload_n 0, 1) := by decide +kernel
theorem dX5_satSo_68 : decode cX5_satSo 68 = .ok (.getfield 16, 3) := by decide +kernel
theorem dX5_satSo_71 : decode cX5_satSo 71 = .ok (.aload_n 0, 1) := by decide +kernel
theorem dX5_satSo_72 : decode cX5_satSo 72 = .ok (.getfield 9, 3) := by decide +kernel
theorem dX5_satSo_75 : decode cX5_satSo 75 = .ok (.invokestatic 67, 3) := by decide +kernel
theorem dX5_satSo_78 : decode cX5_satSo 78 = .ok (.iload_n 3, 1) := by decide +kernel
theorem dX5_satSo_79 : decode cX5_satSo 79 = .ok (.ireturn, 1) := by decide +kernel
theorem dX5_fitting_0 : decode cX5_fitting 0 = .ok (.aload_n 0, 1) := by decide +kernel
theorem dX5_fitting_1 : decode cX5_fitting 1 = .ok (.iload_n 2, 1) := by decide +kernel
theorem dX5_fitting_2 : decode cX5_fitting 2 = .ok (.iload_n 3, 1) := by decide +kernel
theorem dX5_fitting_3 : decode cX5_fitting 3 = .ok (.invokevirtual 98, 3) := by decide +kernel
theorem dX5_fitting_6 : decode cX5_fitting 6 = .ok (.istore 6, 2) := by decide +kernel
theorem dX5_fitting_8 : decode cX5_fitting 8 = .ok (.lconst 0, 1) := by decide +kernel
theorem dX5_fitting_9 : decode cX5_fitting 9 = .ok (.lstore 7, 2) := by decide +kernel
theorem dX5_fitting_11 : decode cX5_fitting 11 = .ok (.iload 4, 2) := by decide +kernel
theorem dX5_fitting_13 : decode cX5_fitting 13 = .ok (.istore 9, 2) := by decide +kernel
theorem dX5_fitting_15 : decode cX5_fitting 15 = .ok (.iload 9, 2) := by decide +kernel
theorem dX5_fitting_17 : decode cX5_fitting 17 = .ok (.iload 5, 2) := by decide +kernel
theorem dX5_fitting_19 : decode cX5_fitting 19 = .ok (.if_icmp .gt 46, 3) := by decide +kernel
theorem dX5_fitting_22 : decode cX5_fitting 22 = .ok (.aload_n 0, 1) := by decide +kernel
theorem dX5_fitting_23 : decode cX5_fitting 23 = .ok (.getfield 9, 3) := by decide +kernel
theorem dX5_fitting_26 : decode cX5_fitting 26 = .ok (.iload_n 2, 1) := by decide +kernel
theorem dX5_fitting_27 : decode cX5_fitting 27 = .ok (.iload_n 3, 1) := by decide +kernel
theorem dX5_fitting_28 : decode cX5_fitting 28 = .ok (.invokestatic 75, 3) := by decide +kernel
theorem dX5_fitting_31 : decode cX5_fitting 31 = .ok (.iload 9, 2) := by decide +kernel
theorem dX5_fitting_33 : decode cX5_fitting 33 = .ok (.iastore, 1) := by decide +kernel
theorem dX5_fitting_34 : decode cX5_fitting 34 = .ok (.lload 7, 2) := by decide +kernel
theorem dX5_fitting_36 : decode cX5_fitting 36 = .ok (.aload_n 0, 1) := by decide +kernel
theorem dX5_fitting_37 : decode cX5_fitting 37 = .ok (.iload_n 1, 1) := by decide +kernel
theorem dX5_fitting_38 : decode cX5_fitting 38 = .ok (.iload_n 2, 1) := by decide +kernel
theorem dX5_fitting_39 : decode cX5_fitting 39 = .ok (.invokevirtual 230, 3) := by decide +kernel
theorem dX5_fitting_42 : decode cX5_fitting 42 = .ok (.ifCond .eq 13, 3) := by decide +kernel
theorem dX5_fitting_45 : decode cX5_fitting 45 = .ok (.lconst 1, 1) := by decide +kernel
theorem dX5_fitting_46 : decode cX5_fitting 46 = .ok (.iload 9, 2) := by decide +kernel
theorem dX5_fitting_48 : decode cX5_fitting 48 = .ok (.iload 4, 2) := by decide +kernel
theorem dX5_fitting_50 : decode cX5_fitting 50 = .ok (.isub, 1) := by decide +kernel
theorem dX5_fitting_51 : decode cX5_fitting 51 = .ok (.lshl, 1) := by decide +kernel
theorem dX5_fitting_52 : decode cX5_fitting 52 = .ok (.goto 4, 3) := by decide +kernel
end
section
theorem dX5_fitting_55 : decode cX5_fitting 55 = .ok (.lconst 0, 1) := by decide +kernel
theorem dX5_fitting_56 : decode cX5_fitting 56 = .ok (.lor, 1) := by decide +kernel
theorem dX5_fitting_57 : decode cX5_fitting 57 = .ok (.lstore 7, 2) := by decide +kernel
theorem dX5_fitting_59 : decode cX5_fitting 59 = .ok (.iinc 9 1, 3) := by decide +kernel
theorem dX5_fitting_62 : decode cX5_fitting 62 = .ok (.goto (-47), 3) := by decide +kernel
theorem dX5_fitting_65 : decode cX5_fitting 65 = .ok (.aload_n 0, 1) := by decide +kernel
theorem dX5_fitting_66 : decode cX5_fitting 66 = .ok (.getfield 9, 3) := by decide +kernel
theorem dX5_fitting_69 : decode cX5_fitting 69 = .ok (.iload_n 2, 1) := by decide +kernel
theorem dX5_fitting_70 : decode cX5_fitting 70 = .ok (.iload_n 3, 1) := by decide +kernel
theorem dX5_fitting_71 : decode cX5_fitting 71 = .ok (.invokestatic 75, 3) := by decide +kernel
theorem dX5_fitting_74 : decode cX5_fitting 74 = .ok (.iload 6, 2) := by decide +kernel
theorem dX5_fitting_76 : decode cX5_fitting 76 = .ok (.iastore, 1) := by decide +kernel
theorem dX5_fitting_77 : decode cX5_fitting 77 = .ok (.lload 7, 2) := by decide +kernel
theorem dX5_fitting_79 : decode cX5_fitting 79 = .ok (.lreturn, 1) := by decide +kernel
theorem dX5_lacks_0 : decode cX5_lacks 0 = .ok (.iload_n 1, 1) := by decide +kernel
theorem dX5_lacks_1 : decode cX5_lacks 1 = .ok (.invokestatic 233, 3) := by decide +kernel
theorem dX5_lacks_4 : decode cX5_lacks 4 = .ok (.ifCond .ne 8, 3) := by decide +kernel
theorem dX5_lacks_7 : decode cX5_lacks 7 = .ok (.ldc 66, 2) := by decide +kernel
theorem dX5_lacks_9 : decode cX5_lacks 9 = .ok (.goto 18, 3) := by decide +kernel
theorem dX5_lacks_12 : decode cX5_lacks 12 = .ok (.aload_n 0, 1) := by decide +kernel
theorem dX5_lacks_13 : decode cX5_lacks 13 = .ok (.getfield 54, 3) := by decide +kernel
theorem dX5_lacks_16 : decode cX5_lacks 16 = .ok (.iload_n 1, 1) := by decide +kernel
theorem dX5_lacks_17 : decode cX5_lacks 17 = .ok (.iaload, 1) := by decide +kernel
theorem dX5_lacks_18 : decode cX5_lacks 18 = .ok (.ifCond .ne 8, 3) := by decide +kernel
theorem dX5_lacks_21 : decode cX5_lacks 21 = .ok (.ldc 236, 2) := by decide +kernel
theorem dX5_lacks_23 : decode cX5_lacks 23 = .ok (.goto 4, 3) := by decide +kernel
theorem dX5_lacks_26 : decode cX5_lacks 26 = .ok (.iconst 0, 1) := by decide +kernel
theorem dX5_lacks_27 : decode cX5_lacks 27 = .ok (.ireturn, 1) := by decide +kernel
theorem dX5_kinds_0 : decode cX5_kinds 0 = .ok (.aload_n 0, 1) := by decide +kernel
theorem dX5_kinds_1 : decode cX5_kinds 1 = .ok (.iload_n 1, 1) := by decide +kernel
theorem dX5_kinds_2 : decode cX5_kinds 2 = .ok (.invokevirtual 237, 3) := by decide +kernel
theorem dX5_kinds_5 : decode cX5_kinds 5 = .ok (.ifCond .eq 13, 3) := by decide +kernel
theorem dX5_kinds_8 : decode cX5_kinds 8 = .ok (.aload_n 0, 1) := by decide +kernel
theorem dX5_kinds_9 : decode cX5_kinds 9 = .ok (.aload_n 0, 1) := by decide +kernel
theorem dX5_kinds_10 : decode cX5_kinds 10 = .ok (.iload_n 1, 1) := by decide +kernel
theorem dX5_kinds_11 : decode cX5_kinds 11 = .ok (.invokevirtual 237, 3) := by decide +kernel
theorem dX5_kinds_14 : decode cX5_kinds 14 = .ok (.invokevirtual 86, 3) := by decide +kernel
theorem dX5_kinds_17 : decode cX5_kinds 17 = .ok (.ireturn, 1) := by decide +kernel
theorem dX5_kinds_18 : decode cX5_kinds 18 = .ok (.aload_n 0, 1) := by decide +kernel
theorem dX5_kinds_19 : decode cX5_kinds 19 = .ok (.iload_n 2, 1) := by decide +kernel
theorem dX5_kinds_20 : decode cX5_kinds 20 = .ok (.invokevirtual 105, 3) := by decide +kernel
theorem dX5_kinds_23 : decode cX5_kinds 23 = .ok (.ifCond .eq 17, 3) := by decide +kernel
theorem dX5_kinds_26 : decode cX5_kinds 26 = .ok (.aload_n 0, 1) := by decide +kernel
theorem dX5_kinds_27 : decode cX5_kinds 27 = .ok (.iload_n 1, 1) := by decide +kernel
theorem dX5_kinds_28 : decode cX5_kinds 28 = .ok (.iload_n 2, 1) := by decide +kernel
theorem dX5_kinds_29 : decode cX5_kinds 29 = .ok (.iconst 0, 1) := by decide +kernel
theorem dX5_kinds_30 : decode cX5_kinds 30 = .ok (.iconst 0, 1) := by decide +kernel
theorem dX5_kinds_31 : decode cX5_kinds 31 = .ok (.bipush 6, 2) := by decide +kernel
theorem dX5_kinds_33 : decode cX5_kinds 33 = .ok (.invokevirtual 240, 3) := by decide +kernel
theorem dX5_kinds_36 : decode cX5_kinds 36 = .ok (.l2i, 1) := by decide +kernel
theorem dX5_kinds_37 : decode cX5_kinds 37 = .ok (.goto 9, 3) := by decide +kernel
theorem dX5_kinds_40 : decode cX5_kinds 40 = .ok (.aload_n 0, 1) := by decide +kernel
theorem dX5_kinds_41 : decode cX5_kinds 41 = .ok (.ldc 66, 2) := by decide +kernel
theorem dX5_kinds_43 : decode cX5_kinds 43 = .ok (.invokevirtual 86, 3) := by decide +kernel
theorem dX5_kinds_46 : decode cX5_kinds 46 = .ok (.ireturn, 1) := by decide +kernel
theorem dX5_habits_0 : decode cX5_habits 0 = .ok (.aload_n 0, 1) := by decide +kernel
theorem dX5_habits_1 : decode cX5_habits 1 = .ok (.iload_n 1, 1) := by decide +kernel
theorem dX5_habits_2 : decode cX5_habits 2 = .ok (.invokevirtual 237, 3) := by decide +kernel
theorem dX5_habits_5 : decode cX5_habits 5 = .ok (.ifCond .eq 13, 3) := by decide +kernel
theorem dX5_habits_8 : decode cX5_habits 8 = .ok (.aload_n 0, 1) := by decide +kernel
theorem dX5_habits_9 : decode cX5_habits 9 = .ok (.aload_n 0, 1) := by decide +kernel
theorem dX5_habits_10 : decode cX5_habits 10 = .ok (.iload_n 1, 1) := by decide +kernel
theorem dX5_habits_11 : decode cX5_habits 11 = .ok (.invokevirtual 237, 3) := by decide +kernel
theorem dX5_habits_14 : decode cX5_habits 14 = .ok (.invokevirtual 86, 3) := by decide +kernel
theorem dX5_habits_17 : decode cX5_habits 17 = .ok (.ireturn, 1) := by decide +kernel
theorem dX5_habits_18 : decode cX5_habits 18 = .ok (.aload_n 0, 1) := by decide +kernel
theorem dX5_habits_19 : decode cX5_habits 19 = .ok (.iload_n 2, 1) := by decide +kernel
theorem dX5_habits_20 : decode cX5_habits 20 = .ok (.invokevirtual 105, 3) := by decide +kernel
theorem dX5_habits_23 : decode cX5_habits 23 = .ok (.ifCond .ne 10, 3) := by decide +kernel
theorem dX5_habits_26 : decode cX5_habits 26 = .ok (.aload_n 0, 1) := by decide +kernel
theorem dX5_habits_27 : decode cX5_habits 27 = .ok (.ldc 66, 2) := by decide +kernel
theorem dX5_habits_29 : decode cX5_habits 29 = .ok (.invokevirtual 86, 3) := by decide +kernel
theorem dX5_habits_32 : decode cX5_habits 32 = .ok (.ireturn, 1) := by decide +kernel
theorem dX5_habits_33 : decode cX5_habits 33 = .ok (.iconst 0, 1) := by decide +kernel
theorem dX5_habits_34 : decode cX5_habits 34 = .ok (.istore_n 3, 1) := by decide +kernel
theorem dX5_habits_35 : decode cX5_habits 35 = .ok (.aload_n 0, 1) := by decide +kernel
theorem dX5_habits_36 : decode cX5_habits 36 = .ok (.iload_n 1, 1) := by decide +kernel
theorem dX5_habits_37 : decode cX5_habits 37 = .ok (.iload_n 2, 1) := by decide +kernel
theorem dX5_habits_38 : decode cX5_habits 38 = .ok (.iconst 2, 1) := by decide +kernel
theorem dX5_habits_39 : decode cX5_habits 39 = .ok (.bipush (-15), 2) := by decide +kernel
theorem dX5_habits_41 : decode cX5_habits 41 = .ok (.bipush 15, 2) := by decide +kernel
theorem dX5_habits_43 : decode cX5_habits 43 = .ok (.invokevirtual 240, 3) := by decide +kernel
theorem dX5_habits_46 : decode cX5_habits 46 = .ok (.lstore 4, 2) := by decide +kernel
theorem dX5_habits_48 : decode cX5_habits 48 = .ok (.lload 4, 2) := by decide +kernel
theorem dX5_habits_50 : decode cX5_habits 50 = .ok (.lconst 0, 1) := by decide +kernel
theorem dX5_habits_51 : decode cX5_habits 51 = .ok (.lcmp, 1) := by decide +kernel
theorem dX5_habits_52 : decode cX5_habits 52 = .ok (.ifCond .eq 20, 3) := by decide +kernel
theorem dX5_habits_55 : decode cX5_habits 55 = .ok (.iload_n 3, 1) := by decide +kernel
theorem dX5_habits_56 : decode cX5_habits 56 = .ok (.lload 4, 2) := by decide +kernel
theorem dX5_habits_58 : decode cX5_habits 58 = .ok (.lconst 1, 1) := by decide +kernel
theorem dX5_habits_59 : decode cX5_habits 59 = .ok (.land, 1) := by decide +kernel
theorem dX5_habits_60 : decode cX5_habits 60 = .ok (.l2i, 1) := by decide +kernel
theorem dX5_habits_61 : decode cX5_habits 61 = .ok (.iadd, 1) := by decide +kernel
theorem dX5_habits_62 : decode cX5_habits 62 = .ok (.istore_n 3, 1) := by decide +kernel
theorem dX5_habits_63 : decode cX5_habits 63 = .ok (.lload 4, 2) := by decide +kernel
theorem dX5_habits_65 : decode cX5_habits 65 = .ok (.iconst 1, 1) := by decide +kernel
theorem dX5_habits_66 : decode cX5_habits 66 = .ok (.lshr, 1) := by decide +kernel
theorem dX5_habits_67 : decode cX5_habits 67 = .ok (.lstore 4, 2) := by decide +kernel
theorem dX5_habits_69 : decode cX5_habits 69 = .ok (.goto (-21), 3) := by decide +kernel
theorem dX5_habits_72 : decode cX5_habits 72 = .ok (.iload_n 3, 1) := by decide +kernel
theorem dX5_habits_73 : decode cX5_habits 73 = .ok (.ireturn, 1) := by decide +kernel
theorem dX5_wentSo_0 : decode cX5_wentSo 0 = .ok (.aload_n 0, 1) := by decide +kernel
theorem dX5_wentSo_1 : decode cX5_wentSo 1 = .ok (.getfield 9, 3) := by decide +kernel
theorem dX5_wentSo_4 : decode cX5_wentSo 4 = .ok (.aload_n 0, 1) := by decide +kernel
theorem dX5_wentSo_5 : decode cX5_wentSo 5 = .ok (.getfield 16, 3) := by decide +kernel
theorem dX5_wentSo_8 : decode cX5_wentSo 8 = .ok (.invokestatic 67, 3) := by decide +kernel
theorem dX5_wentSo_11 : decode cX5_wentSo 11 = .ok (.iconst 1, 1) := by decide +kernel
theorem dX5_wentSo_12 : decode cX5_wentSo 12 = .ok (.istore_n 3, 1) := by decide +kernel
theorem dX5_wentSo_13 : decode cX5_wentSo 13 = .ok (.iconst 0, 1) := by decide +kernel
theorem dX5_wentSo_14 : decode cX5_wentSo 14 = .ok (.istore 4, 2) := by decide +kernel
theorem dX5_wentSo_16 : decode cX5_wentSo 16 = .ok (.iload 4, 2) := by decide +kernel
theorem dX5_wentSo_18 : decode cX5_wentSo 18 = .ok (.aload_n 0, 1) := by decide +kernel
theorem dX5_wentSo_19 : decode cX5_wentSo 19 = .ok (.getfield 57, 3) := by decide +kernel
theorem dX5_wentSo_22 : decode cX5_wentSo 22 = .ok (.iload_n 1, 1) := by decide +kernel
theorem dX5_wentSo_23 : decode cX5_wentSo 23 = .ok (.iaload, 1) := by decide +kernel
theorem dX5_wentSo_24 : decode cX5_wentSo 24 = .ok (.if_icmp .ge 57, 3) := by decide +kernel
theorem dX5_wentSo_27 : decode cX5_wentSo 27 = .ok (.iload_n 3, 1) := by decide +kernel
theorem dX5_wentSo_28 : decode cX5_wentSo 28 = .ok (.ifCond .eq 53, 3) := by decide +kernel
theorem dX5_wentSo_31 : decode cX5_wentSo 31 = .ok (.aload_n 0, 1) := by decide +kernel
theorem dX5_wentSo_32 : decode cX5_wentSo 32 = .ok (.getfield 60, 3) := by decide +kernel
theorem dX5_wentSo_35 : decode cX5_wentSo 35 = .ok (.bipush 40, 2) := by decide +kernel
theorem dX5_wentSo_37 : decode cX5_wentSo 37 = .ok (.iload_n 1, 1) := by decide +kernel
theorem dX5_wentSo_38 : decode cX5_wentSo 38 = .ok (.imul, 1) := by decide +kernel
theorem dX5_wentSo_39 : decode cX5_wentSo 39 = .ok (.iload 4, 2) := by decide +kernel
theorem dX5_wentSo_41 : decode cX5_wentSo 41 = .ok (.iadd, 1) := by decide +kernel
theorem dX5_wentSo_42 : decode cX5_wentSo 42 = .ok (.iaload, 1) := by decide +kernel
theorem dX5_wentSo_43 : decode cX5_wentSo 43 = .ok (.istore 5, 2) := by decide +kernel
theorem dX5_wentSo_45 : decode cX5_wentSo 45 = .ok (.iload 5, 2) := by decide +kernel
theorem dX5_wentSo_47 : decode cX5_wentSo 47 = .ok (.iconst (-1), 1) := by decide +kernel
theorem dX5_wentSo_48 : decode cX5_wentSo 48 = .ok (.if_icmp .eq 17, 3) := by decide +kernel
theorem dX5_wentSo_51 : decode cX5_wentSo 51 = .ok (.iload 5, 2) := by decide +kernel
theorem dX5_wentSo_53 : decode cX5_wentSo 53 = .ok (.aload_n 0, 1) := by decide +kernel
theorem dX5_wentSo_54 : decode cX5_wentSo 54 = .ok (.iload_n 2, 1) := by decide +kernel
theorem dX5_wentSo_55 : decode cX5_wentSo 55 = .ok (.iconst 0, 1) := by decide +kernel
theorem dX5_wentSo_56 : decode cX5_wentSo 56 = .ok (.invokevirtual 117, 3) := by decide +kernel
theorem dX5_wentSo_59 : decode cX5_wentSo 59 = .ok (.bipush 10, 2) := by decide +kernel
theorem dX5_wentSo_61 : decode cX5_wentSo 61 = .ok (.idiv, 1) := by decide +kernel
theorem dX5_wentSo_62 : decode cX5_wentSo 62 = .ok (.if_icmp .ne 7, 3) := by decide +kernel
theorem dX5_wentSo_65 : decode cX5_wentSo 65 = .ok (.iconst 1, 1) := by decide +kernel
theorem dX5_wentSo_66 : decode cX5_wentSo 66 = .ok (.goto 4, 3) := by decide +kernel
theorem dX5_wentSo_69 : decode cX5_wentSo 69 = .ok (.iconst 0, 1) := by decide +kernel
theorem dX5_wentSo_70 : decode cX5_wentSo 70 = .ok (.istore_n 3, 1) := by decide +kernel
theorem dX5_wentSo_71 : decode cX5_wentSo 71 = .ok (.aload_n 0, 1) := by decide +kernel
theorem dX5_wentSo_72 : decode cX5_wentSo 72 = .ok (.invokevirtual 156, 3) := by decide +kernel
theorem dX5_wentSo_75 : decode cX5_wentSo 75 = .ok (.iinc 4 1, 3) := by decide +kernel
theorem dX5_wentSo_78 : decode cX5_wentSo 78 = .ok (.goto (-62), 3) := by decide +kernel
theorem dX5_wentSo_81 : decode cX5_wentSo 81 = .ok (.aload_n 0, 1) := by decide +kernel
theorem dX5_wentSo_82 : decode cX5_wentSo 82 = .ok (.getfield 16, 3) := by decide +kernel
theorem dX5_wentSo_85 : decode cX5_wentSo 85 = .ok (.aload_n 0, 1) := by decide +kernel
theorem dX5_wentSo_86 : decode cX5_wentSo 86 = .ok (.getfield 9, 3) := by decide +kernel
theorem dX5_wentSo_89 : decode cX5_wentSo 89 = .ok (.invokestatic 67, 3) := by decide +kernel
theorem dX5_wentSo_92 : decode cX5_wentSo 92 = .ok (.iload_n 3, 1) := by decide +kernel
theorem dX5_wentSo_93 : decode cX5_wentSo 93 = .ok (.ireturn, 1) := by decide +kernel
theorem dX5_findBegun_0 : decode cX5_findBegun 0 = .ok (.aload_n 0, 1) := by decide +kernel
theorem dX5_findBegun_1 : decode cX5_findBegun 1 = .ok (.iload_n 2, 1) := by decide +kernel
theorem dX5_findBegun_2 : decode cX5_findBegun 2 = .ok (.iconst 0, 1) := by decide +kernel
theorem dX5_findBegun_3 : decode cX5_findBegun 3 = .ok (.invokevirtual 117, 3) := by decide +kernel
theorem dX5_findBegun_6 : decode cX5_findBegun 6 = .ok (.istore_n 3, 1) := by decide +kernel
theorem dX5_findBegun_7 : decode cX5_findBegun 7 = .ok (.iconst (-1), 1) := by decide +kernel
theorem dX5_findBegun_8 : decode cX5_findBegun 8 = .ok (.istore 4, 2) := by decide +kernel
theorem dX5_findBegun_10 : decode cX5_findBegun 10 = .ok (.aload_n 0, 1) := by decide +kernel
theorem dX5_findBegun_11 : decode cX5_findBegun 11 = .ok (.iconst 0, 1) := by decide +kernel
theorem dX5_findBegun_12 : decode cX5_findBegun 12 = .ok (.putfield 244, 3) := by decide +kernel
theorem dX5_findBegun_15 : decode cX5_findBegun 15 = .ok (.iconst 0, 1) := by decide +kernel
theorem dX5_findBegun_16 : decode cX5_findBegun 16 = .ok (.istore 5, 2) := by decide +kernel
theorem dX5_findBegun_18 : decode cX5_findBegun 18 = .ok (.iload 5, 2) := by decide +kernel
theorem dX5_findBegun_20 : decode cX5_findBegun 20 = .ok (.bipush 100, 2) := by decide +kernel
theorem dX5_findBegun_22 : decode cX5_findBegun 22 = .ok (.if_icmp .ge 67, 3) := by decide +kernel
theorem dX5_findBegun_25 : decode cX5_findBegun 25 = .ok (.aload_n 0, 1) := by decide +kernel
theorem dX5_findBegun_26 : decode cX5_findBegun 26 = .ok (.getfield 9, 3) := by decide +kernel
theorem dX5_findBegun_29 : decode cX5_findBegun 29 = .ok (.iload_n 2, 1) := by decide +kernel
theorem dX5_findBegun_30 : decode cX5_findBegun 30 = .ok (.iconst 0, 1) := by decide +kernel
theorem dX5_findBegun_31 : decode cX5_findBegun 31 = .ok (.invokestatic 79, 3) := by decide +kernel
theorem dX5_findBegun_34 : decode cX5_findBegun 34 = .ok (.iload 5, 2) := by decide +kernel
theorem dX5_findBegun_36 : decode cX5_findBegun 36 = .ok (.iastore, 1) := by decide +kernel
theorem dX5_findBegun_37 : decode cX5_findBegun 37 = .ok (.aload_n 0, 1) := by decide +kernel
theorem dX5_findBegun_38 : decode cX5_findBegun 38 = .ok (.iload_n 1, 1) := by decide +kernel
theorem dX5_findBegun_39 : decode cX5_findBegun 39 = .ok (.iload_n 2, 1) := by decide +kernel
theorem dX5_findBegun_40 : decode cX5_findBegun 40 = .ok (.invokevirtual 247, 3) := by decide +kernel
theorem dX5_findBegun_43 : decode cX5_findBegun 43 = .ok (.istore 6, 2) := by decide +kernel
theorem dX5_findBegun_45 : decode cX5_findBegun 45 = .ok (.iload 6, 2) := by decide +kernel
theorem dX5_findBegun_47 : decode cX5_findBegun 47 = .ok (.ifCond .eq 13, 3) := by decide +kernel
theorem dX5_findBegun_50 : decode cX5_findBegun 50 = .ok (.iload 4, 2) := by decide +kernel
theorem dX5_findBegun_52 : decode cX5_findBegun 52 = .ok (.ifCond .ge 8, 3) := by decide +kernel
theorem dX5_findBegun_55 : decode cX5_findBegun 55 = .ok (.iload 5, 2) := by decide +kernel
theorem dX5_findBegun_57 : decode cX5_findBegun 57 = .ok (.goto 5, 3) := by decide +kernel
theorem dX5_findBegun_60 : decode cX5_findBegun 60 = .ok (.iload 4, 2) := by decide +kernel
theorem dX5_findBegun_62 : decode cX5_findBegun 62 = .ok (.istore 4, 2) := by decide +kernel
theorem dX5_findBegun_64 : decode cX5_findBegun 64 = .ok (.aload_n 0, 1) := by decide +kernel
theorem dX5_findBegun_65 : decode cX5_findBegun 65 = .ok (.dup, 1) := by decide +kernel
theorem dX5_findBegun_66 : decode cX5_findBegun 66 = .ok (.getfield 244, 3) := by decide +kernel
theorem dX5_findBegun_69 : decode cX5_findBegun 69 = .ok (.iload 6, 2) := by decide +kernel
theorem dX5_findBegun_71 : decode cX5_findBegun 71 = .ok (.ifCond .eq 7, 3) := by decide +kernel
theorem dX5_findBegun_74 : decode cX5_findBegun 74 = .ok (.iconst 1, 1) := by decide +kernel
theorem dX5_findBegun_75 : decode cX5_findBegun 75 = .ok (.goto 4, 3) := by decide +kernel
theorem dX5_findBegun_78 : decode cX5_findBegun 78 = .ok (.iconst 0, 1) := by decide +kernel
theorem dX5_findBegun_79 : decode cX5_findBegun 79 = .ok (.iadd, 1) := by decide +kernel
theorem dX5_findBegun_80 : decode cX5_findBegun 80 = .ok (.putfield 244, 3) := by decide +kernel
theorem dX5_findBegun_83 : decode cX5_findBegun 83 = .ok (.iinc 5 1, 3) := by decide +kernel
theorem dX5_findBegun_86 : decode cX5_findBegun 86 = .ok (.goto (-68), 3) := by decide +kernel
theorem dX5_findBegun_89 : decode cX5_findBegun 89 = .ok (.aload_n 0, 1) := by decide +kernel
theorem dX5_findBegun_90 : decode cX5_findBegun 90 = .ok (.getfield 9, 3) := by decide +kernel
theorem dX5_findBegun_93 : decode cX5_findBegun 93 = .ok (.iload_n 2, 1) := by decide +kernel
theorem dX5_findBegun_94 : decode cX5_findBegun 94 = .ok (.iconst 0, 1) := by decide +kernel
theorem dX5_findBegun_95 : decode cX5_findBegun 95 = .ok (.invokestatic 79, 3) := by decide +kernel
theorem dX5_findBegun_98 : decode cX5_findBegun 98 = .ok (.iload_n 3, 1) := by decide +kernel
theorem dX5_findBegun_99 : decode cX5_findBegun 99 = .ok (.iastore, 1) := by decide +kernel
theorem dX5_findBegun_100 : decode cX5_findBegun 100 = .ok (.iload 4, 2) := by decide +kernel
theorem dX5_findBegun_102 : decode cX5_findBegun 102 = .ok (.ireturn, 1) := by decide +kernel
theorem dX5_begun_0 : decode cX5_begun 0 = .ok (.aload_n 0, 1) := by decide +kernel
theorem dX5_begun_1 : decode cX5_begun 1 = .ok (.iload_n 1, 1) := by decide +kernel
theorem dX5_begun_2 : decode cX5_begun 2 = .ok (.invokevirtual 237, 3) := by decide +kernel
theorem dX5_begun_5 : decode cX5_begun 5 = .ok (.ifCond .eq 13, 3) := by decide +kernel
theorem dX5_begun_8 : decode cX5_begun 8 = .ok (.aload_n 0, 1) := by decide +kernel
theorem dX5_begun_9 : decode cX5_begun 9 = .ok (.aload_n 0, 1) := by decide +kernel
theorem dX5_begun_10 : decode cX5_begun 10 = .ok (.iload_n 1, 1) := by decide +kernel
theorem dX5_begun_11 : decode cX5_begun 11 = .ok (.invokevirtual 237, 3) := by decide +kernel
theorem dX5_begun_14 : decode cX5_begun 14 = .ok (.invokevirtual 86, 3) := by decide +kernel
theorem dX5_begun_17 : decode cX5_begun 17 = .ok (.ireturn, 1) := by decide +kernel
theorem dX5_begun_18 : decode cX5_begun 18 = .ok (.iload_n 2, 1) := by decide +kernel
theorem dX5_begun_19 : decode cX5_begun 19 = .ok (.invokestatic 138, 3) := by decide +kernel
theorem dX5_begun_22 : decode cX5_begun 22 = .ok (.ifCond .ne 10, 3) := by decide +kernel
theorem dX5_begun_25 : decode cX5_begun 25 = .ok (.aload_n 0, 1) := by decide +kernel
theorem dX5_begun_26 : decode cX5_begun 26 = .ok (.ldc 66, 2) := by decide +kernel
theorem dX5_begun_28 : decode cX5_begun 28 = .ok (.invokevirtual 86, 3) := by decide +kernel
theorem dX5_begun_31 : decode cX5_begun 31 = .ok (.ireturn, 1) := by decide +kernel
theorem dX5_begun_32 : decode cX5_begun 32 = .ok (.aload_n 0, 1) := by decide +kernel
theorem dX5_begun_33 : decode cX5_begun 33 = .ok (.iload_n 1, 1) := by decide +kernel
theorem dX5_begun_34 : decode cX5_begun 34 = .ok (.iload_n 2, 1) := by decide +kernel
theorem dX5_begun_35 : decode cX5_begun 35 = .ok (.invokevirtual 250, 3) := by decide +kernel
theorem dX5_begun_38 : decode cX5_begun 38 = .ok (.ifCond .ge 7, 3) := by decide +kernel
theorem dX5_begun_41 : decode cX5_begun 41 = .ok (.iconst 0, 1) := by decide +kernel
theorem dX5_begun_42 : decode cX5_begun 42 = .ok (.goto 7, 3) := by decide +kernel
theorem dX5_begun_45 : decode cX5_begun 45 = .ok (.aload_n 0, 1) := by decide +kernel
theorem dX5_begun_46 : decode cX5_begun 46 = .ok (.getfield 244, 3) := by decide +kernel
theorem dX5_begun_49 : decode cX5_begun 49 = .ok (.ireturn, 1) := by decide +kernel
theorem dX5_from_0 : decode cX5_from 0 = .ok (.aload_n 0, 1) := by decide +kernel
theorem dX5_from_1 : decode cX5_from 1 = .ok (.iload_n 1, 1) := by decide +kernel
theorem dX5_from_2 : decode cX5_from 2 = .ok (.invokevirtual 237, 3) := by decide +kernel
theorem dX5_from_5 : decode cX5_from 5 = .ok (.ifCond .eq 13, 3) := by decide +kernel
theorem dX5_from_8 : decode cX5_from 8 = .ok (.aload_n 0, 1) := by decide +kernel
theorem dX5_from_9 : decode cX5_from 9 = .ok (.aload_n 0, 1) := by decide +kernel
theorem dX5_from_10 : decode cX5_from 10 = .ok (.iload_n 1, 1) := by decide +kernel
theorem dX5_from_11 : decode cX5_from 11 = .ok (.invokevirtual 237, 3) := by decide +kernel
theorem dX5_from_14 : decode cX5_from 14 = .ok (.invokevirtual 86, 3) := by decide +kernel
theorem dX5_from_17 : decode cX5_from 17 = .ok (.ireturn, 1) := by decide +kernel
theorem dX5_from_18 : decode cX5_from 18 = .ok (.iload_n 2, 1) := by decide +kernel
theorem dX5_from_19 : decode cX5_from 19 = .ok (.invokestatic 138, 3) := by decide +kernel
theorem dX5_from_22 : decode cX5_from 22 = .ok (.ifCond .eq 16, 3) := by decide +kernel
theorem dX5_from_25 : decode cX5_from 25 = .ok (.aload_n 0, 1) := by decide +kernel
theorem dX5_from_26 : decode cX5_from 26 = .ok (.aload_n 0, 1) := by decide +kernel
theorem dX5_from_27 : decode cX5_from 27 = .ok (.iload_n 1, 1) := by decide +kernel
theorem dX5_from_28 : decode cX5_from 28 = .ok (.iload_n 2, 1) := by decide +kernel
theorem dX5_from_29 : decode cX5_from 29 = .ok (.invokevirtual 250, 3) := by decide +kernel
theorem dX5_from_32 : decode cX5_from 32 = .ok (.invokevirtual 209, 3) := by decide +kernel
theorem dX5_from_35 : decode cX5_from 35 = .ok (.goto 9, 3) := by decide +kernel
theorem dX5_from_38 : decode cX5_from 38 = .ok (.aload_n 0, 1) := by decide +kernel
theorem dX5_from_39 : decode cX5_from 39 = .ok (.ldc 66, 2) := by decide +kernel
theorem dX5_from_41 : decode cX5_from 41 = .ok (.invokevirtual 86, 3) := by decide +kernel
theorem dX5_from_44 : decode cX5_from 44 = .ok (.ireturn, 1) := by decide +kernel
theorem dX5_drawn_0 : decode cX5_drawn 0 = .ok (.aload_n 0, 1) := by decide +kernel
theorem dX5_drawn_1 : decode cX5_drawn 1 = .ok (.getfield 9, 3) := by decide +kernel
theorem dX5_drawn_4 : decode cX5_drawn 4 = .ok (.iconst 5, 1) := by decide +kernel
theorem dX5_drawn_5 : decode cX5_drawn 5 = .ok (.aload_n 0, 1) := by decide +kernel
theorem dX5_drawn_6 : decode cX5_drawn 6 = .ok (.getfield 9, 3) := by decide +kernel
theorem dX5_drawn_9 : decode cX5_drawn 9 = .ok (.iconst 5, 1) := by decide +kernel
theorem dX5_drawn_10 : decode cX5_drawn 10 = .ok (.iaload, 1) := by decide +kernel
theorem dX5_drawn_11 : decode cX5_drawn 11 = .ok (.ldc 253, 2) := by decide +kernel
theorem dX5_drawn_13 : decode cX5_drawn 13 = .ok (.imul, 1) := by decide +kernel
theorem dX5_drawn_14 : decode cX5_drawn 14 = .ok (.sipush 12345, 3) := by decide +kernel
theorem dX5_drawn_17 : decode cX5_drawn 17 = .ok (.iadd, 1) := by decide +kernel
theorem dX5_drawn_18 : decode cX5_drawn 18 = .ok (.iastore, 1) := by decide +kernel
theorem dX5_drawn_19 : decode cX5_drawn 19 = .ok (.aload_n 0, 1) := by decide +kernel
theorem dX5_drawn_20 : decode cX5_drawn 20 = .ok (.getfield 9, 3) := by decide +kernel
theorem dX5_drawn_23 : decode cX5_drawn 23 = .ok (.iconst 5, 1) := by decide +kernel
theorem dX5_drawn_24 : decode cX5_drawn 24 = .ok (.iaload, 1) := by decide +kernel
theorem dX5_drawn_25 : decode cX5_drawn 25 = .ok (.bipush 8, 2) := by decide +kernel
theorem dX5_drawn_27 : decode cX5_drawn 27 = .ok (.iushr, 1) := by decide +kernel
theorem dX5_drawn_28 : decode cX5_drawn 28 = .ok (.iload_n 1, 1) := by decide +kernel
theorem dX5_drawn_29 : decode cX5_drawn 29 = .ok (.irem, 1) := by decide +kernel
theorem dX5_drawn_30 : decode cX5_drawn 30 = .ok (.ireturn, 1) := by decide +kernel
theorem dX5_storms_0 : decode cX5_storms 0 = .ok (.iload_n 1, 1) := by decide +kernel
theorem dX5_storms_1 : decode cX5_storms 1 = .ok (.iconst 1, 1) := by decide +kernel
theorem dX5_storms_2 : decode cX5_storms 2 = .ok (.bipush 20, 2) := by decide +kernel
theorem dX5_storms_4 : decode cX5_storms 4 = .ok (.invokestatic 71, 3) := by decide +kernel
theorem dX5_storms_7 : decode cX5_storms 7 = .ok (.ifCond .ne 10, 3) := by decide +kernel
theorem dX5_storms_10 : decode cX5_storms 10 = .ok (.aload_n 0, 1) := by decide +kernel
theorem dX5_storms_11 : decode cX5_storms 11 = .ok (.ldc 66, 2) := by decide +kernel
theorem dX5_storms_13 : decode cX5_storms 13 = .ok (.invokevirtual 86, 3) := by decide +kernel
theorem dX5_storms_16 : decode cX5_storms 16 = .ok (.ireturn, 1) := by decide +kernel
theorem dX5_storms_17 : decode cX5_storms 17 = .ok (.aload_n 0, 1) := by decide +kernel
theorem dX5_storms_18 : decode cX5_storms 18 = .ok (.getfield 9, 3) := by decide +kernel
theorem dX5_storms_21 : decode cX5_storms 21 = .ok (.iconst 0, 1) := by decide +kernel
theorem dX5_storms_22 : decode cX5_storms 22 = .ok (.iaload, 1) := by decide +kernel
theorem dX5_storms_23 : decode cX5_storms 23 = .ok (.iload_n 1, 1) := by decide +kernel
theorem dX5_storms_24 : decode cX5_storms 24 = .ok (.iadd, 1) := by decide +kernel
theorem dX5_storms_25 : decode cX5_storms 25 = .ok (.ldc 159, 2) := by decide +kernel
theorem dX5_storms_27 : decode cX5_storms 27 = .ok (.if_icmp .le 10, 3) := by decide +kernel
theorem dX5_storms_30 : decode cX5_storms 30 = .ok (.aload_n 0, 1) := by decide +kernel
theorem dX5_storms_31 : decode cX5_storms 31 = .ok (.ldc 160, 2) := by decide +kernel
theorem dX5_storms_33 : decode cX5_storms 33 = .ok (.invokevirtual 86, 3) := by decide +kernel
theorem dX5_storms_36 : decode cX5_storms 36 = .ok (.ireturn, 1) := by decide +kernel
theorem dX5_storms_37 : decode cX5_storms 37 = .ok (.iconst 0, 1) := by decide +kernel
theorem dX5_storms_38 : decode cX5_storms 38 = .ok (.istore_n 2, 1) := by decide +kernel
theorem dX5_storms_39 : decode cX5_storms 39 = .ok (.iload_n 2, 1) := by decide +kernel
theorem dX5_storms_40 : decode cX5_storms 40 = .ok (.iload_n 1, 1) := by decide +kernel
theorem dX5_storms_41 : decode cX5_storms 41 = .ok (.if_icmp .ge 60, 3) := by decide +kernel
theorem dX5_storms_44 : decode cX5_storms 44 = .ok (.iconst 0, 1) := by decide +kernel
theorem dX5_storms_45 : decode cX5_storms 45 = .ok (.istore_n 3, 1) := by decide +kernel
theorem dX5_storms_46 : decode cX5_storms 46 = .ok (.iload_n 3, 1) := by decide +kernel
theorem dX5_storms_47 : decode cX5_storms 47 = .ok (.iconst 4, 1) := by decide +kernel
theorem dX5_storms_48 : decode cX5_storms 48 = .ok (.if_icmp .ge 43, 3) := by decide +kernel
theorem dX5_storms_51 : decode cX5_storms 51 = .ok (.aload_n 0, 1) := by decide +kernel
theorem dX5_storms_52 : decode cX5_storms 52 = .ok (.iload_n 3, 1) := by decide +kernel
theorem dX5_storms_53 : decode cX5_storms 53 = .ok (.invokevirtual 132, 3) := by decide +kernel
theorem dX5_storms_56 : decode cX5_storms 56 = .ok (.ifCond .ne 29, 3) := by decide +kernel
theorem dX5_storms_59 : decode cX5_storms 59 = .ok (.aload_n 0, 1) := by decide +kernel
theorem dX5_storms_60 : decode cX5_storms 60 = .ok (.getfield 9, 3) := by decide +kernel
theorem dX5_storms_63 : decode cX5_storms 63 = .ok (.iload_n 3, 1) := by decide +kernel
theorem dX5_storms_64 : decode cX5_storms 64 = .ok (.iconst 0, 1) := by decide +kernel
theorem dX5_storms_65 : decode cX5_storms 65 = .ok (.invokestatic 79, 3) := by decide +kernel
theorem dX5_storms_68 : decode cX5_storms 68 = .ok (.aload_n 0, 1) := by decide +kernel
theorem dX5_storms_69 : decode cX5_storms 69 = .ok (.aload_n 0, 1) := by decide +kernel
theorem dX5_storms_70 : decode cX5_storms 70 = .ok (.iload_n 3, 1) := by decide +kernel
theorem dX5_storms_71 : decode cX5_storms 71 = .ok (.iconst 0, 1) := by decide +kernel
theorem dX5_storms_72 : decode cX5_storms 72 = .ok (.invokevirtual 117, 3) := by decide +kernel
theorem dX5_storms_75 : decode cX5_storms 75 = .ok (.aload_n 0, 1) := by decide +kernel
theorem dX5_storms_76 : decode cX5_storms 76 = .ok (.bipush 8, 2) := by decide +kernel
theorem dX5_storms_78 : decode cX5_storms 78 = .ok (.invokevirtual 254, 3) := by decide +kernel
theorem dX5_storms_81 : decode cX5_storms 81 = .ok (.invokevirtual 135, 3) := by decide +kernel
theorem dX5_storms_84 : decode cX5_storms 84 = .ok (.iastore, 1) := by decide +kernel
theorem dX5_storms_85 : decode cX5_storms 85 = .ok (.iinc 3 1, 3) := by decide +kernel
theorem dX5_storms_88 : decode cX5_storms 88 = .ok (.goto (-42), 3) := by decide +kernel
theorem dX5_storms_91 : decode cX5_storms 91 = .ok (.aload_n 0, 1) := by decide +kernel
theorem dX5_storms_92 : decode cX5_storms 92 = .ok (.invokevirtual 156, 3) := by decide +kernel
theorem dX5_storms_95 : decode cX5_storms 95 = .ok (.iinc 2 1, 3) := by decide +kernel
theorem dX5_storms_98 : decode cX5_storms 98 = .ok (.goto (-59), 3) := by decide +kernel
theorem dX5_storms_101 : decode cX5_storms 101 = .ok (.aload_n 0, 1) := by decide +kernel
theorem dX5_storms_102 : decode cX5_storms 102 = .ok (.invokevirtual 165, 3) := by decide +kernel
theorem dX5_storms_105 : decode cX5_storms 105 = .ok (.invokestatic 114, 3) := by decide +kernel
theorem dX5_storms_108 : decode cX5_storms 108 = .ok (.ireturn, 1) := by decide +kernel
theorem dX5_odds_0 : decode cX5_odds 0 = .ok (.iload_n 1, 1) := by decide +kernel
theorem dX5_odds_1 : decode cX5_odds 1 = .ok (.invokestatic 138, 3) := by decide +kernel
theorem dX5_odds_4 : decode cX5_odds 4 = .ok (.ifCond .eq 12, 3) := by decide +kernel
theorem dX5_odds_7 : decode cX5_odds 7 = .ok (.iload_n 2, 1) := by decide +kernel
theorem dX5_odds_8 : decode cX5_odds 8 = .ok (.iconst 0, 1) := by decide +kernel
theorem dX5_odds_9 : decode cX5_odds 9 = .ok (.iconst 1, 1) := by decide +kernel
theorem dX5_odds_10 : decode cX5_odds 10 = .ok (.invokestatic 71, 3) := by decide +kernel
theorem dX5_odds_13 : decode cX5_odds 13 = .ok (.ifCond .ne 10, 3) := by decide +kernel
theorem dX5_odds_16 : decode cX5_odds 16 = .ok (.aload_n 0, 1) := by decide +kernel
theorem dX5_odds_17 : decode cX5_odds 17 = .ok (.ldc 66, 2) := by decide +kernel
theorem dX5_odds_19 : decode cX5_odds 19 = .ok (.invokevirtual 86, 3) := by decide +kernel
theorem dX5_odds_22 : decode cX5_odds 22 = .ok (.ireturn, 1) := by decide +kernel
theorem dX5_odds_23 : decode cX5_odds 23 = .ok (.iconst 0, 1) := by decide +kernel
theorem dX5_odds_24 : decode cX5_odds 24 = .ok (.istore_n 3, 1) := by decide +kernel
theorem dX5_odds_25 : decode cX5_odds 25 = .ok (.iconst 0, 1) := by decide +kernel
theorem dX5_odds_26 : decode cX5_odds 26 = .ok (.istore 4, 2) := by decide +kernel
theorem dX5_odds_28 : decode cX5_odds 28 = .ok (.iload 4, 2) := by decide +kernel
theorem dX5_odds_30 : decode cX5_odds 30 = .ok (.bipush 8, 2) := by decide +kernel
theorem dX5_odds_32 : decode cX5_odds 32 = .ok (.if_icmp .ge 44, 3) := by decide +kernel
theorem dX5_odds_35 : decode cX5_odds 35 = .ok (.iload_n 3, 1) := by decide +kernel
theorem dX5_odds_36 : decode cX5_odds 36 = .ok (.aload_n 0, 1) := by decide +kernel
theorem dX5_odds_37 : decode cX5_odds 37 = .ok (.iload_n 1, 1) := by decide +kernel
theorem dX5_odds_38 : decode cX5_odds 38 = .ok (.invokevirtual 132, 3) := by decide +kernel
theorem dX5_odds_41 : decode cX5_odds 41 = .ok (.ifCond .ne 22, 3) := by decide +kernel
theorem dX5_odds_44 : decode cX5_odds 44 = .ok (.aload_n 0, 1) := by decide +kernel
theorem dX5_odds_45 : decode cX5_odds 45 = .ok (.aload_n 0, 1) := by decide +kernel
theorem dX5_odds_46 : decode cX5_odds 46 = .ok (.aload_n 0, 1) := by decide +kernel
theorem dX5_odds_47 : decode cX5_odds 47 = .ok (.iload_n 1, 1) := by decide +kernel
theorem dX5_odds_48 : decode cX5_odds 48 = .ok (.iconst 0, 1) := by decide +kernel
theorem dX5_odds_49 : decode cX5_odds 49 = .ok (.invokevirtual 117, 3) := by decide +kernel
theorem dX5_odds_52 : decode cX5_odds 52 = .ok (.iload 4, 2) := by decide +kernel
theorem dX5_odds_54 : decode cX5_odds 54 = .ok (.invokevirtual 135, 3) := by decide +kernel
theorem dX5_odds_57 : decode cX5_odds 57 = .ok (.invokevirtual 126, 3) := by decide +kernel
theorem dX5_odds_60 : decode cX5_odds 60 = .ok (.ifCond .eq 7, 3) := by decide +kernel
theorem dX5_odds_63 : decode cX5_odds 63 = .ok (.iconst 1, 1) := by decide +kernel
theorem dX5_odds_64 : decode cX5_odds 64 = .ok (.goto 4, 3) := by decide +kernel
theorem dX5_odds_67 : decode cX5_odds 67 = .ok (.iconst 0, 1) := by decide +kernel
theorem dX5_odds_68 : decode cX5_odds 68 = .ok (.iadd, 1) := by decide +kernel
theorem dX5_odds_69 : decode cX5_odds 69 = .ok (.istore_n 3, 1) := by decide +kernel
theorem dX5_odds_70 : decode cX5_odds 70 = .ok (.iinc 4 1, 3) := by decide +kernel
theorem dX5_odds_73 : decode cX5_odds 73 = .ok (.goto (-45), 3) := by decide +kernel
theorem dX5_odds_76 : decode cX5_odds 76 = .ok (.bipush 8, 2) := by decide +kernel
theorem dX5_odds_78 : decode cX5_odds 78 = .ok (.istore 4, 2) := by decide +kernel
theorem dX5_odds_80 : decode cX5_odds 80 = .ok (.iload 4, 2) := by decide +kernel
theorem dX5_odds_82 : decode cX5_odds 82 = .ok (.iconst 1, 1) := by decide +kernel
theorem dX5_odds_83 : decode cX5_odds 83 = .ok (.if_icmp .le 22, 3) := by decide +kernel
theorem dX5_odds_86 : decode cX5_odds 86 = .ok (.iload_n 3, 1) := by decide +kernel
theorem dX5_odds_87 : decode cX5_odds 87 = .ok (.iconst 2, 1) := by decide +kernel
theorem dX5_odds_88 : decode cX5_odds 88 = .ok (.irem, 1) := by decide +kernel
theorem dX5_odds_89 : decode cX5_odds 89 = .ok (.ifCond .ne 16, 3) := by decide +kernel
theorem dX5_odds_92 : decode cX5_odds 92 = .ok (.iload_n 3, 1) := by decide +kernel
theorem dX5_odds_93 : decode cX5_odds 93 = .ok (.iconst 2, 1) := by decide +kernel
theorem dX5_odds_94 : decode cX5_odds 94 = .ok (.idiv, 1) := by decide +kernel
theorem dX5_odds_95 : decode cX5_odds 95 = .ok (.istore_n 3, 1) := by decide +kernel
theorem dX5_odds_96 : decode cX5_odds 96 = .ok (.iload 4, 2) := by decide +kernel
theorem dX5_odds_98 : decode cX5_odds 98 = .ok (.iconst 2, 1) := by decide +kernel
theorem dX5_odds_99 : decode cX5_odds 99 = .ok (.idiv, 1) := by decide +kernel
theorem dX5_odds_100 : decode cX5_odds 100 = .ok (.istore 4, 2) := by decide +kernel
theorem dX5_odds_102 : decode cX5_odds 102 = .ok (.goto (-22), 3) := by decide +kernel
theorem dX5_odds_105 : decode cX5_odds 105 = .ok (.iload_n 2, 1) := by decide +kernel
theorem dX5_odds_106 : decode cX5_odds 106 = .ok (.ifCond .ne 7, 3) := by decide +kernel
theorem dX5_odds_109 : decode cX5_odds 109 = .ok (.iload_n 3, 1) := by decide +kernel
theorem dX5_odds_110 : decode cX5_odds 110 = .ok (.goto 5, 3) := by decide +kernel
theorem dX5_odds_113 : decode cX5_odds 113 = .ok (.iload 4, 2) := by decide +kernel
theorem dX5_odds_115 : decode cX5_odds 115 = .ok (.ireturn, 1) := by decide +kernel
theorem dX5_drives_0 : decode cX5_drives 0 = .ok (.iload_n 1, 1) := by decide +kernel
theorem dX5_drives_1 : decode cX5_drives 1 = .ok (.iconst 0, 1) := by decide +kernel
theorem dX5_drives_2 : decode cX5_drives 2 = .ok (.bipush 20, 2) := by decide +kernel
theorem dX5_drives_4 : decode cX5_drives 4 = .ok (.invokestatic 71, 3) := by decide +kernel
theorem dX5_drives_7 : decode cX5_drives 7 = .ok (.ifCond .eq 11, 3) := by decide +kernel
theorem dX5_drives_10 : decode cX5_drives 10 = .ok (.lconst 1, 1) := by decide +kernel
theorem dX5_drives_11 : decode cX5_drives 11 = .ok (.iconst 3, 1) := by decide +kernel
theorem dX5_drives_12 : decode cX5_drives 12 = .ok (.iload_n 1, 1) := by decide +kernel
theorem dX5_drives_13 : decode cX5_drives 13 = .ok (.imul, 1) := by decide +kernel
theorem dX5_drives_14 : decode cX5_drives 14 = .ok (.lshl, 1) := by decide +kernel
theorem dX5_drives_15 : decode cX5_drives 15 = .ok (.goto 10, 3) := by decide +kernel
theorem dX5_drives_18 : decode cX5_drives 18 = .ok (.aload_n 0, 1) := by decide +kernel
theorem dX5_drives_19 : decode cX5_drives 19 = .ok (.ldc 66, 2) := by decide +kernel
theorem dX5_drives_21 : decode cX5_drives 21 = .ok (.invokevirtual 86, 3) := by decide +kernel
theorem dX5_drives_24 : decode cX5_drives 24 = .ok (.i2l, 1) := by decide +kernel
theorem dX5_drives_25 : decode cX5_drives 25 = .ok (.lreturn, 1) := by decide +kernel
theorem dX5_seed_0 : decode cX5_seed 0 = .ok (.aload_n 0, 1) := by decide +kernel
theorem dX5_seed_1 : decode cX5_seed 1 = .ok (.iconst 5, 1) := by decide +kernel
theorem dX5_seed_2 : decode cX5_seed 2 = .ok (.iload_n 1, 1) := by decide +kernel
theorem dX5_seed_3 : decode cX5_seed 3 = .ok (.invokevirtual 111, 3) := by decide +kernel
theorem dX5_seed_6 : decode cX5_seed 6 = .ok (.ireturn, 1) := by decide +kernel
theorem dX5_feed_0 : decode cX5_feed 0 = .ok (.iload_n 2, 1) := by decide +kernel
theorem dX5_feed_1 : decode cX5_feed 1 = .ok (.iconst 1, 1) := by decide +kernel
theorem dX5_feed_2 : decode cX5_feed 2 = .ok (.iconst 4, 1) := by decide +kernel
theorem dX5_feed_3 : decode cX5_feed 3 = .ok (.invokestatic 71, 3) := by decide +kernel
theorem dX5_feed_6 : decode cX5_feed 6 = .ok (.ifCond .ne 10, 3) := by decide +kernel
theorem dX5_feed_9 : decode cX5_feed 9 = .ok (.aload_n 0, 1) := by decide +kernel
theorem dX5_feed_10 : decode cX5_feed 10 = .ok (.ldc 66, 2) := by decide +kernel
theorem dX5_feed_12 : decode cX5_feed 12 = .ok (.invokevirtual 86, 3) := by decide +kernel
theorem dX5_feed_15 : decode cX5_feed 15 = .ok (.ireturn, 1) := by decide +kernel
theorem dX5_feed_16 : decode cX5_feed 16 = .ok (.aload_n 0, 1) := by decide +kernel
theorem dX5_feed_17 : decode cX5_feed 17 = .ok (.getfield 257, 3) := by decide +kernel
theorem dX5_feed_20 : decode cX5_feed 20 = .ok (.iload_n 2, 1) := by decide +kernel
theorem dX5_feed_21 : decode cX5_feed 21 = .ok (.iadd, 1) := by decide +kernel
theorem dX5_feed_22 : decode cX5_feed 22 = .ok (.bipush 120, 2) := by decide +kernel
theorem dX5_feed_24 : decode cX5_feed 24 = .ok (.if_icmp .le 10, 3) := by decide +kernel
theorem dX5_feed_27 : decode cX5_feed 27 = .ok (.aload_n 0, 1) := by decide +kernel
theorem dX5_feed_28 : decode cX5_feed 28 = .ok (.ldc 90, 2) := by decide +kernel
theorem dX5_feed_30 : decode cX5_feed 30 = .ok (.invokevirtual 86, 3) := by decide +kernel
theorem dX5_feed_33 : decode cX5_feed 33 = .ok (.ireturn, 1) := by decide +kernel
theorem dX5_feed_34 : decode cX5_feed 34 = .ok (.iload_n 2, 1) := by decide +kernel
theorem dX5_feed_35 : decode cX5_feed 35 = .ok (.iconst 1, 1) := by decide +kernel
theorem dX5_feed_36 : decode cX5_feed 36 = .ok (.isub, 1) := by decide +kernel
theorem dX5_feed_37 : decode cX5_feed 37 = .ok (.istore_n 3, 1) := by decide +kernel
theorem dX5_feed_38 : decode cX5_feed 38 = .ok (.iload_n 3, 1) := by decide +kernel
theorem dX5_feed_39 : decode cX5_feed 39 = .ok (.ifCond .lt 38, 3) := by decide +kernel
theorem dX5_feed_42 : decode cX5_feed 42 = .ok (.aload_n 0, 1) := by decide +kernel
theorem dX5_feed_43 : decode cX5_feed 43 = .ok (.getfield 28, 3) := by decide +kernel
theorem dX5_feed_46 : decode cX5_feed 46 = .ok (.aload_n 0, 1) := by decide +kernel
theorem dX5_feed_47 : decode cX5_feed 47 = .ok (.getfield 257, 3) := by decide +kernel
theorem dX5_feed_50 : decode cX5_feed 50 = .ok (.iload_n 1, 1) := by decide +kernel
theorem dX5_feed_51 : decode cX5_feed 51 = .ok (.bipush 8, 2) := by decide +kernel
theorem dX5_feed_53 : decode cX5_feed 53 = .ok (.iload_n 3, 1) := by decide +kernel
theorem dX5_feed_54 : decode cX5_feed 54 = .ok (.imul, 1) := by decide +kernel
theorem dX5_feed_55 : decode cX5_feed 55 = .ok (.ishr, 1) := by decide +kernel
theorem dX5_feed_56 : decode cX5_feed 56 = .ok (.sipush 255, 3) := by decide +kernel
theorem dX5_feed_59 : decode cX5_feed 59 = .ok (.iand, 1) := by decide +kernel
theorem dX5_feed_60 : decode cX5_feed 60 = .ok (.iastore, 1) := by decide +kernel
theorem dX5_feed_61 : decode cX5_feed 61 = .ok (.aload_n 0, 1) := by decide +kernel
theorem dX5_feed_62 : decode cX5_feed 62 = .ok (.dup, 1) := by decide +kernel
theorem dX5_feed_63 : decode cX5_feed 63 = .ok (.getfield 257, 3) := by decide +kernel
theorem dX5_feed_66 : decode cX5_feed 66 = .ok (.iconst 1, 1) := by decide +kernel
theorem dX5_feed_67 : decode cX5_feed 67 = .ok (.iadd, 1) := by decide +kernel
theorem dX5_feed_68 : decode cX5_feed 68 = .ok (.putfield 257, 3) := by decide +kernel
theorem dX5_feed_71 : decode cX5_feed 71 = .ok (.iinc 3 (-1), 3) := by decide +kernel
theorem dX5_feed_74 : decode cX5_feed 74 = .ok (.goto (-36), 3) := by decide +kernel
theorem dX5_feed_77 : decode cX5_feed 77 = .ok (.aload_n 0, 1) := by decide +kernel
theorem dX5_feed_78 : decode cX5_feed 78 = .ok (.getfield 257, 3) := by decide +kernel
theorem dX5_feed_81 : decode cX5_feed 81 = .ok (.ireturn, 1) := by decide +kernel
theorem dX5_wipe_0 : decode cX5_wipe 0 = .ok (.aload_n 0, 1) := by decide +kernel
theorem dX5_wipe_1 : decode cX5_wipe 1 = .ok (.getfield 257, 3) := by decide +kernel
theorem dX5_wipe_4 : decode cX5_wipe 4 = .ok (.istore_n 1, 1) := by decide +kernel
theorem dX5_wipe_5 : decode cX5_wipe 5 = .ok (.aload_n 0, 1) := by decide +kernel
theorem dX5_wipe_6 : decode cX5_wipe 6 = .ok (.iconst 0, 1) := by decide +kernel
theorem dX5_wipe_7 : decode cX5_wipe 7 = .ok (.putfield 257, 3) := by decide +kernel
theorem dX5_wipe_10 : decode cX5_wipe 10 = .ok (.iload_n 1, 1) := by decide +kernel
theorem dX5_wipe_11 : decode cX5_wipe 11 = .ok (.ireturn, 1) := by decide +kernel
theorem dX5_byteAt_0 : decode cX5_byteAt 0 = .ok (.iload_n 1, 1) := by decide +kernel
theorem dX5_byteAt_1 : decode cX5_byteAt 1 = .ok (.aload_n 0, 1) := by decide +kernel
theorem dX5_byteAt_2 : decode cX5_byteAt 2 = .ok (.getfield 257, 3) := by decide +kernel
theorem dX5_byteAt_5 : decode cX5_byteAt 5 = .ok (.if_icmp .ge 12, 3) := by decide +kernel
theorem dX5_byteAt_8 : decode cX5_byteAt 8 = .ok (.aload_n 0, 1) := by decide +kernel
theorem dX5_byteAt_9 : decode cX5_byteAt 9 = .ok (.getfield 28, 3) := by decide +kernel
theorem dX5_byteAt_12 : decode cX5_byteAt 12 = .ok (.iload_n 1, 1) := by decide +kernel
theorem dX5_byteAt_13 : decode cX5_byteAt 13 = .ok (.iaload, 1) := by decide +kernel
theorem dX5_byteAt_14 : decode cX5_byteAt 14 = .ok (.goto 4, 3) := by decide +kernel
theorem dX5_byteAt_17 : decode cX5_byteAt 17 = .ok (.iconst (-1), 1) := by decide +kernel
theorem dX5_byteAt_18 : decode cX5_byteAt 18 = .ok (.ireturn, 1) := by decide +kernel
theorem dX5_next_0 : decode cX5_next 0 = .ok (.aload_n 0, 1) := by decide +kernel
theorem dX5_next_1 : decode cX5_next 1 = .ok (.aload_n 0, 1) := by decide +kernel
theorem dX5_next_2 : decode cX5_next 2 = .ok (.getfield 260, 3) := by decide +kernel
theorem dX5_next_5 : decode cX5_next 5 = .ok (.putfield 263, 3) := by decide +kernel
theorem dX5_next_8 : decode cX5_next 8 = .ok (.aload_n 0, 1) := by decide +kernel
theorem dX5_next_9 : decode cX5_next 9 = .ok (.aload_n 0, 1) := by decide +kernel
theorem dX5_next_10 : decode cX5_next 10 = .ok (.getfield 263, 3) := by decide +kernel
theorem dX5_next_13 : decode cX5_next 13 = .ok (.invokevirtual 266, 3) := by decide +kernel
theorem dX5_next_16 : decode cX5_next 16 = .ok (.bipush 32, 2) := by decide +kernel
theorem dX5_next_18 : decode cX5_next 18 = .ok (.if_icmp .ne 16, 3) := by decide +kernel
theorem dX5_next_21 : decode cX5_next 21 = .ok (.aload_n 0, 1) := by decide +kernel
theorem dX5_next_22 : decode cX5_next 22 = .ok (.dup, 1) := by decide +kernel
theorem dX5_next_23 : decode cX5_next 23 = .ok (.getfield 263, 3) := by decide +kernel
theorem dX5_next_26 : decode cX5_next 26 = .ok (.iconst 1, 1) := by decide +kernel
theorem dX5_next_27 : decode cX5_next 27 = .ok (.iadd, 1) := by decide +kernel
theorem dX5_next_28 : decode cX5_next 28 = .ok (.putfield 263, 3) := by decide +kernel
theorem dX5_next_31 : decode cX5_next 31 = .ok (.goto (-23), 3) := by decide +kernel
theorem dX5_next_34 : decode cX5_next 34 = .ok (.aload_n 0, 1) := by decide +kernel
theorem dX5_next_35 : decode cX5_next 35 = .ok (.aload_n 0, 1) := by decide +kernel
theorem dX5_next_36 : decode cX5_next 36 = .ok (.getfield 263, 3) := by decide +kernel
theorem dX5_next_39 : decode cX5_next 39 = .ok (.invokevirtual 266, 3) := by decide +kernel
theorem dX5_next_42 : decode cX5_next 42 = .ok (.istore_n 1, 1) := by decide +kernel
theorem dX5_next_43 : decode cX5_next 43 = .ok (.aload_n 0, 1) := by decide +kernel
theorem dX5_next_44 : decode cX5_next 44 = .ok (.aload_n 0, 1) := by decide +kernel
theorem dX5_next_45 : decode cX5_next 45 = .ok (.getfield 263, 3) := by decide +kernel
theorem dX5_next_48 : decode cX5_next 48 = .ok (.putfield 260, 3) := by decide +kernel
theorem dX5_next_51 : decode cX5_next 51 = .ok (.aload_n 0, 1) := by decide +kernel
theorem dX5_next_52 : decode cX5_next 52 = .ok (.iconst 0, 1) := by decide +kernel
theorem dX5_next_53 : decode cX5_next 53 = .ok (.putfield 269, 3) := by decide +kernel
theorem dX5_next_56 : decode cX5_next 56 = .ok (.iload_n 1, 1) := by decide +kernel
theorem dX5_next_57 : decode cX5_next 57 = .ok (.ifCond .ge 11, 3) := by decide +kernel
theorem dX5_next_60 : decode cX5_next 60 = .ok (.aload_n 0, 1) := by decide +kernel
theorem dX5_next_61 : decode cX5_next 61 = .ok (.iconst 0, 1) := by decide +kernel
theorem dX5_next_62 : decode cX5_next 62 = .ok (.putfield 272, 3) := by decide +kernel
theorem dX5_next_65 : decode cX5_next 65 = .ok (.goto 141, 3) := by decide +kernel
theorem dX5_next_68 : decode cX5_next 68 = .ok (.iload_n 1, 1) := by decide +kernel
theorem dX5_next_69 : decode cX5_next 69 = .ok (.bipush 97, 2) := by decide +kernel
theorem dX5_next_71 : decode cX5_next 71 = .ok (.bipush 122, 2) := by decide +kernel
theorem dX5_next_73 : decode cX5_next 73 = .ok (.invokestatic 71, 3) := by decide +kernel
theorem dX5_next_76 : decode cX5_next 76 = .ok (.ifCond .eq 39, 3) := by decide +kernel
theorem dX5_next_79 : decode cX5_next 79 = .ok (.aload_n 0, 1) := by decide +kernel
theorem dX5_next_80 : decode cX5_next 80 = .ok (.iconst 1, 1) := by decide +kernel
theorem dX5_next_81 : decode cX5_next 81 = .ok (.putfield 272, 3) := by decide +kernel
theorem dX5_next_84 : decode cX5_next 84 = .ok (.aload_n 0, 1) := by decide +kernel
theorem dX5_next_85 : decode cX5_next 85 = .ok (.aload_n 0, 1) := by decide +kernel
theorem dX5_next_86 : decode cX5_next 86 = .ok (.getfield 260, 3) := by decide +kernel
theorem dX5_next_89 : decode cX5_next 89 = .ok (.invokevirtual 266, 3) := by decide +kernel
theorem dX5_next_92 : decode cX5_next 92 = .ok (.bipush 97, 2) := by decide +kernel
theorem dX5_next_94 : decode cX5_next 94 = .ok (.bipush 122, 2) := by decide +kernel
theorem dX5_next_96 : decode cX5_next 96 = .ok (.invokestatic 71, 3) := by decide +kernel
theorem dX5_next_99 : decode cX5_next 99 = .ok (.ifCond .eq 107, 3) := by decide +kernel
theorem dX5_next_102 : decode cX5_next 102 = .ok (.aload_n 0, 1) := by decide +kernel
theorem dX5_next_103 : decode cX5_next 103 = .ok (.dup, 1) := by decide +kernel
theorem dX5_next_104 : decode cX5_next 104 = .ok (.getfield 260, 3) := by decide +kernel
theorem dX5_next_107 : decode cX5_next 107 = .ok (.iconst 1, 1) := by decide +kernel
theorem dX5_next_108 : decode cX5_next 108 = .ok (.iadd, 1) := by decide +kernel
theorem dX5_next_109 : decode cX5_next 109 = .ok (.putfield 260, 3) := by decide +kernel
theorem dX5_next_112 : decode cX5_next 112 = .ok (.goto (-28), 3) := by decide +kernel
theorem dX5_next_115 : decode cX5_next 115 = .ok (.iload_n 1, 1) := by decide +kernel
theorem dX5_next_116 : decode cX5_next 116 = .ok (.bipush 48, 2) := by decide +kernel
theorem dX5_next_118 : decode cX5_next 118 = .ok (.bipush 57, 2) := by decide +kernel
theorem dX5_next_120 : decode cX5_next 120 = .ok (.invokestatic 71, 3) := by decide +kernel
theorem dX5_next_123 : decode cX5_next 123 = .ok (.ifCond .eq 68, 3) := by decide +kernel
theorem dX5_next_126 : decode cX5_next 126 = .ok (.aload_n 0, 1) := by decide +kernel
theorem dX5_next_127 : decode cX5_next 127 = .ok (.iconst 2, 1) := by decide +kernel
theorem dX5_next_128 : decode cX5_next 128 = .ok (.putfield 272, 3) := by decide +kernel
theorem dX5_next_131 : decode cX5_next 131 = .ok (.aload_n 0, 1) := by decide +kernel
theorem dX5_next_132 : decode cX5_next 132 = .ok (.aload_n 0, 1) := by decide +kernel
theorem dX5_next_133 : decode cX5_next 133 = .ok (.getfield 260, 3) := by decide +kernel
theorem dX5_next_136 : decode cX5_next 136 = .ok (.invokevirtual 266, 3) := by decide +kernel
theorem dX5_next_139 : decode cX5_next 139 = .ok (.bipush 48, 2) := by decide +kernel
theorem dX5_next_141 : decode cX5_next 141 = .ok (.bipush 57, 2) := by decide +kernel
theorem dX5_next_143 : decode cX5_next 143 = .ok (.invokestatic 71, 3) := by decide +kernel
theorem dX5_next_146 : decode cX5_next 146 = .ok (.ifCond .eq 60, 3) := by decide +kernel
theorem dX5_next_149 : decode cX5_next 149 = .ok (.aload_n 0, 1) := by decide +kernel
theorem dX5_next_150 : decode cX5_next 150 = .ok (.ldc_w 275, 3) := by decide +kernel
theorem dX5_next_153 : decode cX5_next 153 = .ok (.bipush 10, 2) := by decide +kernel
theorem dX5_next_155 : decode cX5_next 155 = .ok (.aload_n 0, 1) := by decide +kernel
theorem dX5_next_156 : decode cX5_next 156 = .ok (.getfield 269, 3) := by decide +kernel
theorem dX5_next_159 : decode cX5_next 159 = .ok (.imul, 1) := by decide +kernel
theorem dX5_next_160 : decode cX5_next 160 = .ok (.aload_n 0, 1) := by decide +kernel
theorem dX5_next_161 : decode cX5_next 161 = .ok (.aload_n 0, 1) := by decide +kernel
theorem dX5_next_162 : decode cX5_next 162 = .ok (.getfield 260, 3) := by decide +kernel
theorem dX5_next_165 : decode cX5_next 165 = .ok (.invokevirtual 266, 3) := by decide +kernel
theorem dX5_next_168 : decode cX5_next 168 = .ok (.iadd, 1) := by decide +kernel
theorem dX5_next_169 : decode cX5_next 169 = .ok (.bipush 48, 2) := by decide +kernel
theorem dX5_next_171 : decode cX5_next 171 = .ok (.isub, 1) := by decide +kernel
theorem dX5_next_172 : decode cX5_next 172 = .ok (.invokestatic 151, 3) := by decide +kernel
theorem dX5_next_175 : decode cX5_next 175 = .ok (.putfield 269, 3) := by decide +kernel
theorem dX5_next_178 : decode cX5_next 178 = .ok (.aload_n 0, 1) := by decide +kernel
theorem dX5_next_179 : decode cX5_next 179 = .ok (.dup, 1) := by decide +kernel
theorem dX5_next_180 : decode cX5_next 180 = .ok (.getfield 260, 3) := by decide +kernel
theorem dX5_next_183 : decode cX5_next 183 = .ok (.iconst 1, 1) := by decide +kernel
theorem dX5_next_184 : decode cX5_next 184 = .ok (.iadd, 1) := by decide +kernel
theorem dX5_next_185 : decode cX5_next 185 = .ok (.putfield 260, 3) := by decide +kernel
theorem dX5_next_188 : decode cX5_next 188 = .ok (.goto (-57), 3) := by decide +kernel
theorem dX5_next_191 : decode cX5_next 191 = .ok (.aload_n 0, 1) := by decide +kernel
theorem dX5_next_192 : decode cX5_next 192 = .ok (.iconst 3, 1) := by decide +kernel
theorem dX5_next_193 : decode cX5_next 193 = .ok (.putfield 272, 3) := by decide +kernel
theorem dX5_next_196 : decode cX5_next 196 = .ok (.aload_n 0, 1) := by decide +kernel
theorem dX5_next_197 : decode cX5_next 197 = .ok (.dup, 1) := by decide +kernel
theorem dX5_next_198 : decode cX5_next 198 = .ok (.getfield 260, 3) := by decide +kernel
theorem dX5_next_201 : decode cX5_next 201 = .ok (.iconst 1, 1) := by decide +kernel
theorem dX5_next_202 : decode cX5_next 202 = .ok (.iadd, 1) := by decide +kernel
theorem dX5_next_203 : decode cX5_next 203 = .ok (.putfield 260, 3) := by decide +kernel
theorem dX5_next_206 : decode cX5_next 206 = .ok (.return_, 1) := by decide +kernel
theorem dX5_isWord_0 : decode cX5_isWord 0 = .ok (.aload_n 0, 1) := by decide +kernel
theorem dX5_isWord_1 : decode cX5_isWord 1 = .ok (.getfield 272, 3) := by decide +kernel
theorem dX5_isWord_4 : decode cX5_isWord 4 = .ok (.iconst 1, 1) := by decide +kernel
theorem dX5_isWord_5 : decode cX5_isWord 5 = .ok (.if_icmp .ne 23, 3) := by decide +kernel
theorem dX5_isWord_8 : decode cX5_isWord 8 = .ok (.aload_n 0, 1) := by decide +kernel
theorem dX5_isWord_9 : decode cX5_isWord 9 = .ok (.getfield 260, 3) := by decide +kernel
theorem dX5_isWord_12 : decode cX5_isWord 12 = .ok (.aload_n 0, 1) := by decide +kernel
theorem dX5_isWord_13 : decode cX5_isWord 13 = .ok (.getfield 263, 3) := by decide +kernel
theorem dX5_isWord_16 : decode cX5_isWord 16 = .ok (.isub, 1) := by decide +kernel
theorem dX5_isWord_17 : decode cX5_isWord 17 = .ok (.aload_n 1, 1) := by decide +kernel
theorem dX5_isWord_18 : decode cX5_isWord 18 = .ok (.invokevirtual 276, 3) := by decide +kernel
theorem dX5_isWord_21 : decode cX5_isWord 21 = .ok (.if_icmp .ne 7, 3) := by decide +kernel
theorem dX5_isWord_24 : decode cX5_isWord 24 = .ok (.iconst 1, 1) := by decide +kernel
theorem dX5_isWord_25 : decode cX5_isWord 25 = .ok (.goto 4, 3) := by decide +kernel
theorem dX5_isWord_28 : decode cX5_isWord 28 = .ok (.iconst 0, 1) := by decide +kernel
theorem dX5_isWord_29 : decode cX5_isWord 29 = .ok (.istore_n 2, 1) := by decide +kernel
theorem dX5_isWord_30 : decode cX5_isWord 30 = .ok (.iconst 0, 1) := by decide +kernel
theorem dX5_isWord_31 : decode cX5_isWord 31 = .ok (.istore_n 3, 1) := by decide +kernel
theorem dX5_isWord_32 : decode cX5_isWord 32 = .ok (.iload_n 3, 1) := by decide +kernel
theorem dX5_isWord_33 : decode cX5_isWord 33 = .ok (.aload_n 1, 1) := by decide +kernel
theorem dX5_isWord_34 : decode cX5_isWord 34 = .ok (.invokevirtual 276, 3) := by decide +kernel
theorem dX5_isWord_37 : decode cX5_isWord 37 = .ok (.if_icmp .ge 38, 3) := by decide +kernel
theorem dX5_isWord_40 : decode cX5_isWord 40 = .ok (.iload_n 2, 1) := by decide +kernel
theorem dX5_isWord_41 : decode cX5_isWord 41 = .ok (.ifCond .eq 34, 3) := by decide +kernel
theorem dX5_isWord_44 : decode cX5_isWord 44 = .ok (.aload_n 0, 1) := by decide +kernel
theorem dX5_isWord_45 : decode cX5_isWord 45 = .ok (.getfield 28, 3) := by decide +kernel
theorem dX5_isWord_48 : decode cX5_isWord 48 = .ok (.aload_n 0, 1) := by decide +kernel
theorem dX5_isWord_49 : decode cX5_isWord 49 = .ok (.getfield 263, 3) := by decide +kernel
theorem dX5_isWord_52 : decode cX5_isWord 52 = .ok (.iload_n 3, 1) := by decide +kernel
theorem dX5_isWord_53 : decode cX5_isWord 53 = .ok (.iadd, 1) := by decide +kernel
theorem dX5_isWord_54 : decode cX5_isWord 54 = .ok (.iaload, 1) := by decide +kernel
theorem dX5_isWord_55 : decode cX5_isWord 55 = .ok (.aload_n 1, 1) := by decide +kernel
theorem dX5_isWord_56 : decode cX5_isWord 56 = .ok (.iload_n 3, 1) := by decide +kernel
theorem dX5_isWord_57 : decode cX5_isWord 57 = .ok (.invokevirtual 279, 3) := by decide +kernel
theorem dX5_isWord_60 : decode cX5_isWord 60 = .ok (.if_icmp .ne 7, 3) := by decide +kernel
theorem dX5_isWord_63 : decode cX5_isWord 63 = .ok (.iconst 1, 1) := by decide +kernel
theorem dX5_isWord_64 : decode cX5_isWord 64 = .ok (.goto 4, 3) := by decide +kernel
theorem dX5_isWord_67 : decode cX5_isWord 67 = .ok (.iconst 0, 1) := by decide +kernel
theorem dX5_isWord_68 : decode cX5_isWord 68 = .ok (.istore_n 2, 1) := by decide +kernel
theorem dX5_isWord_69 : decode cX5_isWord 69 = .ok (.iinc 3 1, 3) := by decide +kernel
theorem dX5_isWord_72 : decode cX5_isWord 72 = .ok (.goto (-40), 3) := by decide +kernel
theorem dX5_isWord_75 : decode cX5_isWord 75 = .ok (.iload_n 2, 1) := by decide +kernel
theorem dX5_isWord_76 : decode cX5_isWord 76 = .ok (.ireturn, 1) := by decide +kernel
theorem dX5_must_0 : decode cX5_must 0 = .ok (.aload_n 0, 1) := by decide +kernel
theorem dX5_must_1 : decode cX5_must 1 = .ok (.aload_n 0, 1) := by decide +kernel
theorem dX5_must_2 : decode cX5_must 2 = .ok (.getfield 283, 3) := by decide +kernel
theorem dX5_must_5 : decode cX5_must 5 = .ok (.ifCond .ne 7, 3) := by decide +kernel
theorem dX5_must_8 : decode cX5_must 8 = .ok (.iload_n 1, 1) := by decide +kernel
theorem dX5_must_9 : decode cX5_must 9 = .ok (.ifCond .ne 7, 3) := by decide +kernel
theorem dX5_must_12 : decode cX5_must 12 = .ok (.iconst 1, 1) := by decide +kernel
theorem dX5_must_13 : decode cX5_must 13 = .ok (.goto 4, 3) := by decide +kernel
theorem dX5_must_16 : decode cX5_must 16 = .ok (.iconst 0, 1) := by decide +kernel
theorem dX5_must_17 : decode cX5_must 17 = .ok (.putfield 283, 3) := by decide +kernel
theorem dX5_must_20 : decode cX5_must 20 = .ok (.aload_n 0, 1) := by decide +kernel
theorem dX5_must_21 : decode cX5_must 21 = .ok (.getfield 283, 3) := by decide +kernel
theorem dX5_must_24 : decode cX5_must 24 = .ok (.ifCond .ne 7, 3) := by decide +kernel
theorem dX5_must_27 : decode cX5_must 27 = .ok (.aload_n 0, 1) := by decide +kernel
theorem dX5_must_28 : decode cX5_must 28 = .ok (.invokevirtual 287, 3) := by decide +kernel
theorem dX5_must_31 : decode cX5_must 31 = .ok (.return_, 1) := by decide +kernel
theorem dX5_number_0 : decode cX5_number 0 = .ok (.aload_n 0, 1) := by decide +kernel
theorem dX5_number_1 : decode cX5_number 1 = .ok (.getfield 269, 3) := by decide +kernel
theorem dX5_number_4 : decode cX5_number 4 = .ok (.istore_n 3, 1) := by decide +kernel
theorem dX5_number_5 : decode cX5_number 5 = .ok (.aload_n 0, 1) := by decide +kernel
theorem dX5_number_6 : decode cX5_number 6 = .ok (.aload_n 0, 1) := by decide +kernel
theorem dX5_number_7 : decode cX5_number 7 = .ok (.getfield 272, 3) := by decide +kernel
theorem dX5_number_10 : decode cX5_number 10 = .ok (.iconst 2, 1) := by decide +kernel
theorem dX5_number_11 : decode cX5_number 11 = .ok (.if_icmp .ne 16, 3) := by decide +kernel
theorem dX5_number_14 : decode cX5_number 14 = .ok (.iload_n 3, 1) := by decide +kernel
theorem dX5_number_15 : decode cX5_number 15 = .ok (.iload_n 1, 1) := by decide +kernel
theorem dX5_number_16 : decode cX5_number 16 = .ok (.iload_n 2, 1) := by decide +kernel
theorem dX5_number_17 : decode cX5_number 17 = .ok (.invokestatic 71, 3) := by decide +kernel
theorem dX5_number_20 : decode cX5_number 20 = .ok (.ifCond .eq 7, 3) := by decide +kernel
theorem dX5_number_23 : decode cX5_number 23 = .ok (.iconst 1, 1) := by decide +kernel
theorem dX5_number_24 : decode cX5_number 24 = .ok (.goto 4, 3) := by decide +kernel
theorem dX5_number_27 : decode cX5_number 27 = .ok (.iconst 0, 1) := by decide +kernel
theorem dX5_number_28 : decode cX5_number 28 = .ok (.invokevirtual 290, 3) := by decide +kernel
theorem dX5_number_31 : decode cX5_number 31 = .ok (.iload_n 3, 1) := by decide +kernel
theorem dX5_number_32 : decode cX5_number 32 = .ok (.ireturn, 1) := by decide +kernel
theorem dX5_item_0 : decode cX5_item 0 = .ok (.iconst 3, 1) := by decide +kernel
theorem dX5_item_1 : decode cX5_item 1 = .ok (.aload_n 0, 1) := by decide +kernel
theorem dX5_item_2 : decode cX5_item 2 = .ok (.getfield 294, 3) := by decide +kernel
theorem dX5_item_5 : decode cX5_item 5 = .ok (.imul, 1) := by decide +kernel
theorem dX5_item_6 : decode cX5_item 6 = .ok (.istore 4, 2) := by decide +kernel
theorem dX5_item_8 : decode cX5_item 8 = .ok (.aload_n 0, 1) := by decide +kernel
theorem dX5_item_9 : decode cX5_item 9 = .ok (.getfield 51, 3) := by decide +kernel
theorem dX5_item_12 : decode cX5_item 12 = .ok (.iload 4, 2) := by decide +kernel
theorem dX5_item_14 : decode cX5_item 14 = .ok (.iload_n 1, 1) := by decide +kernel
theorem dX5_item_15 : decode cX5_item 15 = .ok (.iastore, 1) := by decide +kernel
theorem dX5_item_16 : decode cX5_item 16 = .ok (.aload_n 0, 1) := by decide +kernel
theorem dX5_item_17 : decode cX5_item 17 = .ok (.getfield 51, 3) := by decide +kernel
theorem dX5_item_20 : decode cX5_item 20 = .ok (.iload 4, 2) := by decide +kernel
theorem dX5_item_22 : decode cX5_item 22 = .ok (.iconst 1, 1) := by decide +kernel
theorem dX5_item_23 : decode cX5_item 23 = .ok (.iadd, 1) := by decide +kernel
theorem dX5_item_24 : decode cX5_item 24 = .ok (.iload_n 2, 1) := by decide +kernel
theorem dX5_item_25 : decode cX5_item 25 = .ok (.iastore, 1) := by decide +kernel
theorem dX5_item_26 : decode cX5_item 26 = .ok (.aload_n 0, 1) := by decide +kernel
theorem dX5_item_27 : decode cX5_item 27 = .ok (.getfield 51, 3) := by decide +kernel
theorem dX5_item_30 : decode cX5_item 30 = .ok (.iload 4, 2) := by decide +kernel
theorem dX5_item_32 : decode cX5_item 32 = .ok (.iconst 2, 1) := by decide +kernel
theorem dX5_item_33 : decode cX5_item 33 = .ok (.iadd, 1) := by decide +kernel
theorem dX5_item_34 : decode cX5_item 34 = .ok (.iload_n 3, 1) := by decide +kernel
theorem dX5_item_35 : decode cX5_item 35 = .ok (.iastore, 1) := by decide +kernel
theorem dX5_item_36 : decode cX5_item 36 = .ok (.aload_n 0, 1) := by decide +kernel
theorem dX5_item_37 : decode cX5_item 37 = .ok (.dup, 1) := by decide +kernel
theorem dX5_item_38 : decode cX5_item 38 = .ok (.getfield 294, 3) := by decide +kernel
theorem dX5_item_41 : decode cX5_item 41 = .ok (.iconst 1, 1) := by decide +kernel
theorem dX5_item_42 : decode cX5_item 42 = .ok (.iadd, 1) := by decide +kernel
theorem dX5_item_43 : decode cX5_item 43 = .ok (.putfield 294, 3) := by decide +kernel
theorem dX5_item_46 : decode cX5_item 46 = .ok (.return_, 1) := by decide +kernel
theorem dX5_kindTold_0 : decode cX5_kindTold 0 = .ok (.iconst (-1), 1) := by decide +kernel
theorem dX5_kindTold_1 : decode cX5_kindTold 1 = .ok (.istore_n 1, 1) := by decide +kernel
theorem dX5_kindTold_2 : decode cX5_kindTold 2 = .ok (.iconst 0, 1) := by decide +kernel
theorem dX5_kindTold_3 : decode cX5_kindTold 3 = .ok (.istore_n 2, 1) := by decide +kernel
theorem dX5_kindTold_4 : decode cX5_kindTold 4 = .ok (.iload_n 2, 1) := by decide +kernel
theorem dX5_kindTold_5 : decode cX5_kindTold 5 = .ok (.aload_n 0, 1) := by decide +kernel
theorem dX5_kindTold_6 : decode cX5_kindTold 6 = .ok (.getfield 47, 3) := by decide +kernel
theorem dX5_kindTold_9 : decode cX5_kindTold 9 = .ok (.arraylength, 1) := by decide +kernel
theorem dX5_kindTold_10 : decode cX5_kindTold 10 = .ok (.if_icmp .ge 28, 3) := by decide +kernel
theorem dX5_kindTold_13 : decode cX5_kindTold 13 = .ok (.aload_n 0, 1) := by decide +kernel
theorem dX5_kindTold_14 : decode cX5_kindTold 14 = .ok (.aload_n 0, 1) := by decide +kernel
theorem dX5_kindTold_15 : decode cX5_kindTold 15 = .ok (.getfield 47, 3) := by decide +kernel
theorem dX5_kindTold_18 : decode cX5_kindTold 18 = .ok (.iload_n 2, 1) := by decide +kernel
theorem dX5_kindTold_19 : decode cX5_kindTold 19 = .ok (.aaload, 1) := by decide +kernel
theorem dX5_kindTold_20 : decode cX5_kindTold 20 = .ok (.invokevirtual 297, 3) := by decide +kernel
theorem dX5_kindTold_23 : decode cX5_kindTold 23 = .ok (.ifCond .eq 7, 3) := by decide +kernel
theorem dX5_kindTold_26 : decode cX5_kindTold 26 = .ok (.iload_n 2, 1) := by decide +kernel
theorem dX5_kindTold_27 : decode cX5_kindTold 27 = .ok (.goto 4, 3) := by decide +kernel
theorem dX5_kindTold_30 : decode cX5_kindTold 30 = .ok (.iload_n 1, 1) := by decide +kernel
theorem dX5_kindTold_31 : decode cX5_kindTold 31 = .ok (.istore_n 1, 1) := by decide +kernel
theorem dX5_kindTold_32 : decode cX5_kindTold 32 = .ok (.iinc 2 1, 3) := by decide +kernel
theorem dX5_kindTold_35 : decode cX5_kindTold 35 = .ok (.goto (-31), 3) := by decide +kernel
theorem dX5_kindTold_38 : decode cX5_kindTold 38 = .ok (.iload_n 1, 1) := by decide +kernel
theorem dX5_kindTold_39 : decode cX5_kindTold 39 = .ok (.ireturn, 1) := by decide +kernel
theorem dX5_isNext_0 : decode cX5_isNext 0 = .ok (.aload_n 0, 1) := by decide +kernel
theorem dX5_isNext_1 : decode cX5_isNext 1 = .ok (.getfield 283, 3) := by decide +kernel
theorem dX5_isNext_4 : decode cX5_isNext 4 = .ok (.ifCond .ne 15, 3) := by decide +kernel
theorem dX5_isNext_7 : decode cX5_isNext 7 = .ok (.aload_n 0, 1) := by decide +kernel
theorem dX5_isNext_8 : decode cX5_isNext 8 = .ok (.aload_n 1, 1) := by decide +kernel
theorem dX5_isNext_9 : decode cX5_isNext 9 = .ok (.invokevirtual 297, 3) := by decide +kernel
theorem dX5_isNext_12 : decode cX5_isNext 12 = .ok (.ifCond .eq 7, 3) := by decide +kernel
theorem dX5_isNext_15 : decode cX5_isNext 15 = .ok (.iconst 1, 1) := by decide +kernel
theorem dX5_isNext_16 : decode cX5_isNext 16 = .ok (.goto 4, 3) := by decide +kernel
theorem dX5_isNext_19 : decode cX5_isNext 19 = .ok (.iconst 0, 1) := by decide +kernel
theorem dX5_isNext_20 : decode cX5_isNext 20 = .ok (.istore_n 2, 1) := by decide +kernel
theorem dX5_isNext_21 : decode cX5_isNext 21 = .ok (.iload_n 2, 1) := by decide +kernel
theorem dX5_isNext_22 : decode cX5_isNext 22 = .ok (.ifCond .eq 8, 3) := by decide +kernel
theorem dX5_isNext_25 : decode cX5_isNext 25 = .ok (.aload_n 0, 1) := by decide +kernel
theorem dX5_isNext_26 : decode cX5_isNext 26 = .ok (.iconst 1, 1) := by decide +kernel
theorem dX5_isNext_27 : decode cX5_isNext 27 = .ok (.invokevirtual 290, 3) := by decide +kernel
theorem dX5_isNext_30 : decode cX5_isNext 30 = .ok (.iload_n 2, 1) := by decide +kernel
theorem dX5_isNext_31 : decode cX5_isNext 31 = .ok (.ireturn, 1) := by decide +kernel
theorem dX5_isMinus_0 : decode cX5_isMinus 0 = .ok (.aload_n 0, 1) := by decide +kernel
theorem dX5_isMinus_1 : decode cX5_isMinus 1 = .ok (.getfield 283, 3) := by decide +kernel
theorem dX5_isMinus_4 : decode cX5_isMinus 4 = .ok (.ifCond .ne 29, 3) := by decide +kernel
theorem dX5_isMinus_7 : decode cX5_isMinus 7 = .ok (.aload_n 0, 1) := by decide +kernel
theorem dX5_isMinus_8 : decode cX5_isMinus 8 = .ok (.getfield 272, 3) := by decide +kernel
theorem dX5_isMinus_11 : decode cX5_isMinus 11 = .ok (.iconst 3, 1) := by decide +kernel
theorem dX5_isMinus_12 : decode cX5_isMinus 12 = .ok (.if_icmp .ne 21, 3) := by decide +kernel
theorem dX5_isMinus_15 : decode cX5_isMinus 15 = .ok (.aload_n 0, 1) := by decide +kernel
theorem dX5_isMinus_16 : decode cX5_isMinus 16 = .ok (.getfield 28, 3) := by decide +kernel
theorem dX5_isMinus_19 : decode cX5_isMinus 19 = .ok (.aload_n 0, 1) := by decide +kernel
theorem dX5_isMinus_20 : decode cX5_isMinus 20 = .ok (.getfield 263, 3) := by decide +kernel
theorem dX5_isMinus_23 : decode cX5_isMinus 23 = .ok (.iaload, 1) := by decide +kernel
theorem dX5_isMinus_24 : decode cX5_isMinus 24 = .ok (.bipush 45, 2) := by decide +kernel
theorem dX5_isMinus_26 : decode cX5_isMinus 26 = .ok (.if_icmp .ne 7, 3) := by decide +kernel
theorem dX5_isMinus_29 : decode cX5_isMinus 29 = .ok (.iconst 1, 1) := by decide +kernel
theorem dX5_isMinus_30 : decode cX5_isMinus 30 = .ok (.goto 4, 3) := by decide +kernel
theorem dX5_isMinus_33 : decode cX5_isMinus 33 = .ok (.iconst 0, 1) := by decide +kernel
theorem dX5_isMinus_34 : decode cX5_isMinus 34 = .ok (.istore_n 1, 1) := by decide +kernel
theorem dX5_isMinus_35 : decode cX5_isMinus 35 = .ok (.iload_n 1, 1) := by decide +kernel
theorem dX5_isMinus_36 : decode cX5_isMinus 36 = .ok (.ifCond .eq 8, 3) := by decide +kernel
theorem dX5_isMinus_39 : decode cX5_isMinus 39 = .ok (.aload_n 0, 1) := by decide +kernel
theorem dX5_isMinus_40 : decode cX5_isMinus 40 = .ok (.iconst 1, 1) := by decide +kernel
theorem dX5_isMinus_41 : decode cX5_isMinus 41 = .ok (.invokevirtual 290, 3) := by decide +kernel
theorem dX5_isMinus_44 : decode cX5_isMinus 44 = .ok (.iload_n 1, 1) := by decide +kernel
theorem dX5_isMinus_45 : decode cX5_isMinus 45 = .ok (.ireturn, 1) := by decide +kernel
theorem dX5_habitTold_0 : decode cX5_habitTold 0 = .ok (.aload_n 0, 1) := by decide +kernel
theorem dX5_habitTold_1 : decode cX5_habitTold 1 = .ok (.ldc_w 301, 3) := by decide +kernel
theorem dX5_habitTold_4 : decode cX5_habitTold 4 = .ok (.invokevirtual 303, 3) := by decide +kernel
theorem dX5_habitTold_7 : decode cX5_habitTold 7 = .ok (.ifCond .ne 5, 3) := by decide +kernel
theorem dX5_habitTold_10 : decode cX5_habitTold 10 = .ok (.iconst 0, 1) := by decide +kernel
theorem dX5_habitTold_11 : decode cX5_habitTold 11 = .ok (.ireturn, 1) := by decide +kernel
theorem dX5_habitTold_12 : decode cX5_habitTold 12 = .ok (.aload_n 0, 1) := by decide +kernel
theorem dX5_habitTold_13 : decode cX5_habitTold 13 = .ok (.invokevirtual 306, 3) := by decide +kernel
theorem dX5_habitTold_16 : decode cX5_habitTold 16 = .ok (.ifCond .eq 14, 3) := by decide +kernel
theorem dX5_habitTold_19 : decode cX5_habitTold 19 = .ok (.aload_n 0, 1) := by decide +kernel
theorem dX5_habitTold_20 : decode cX5_habitTold 20 = .ok (.iconst 0, 1) := by decide +kernel
theorem dX5_habitTold_21 : decode cX5_habitTold 21 = .ok (.bipush 15, 2) := by decide +kernel
theorem dX5_habitTold_23 : decode cX5_habitTold 23 = .ok (.invokevirtual 309, 3) := by decide +kernel
theorem dX5_habitTold_26 : decode cX5_habitTold 26 = .ok (.ineg, 1) := by decide +kernel
theorem dX5_habitTold_27 : decode cX5_habitTold 27 = .ok (.goto 10, 3) := by decide +kernel
theorem dX5_habitTold_30 : decode cX5_habitTold 30 = .ok (.aload_n 0, 1) := by decide +kernel
theorem dX5_habitTold_31 : decode cX5_habitTold 31 = .ok (.iconst 0, 1) := by decide +kernel
theorem dX5_habitTold_32 : decode cX5_habitTold 32 = .ok (.bipush 15, 2) := by decide +kernel
theorem dX5_habitTold_34 : decode cX5_habitTold 34 = .ok (.invokevirtual 309, 3) := by decide +kernel
theorem dX5_habitTold_37 : decode cX5_habitTold 37 = .ok (.ireturn, 1) := by decide +kernel
theorem dX5_shipTold_0 : decode cX5_shipTold 0 = .ok (.aload_n 0, 1) := by decide +kernel
theorem dX5_shipTold_1 : decode cX5_shipTold 1 = .ok (.iconst 0, 1) := by decide +kernel
theorem dX5_shipTold_2 : decode cX5_shipTold 2 = .ok (.iconst 3, 1) := by decide +kernel
theorem dX5_shipTold_3 : decode cX5_shipTold 3 = .ok (.invokevirtual 309, 3) := by decide +kernel
theorem dX5_shipTold_6 : decode cX5_shipTold 6 = .ok (.istore_n 1, 1) := by decide +kernel
theorem dX5_shipTold_7 : decode cX5_shipTold 7 = .ok (.aload_n 0, 1) := by decide +kernel
theorem dX5_shipTold_8 : decode cX5_shipTold 8 = .ok (.ldc_w 312, 3) := by decide +kernel
theorem dX5_shipTold_11 : decode cX5_shipTold 11 = .ok (.invokevirtual 303, 3) := by decide +kernel
theorem dX5_shipTold_14 : decode cX5_shipTold 14 = .ok (.ifCond .eq 23, 3) := by decide +kernel
theorem dX5_shipTold_17 : decode cX5_shipTold 17 = .ok (.aload_n 0, 1) := by decide +kernel
theorem dX5_shipTold_18 : decode cX5_shipTold 18 = .ok (.bipush 20, 2) := by decide +kernel
theorem dX5_shipTold_20 : decode cX5_shipTold 20 = .ok (.iload_n 1, 1) := by decide +kernel
theorem dX5_shipTold_21 : decode cX5_shipTold 21 = .ok (.iconst 0, 1) := by decide +kernel
theorem dX5_shipTold_22 : decode cX5_shipTold 22 = .ok (.invokestatic 79, 3) := by decide +kernel
theorem dX5_shipTold_25 : decode cX5_shipTold 25 = .ok (.iadd, 1) := by decide +kernel
theorem dX5_shipTold_26 : decode cX5_shipTold 26 = .ok (.aload_n 0, 1) := by decide +kernel
theorem dX5_shipTold_27 : decode cX5_shipTold 27 = .ok (.iconst 0, 1) := by decide +kernel
theorem dX5_shipTold_28 : decode cX5_shipTold 28 = .ok (.bipush 99, 2) := by decide +kernel
theorem dX5_shipTold_30 : decode cX5_shipTold 30 = .ok (.invokevirtual 309, 3) := by decide +kernel
theorem dX5_shipTold_33 : decode cX5_shipTold 33 = .ok (.iconst 0, 1) := by decide +kernel
theorem dX5_shipTold_34 : decode cX5_shipTold 34 = .ok (.invokevirtual 313, 3) := by decide +kernel
theorem dX5_shipTold_37 : decode cX5_shipTold 37 = .ok (.aload_n 0, 1) := by decide +kernel
theorem dX5_shipTold_38 : decode cX5_shipTold 38 = .ok (.ldc_w 317, 3) := by decide +kernel
theorem dX5_shipTold_41 : decode cX5_shipTold 41 = .ok (.invokevirtual 303, 3) := by decide +kernel
theorem dX5_shipTold_44 : decode cX5_shipTold 44 = .ok (.ifCond .eq 23, 3) := by decide +kernel
theorem dX5_shipTold_47 : decode cX5_shipTold 47 = .ok (.aload_n 0, 1) := by decide +kernel
theorem dX5_shipTold_48 : decode cX5_shipTold 48 = .ok (.bipush 20, 2) := by decide +kernel
theorem dX5_shipTold_50 : decode cX5_shipTold 50 = .ok (.iload_n 1, 1) := by decide +kernel
theorem dX5_shipTold_51 : decode cX5_shipTold 51 = .ok (.iconst 1, 1) := by decide +kernel
theorem dX5_shipTold_52 : decode cX5_shipTold 52 = .ok (.invokestatic 79, 3) := by decide +kernel
theorem dX5_shipTold_55 : decode cX5_shipTold 55 = .ok (.iadd, 1) := by decide +kernel
theorem dX5_shipTold_56 : decode cX5_shipTold 56 = .ok (.aload_n 0, 1) := by decide +kernel
theorem dX5_shipTold_57 : decode cX5_shipTold 57 = .ok (.iconst 0, 1) := by decide +kernel
theorem dX5_shipTold_58 : decode cX5_shipTold 58 = .ok (.bipush 31, 2) := by decide +kernel
theorem dX5_shipTold_60 : decode cX5_shipTold 60 = .ok (.invokevirtual 309, 3) := by decide +kernel
theorem dX5_shipTold_63 : decode cX5_shipTold 63 = .ok (.iconst 0, 1) := by decide +kernel
theorem dX5_shipTold_64 : decode cX5_shipTold 64 = .ok (.invokevirtual 313, 3) := by decide +kernel
theorem dX5_shipTold_67 : decode cX5_shipTold 67 = .ok (.aload_n 0, 1) := by decide +kernel
theorem dX5_shipTold_68 : decode cX5_shipTold 68 = .ok (.ldc_w 319, 3) := by decide +kernel
theorem dX5_shipTold_71 : decode cX5_shipTold 71 = .ok (.invokevirtual 303, 3) := by decide +kernel
theorem dX5_shipTold_74 : decode cX5_shipTold 74 = .ok (.ifCond .eq 29, 3) := by decide +kernel
theorem dX5_shipTold_77 : decode cX5_shipTold 77 = .ok (.aload_n 0, 1) := by decide +kernel
theorem dX5_shipTold_78 : decode cX5_shipTold 78 = .ok (.bipush 20, 2) := by decide +kernel
theorem dX5_shipTold_80 : decode cX5_shipTold 80 = .ok (.iload_n 1, 1) := by decide +kernel
theorem dX5_shipTold_81 : decode cX5_shipTold 81 = .ok (.iconst 2, 1) := by decide +kernel
theorem dX5_shipTold_82 : decode cX5_shipTold 82 = .ok (.invokestatic 79, 3) := by decide +kernel
theorem dX5_shipTold_85 : decode cX5_shipTold 85 = .ok (.iadd, 1) := by decide +kernel
theorem dX5_shipTold_86 : decode cX5_shipTold 86 = .ok (.aload_n 0, 1) := by decide +kernel
theorem dX5_shipTold_87 : decode cX5_shipTold 87 = .ok (.iconst 0, 1) := by decide +kernel
theorem dX5_shipTold_88 : decode cX5_shipTold 88 = .ok (.iconst 1, 1) := by decide +kernel
theorem dX5_shipTold_89 : decode cX5_shipTold 89 = .ok (.aload_n 0, 1) := by decide +kernel
theorem dX5_shipTold_90 : decode cX5_shipTold 90 = .ok (.getfield 321, 3) := by decide +kernel
theorem dX5_shipTold_93 : decode cX5_shipTold 93 = .ok (.ishl, 1) := by decide +kernel
theorem dX5_shipTold_94 : decode cX5_shipTold 94 = .ok (.iconst 1, 1) := by decide +kernel
theorem dX5_shipTold_95 : decode cX5_shipTold 95 = .ok (.isub, 1) := by decide +kernel
theorem dX5_shipTold_96 : decode cX5_shipTold 96 = .ok (.invokevirtual 309, 3) := by decide +kernel
theorem dX5_shipTold_99 : decode cX5_shipTold 99 = .ok (.iconst 0, 1) := by decide +kernel
theorem dX5_shipTold_100 : decode cX5_shipTold 100 = .ok (.invokevirtual 313, 3) := by decide +kernel
theorem dX5_shipTold_103 : decode cX5_shipTold 103 = .ok (.return_, 1) := by decide +kernel
theorem dX5_readItem_0 : decode cX5_readItem 0 = .ok (.aload_n 0, 1) := by decide +kernel
theorem dX5_readItem_1 : decode cX5_readItem 1 = .ok (.invokevirtual 324, 3) := by decide +kernel
theorem dX5_readItem_4 : decode cX5_readItem 4 = .ok (.istore_n 1, 1) := by decide +kernel
theorem dX5_readItem_5 : decode cX5_readItem 5 = .ok (.aload_n 0, 1) := by decide +kernel
theorem dX5_readItem_6 : decode cX5_readItem 6 = .ok (.dup, 1) := by decide +kernel
theorem dX5_readItem_7 : decode cX5_readItem 7 = .ok (.getfield 327, 3) := by decide +kernel
theorem dX5_readItem_10 : decode cX5_readItem 10 = .ok (.iconst 1, 1) := by decide +kernel
theorem dX5_readItem_11 : decode cX5_readItem 11 = .ok (.iadd, 1) := by decide +kernel
theorem dX5_readItem_12 : decode cX5_readItem 12 = .ok (.putfield 327, 3) := by decide +kernel
theorem dX5_readItem_15 : decode cX5_readItem 15 = .ok (.iload_n 1, 1) := by decide +kernel
theorem dX5_readItem_16 : decode cX5_readItem 16 = .ok (.ifCond .lt 66, 3) := by decide +kernel
theorem dX5_readItem_19 : decode cX5_readItem 19 = .ok (.aload_n 0, 1) := by decide +kernel
theorem dX5_readItem_20 : decode cX5_readItem 20 = .ok (.aload_n 0, 1) := by decide +kernel
theorem dX5_readItem_21 : decode cX5_readItem 21 = .ok (.getfield 321, 3) := by decide +kernel
theorem dX5_readItem_24 : decode cX5_readItem 24 = .ok (.bipush 8, 2) := by decide +kernel
theorem dX5_readItem_26 : decode cX5_readItem 26 = .ok (.if_icmp .ge 7, 3) := by decide +kernel
theorem dX5_readItem_29 : decode cX5_readItem 29 = .ok (.iconst 1, 1) := by decide +kernel
theorem dX5_readItem_30 : decode cX5_readItem 30 = .ok (.goto 4, 3) := by decide +kernel
theorem dX5_readItem_33 : decode cX5_readItem 33 = .ok (.iconst 0, 1) := by decide +kernel
theorem dX5_readItem_34 : decode cX5_readItem 34 = .ok (.invokevirtual 290, 3) := by decide +kernel
theorem dX5_readItem_37 : decode cX5_readItem 37 = .ok (.aload_n 0, 1) := by decide +kernel
theorem dX5_readItem_38 : decode cX5_readItem 38 = .ok (.dup, 1) := by decide +kernel
theorem dX5_readItem_39 : decode cX5_readItem 39 = .ok (.getfield 321, 3) := by decide +kernel
theorem dX5_readItem_42 : decode cX5_readItem 42 = .ok (.iconst 1, 1) := by decide +kernel
theorem dX5_readItem_43 : decode cX5_readItem 43 = .ok (.iadd, 1) := by decide +kernel
theorem dX5_readItem_44 : decode cX5_readItem 44 = .ok (.putfield 321, 3) := by decide +kernel
theorem dX5_readItem_47 : decode cX5_readItem 47 = .ok (.aload_n 0, 1) := by decide +kernel
theorem dX5_readItem_48 : decode cX5_readItem 48 = .ok (.ldc_w 330, 3) := by decide +kernel
theorem dX5_readItem_51 : decode cX5_readItem 51 = .ok (.invokevirtual 303, 3) := by decide +kernel
theorem dX5_readItem_54 : decode cX5_readItem 54 = .ok (.ifCond .eq 13, 3) := by decide +kernel
theorem dX5_readItem_57 : decode cX5_readItem 57 = .ok (.aload_n 0, 1) := by decide +kernel
theorem dX5_readItem_58 : decode cX5_readItem 58 = .ok (.iconst 0, 1) := by decide +kernel
theorem dX5_readItem_59 : decode cX5_readItem 59 = .ok (.bipush 99, 2) := by decide +kernel
theorem dX5_readItem_61 : decode cX5_readItem 61 = .ok (.invokevirtual 309, 3) := by decide +kernel
theorem dX5_readItem_64 : decode cX5_readItem 64 = .ok (.goto 4, 3) := by decide +kernel
theorem dX5_readItem_67 : decode cX5_readItem 67 = .ok (.iconst 0, 1) := by decide +kernel
theorem dX5_readItem_68 : decode cX5_readItem 68 = .ok (.istore_n 2, 1) := by decide +kernel
theorem dX5_readItem_69 : decode cX5_readItem 69 = .ok (.aload_n 0, 1) := by decide +kernel
theorem dX5_readItem_70 : decode cX5_readItem 70 = .ok (.iload_n 1, 1) := by decide +kernel
theorem dX5_readItem_71 : decode cX5_readItem 71 = .ok (.iload_n 2, 1) := by decide +kernel
theorem dX5_readItem_72 : decode cX5_readItem 72 = .ok (.aload_n 0, 1) := by decide +kernel
theorem dX5_readItem_73 : decode cX5_readItem 73 = .ok (.invokevirtual 332, 3) := by decide +kernel
theorem dX5_readItem_76 : decode cX5_readItem 76 = .ok (.invokevirtual 313, 3) := by decide +kernel
theorem dX5_readItem_79 : decode cX5_readItem 79 = .ok (.goto 127, 3) := by decide +kernel
theorem dX5_readItem_82 : decode cX5_readItem 82 = .ok (.aload_n 0, 1) := by decide +kernel
theorem dX5_readItem_83 : decode cX5_readItem 83 = .ok (.ldc_w 335, 3) := by decide +kernel
theorem dX5_readItem_86 : decode cX5_readItem 86 = .ok (.invokevirtual 303, 3) := by decide +kernel
theorem dX5_readItem_89 : decode cX5_readItem 89 = .ok (.ifCond .eq 20, 3) := by decide +kernel
theorem dX5_readItem_92 : decode cX5_readItem 92 = .ok (.aload_n 0, 1) := by decide +kernel
theorem dX5_readItem_93 : decode cX5_readItem 93 = .ok (.bipush 10, 2) := by decide +kernel
theorem dX5_readItem_95 : decode cX5_readItem 95 = .ok (.aload_n 0, 1) := by decide +kernel
theorem dX5_readItem_96 : decode cX5_readItem 96 = .ok (.iconst 0, 1) := by decide +kernel
theorem dX5_readItem_97 : decode cX5_readItem 97 = .ok (.bipush 99, 2) := by decide +kernel
theorem dX5_readItem_99 : decode cX5_readItem 99 = .ok (.invokevirtual 309, 3) := by decide +kernel
theorem dX5_readItem_102 : decode cX5_readItem 102 = .ok (.iconst 0, 1) := by decide +kernel
theorem dX5_readItem_103 : decode cX5_readItem 103 = .ok (.invokevirtual 313, 3) := by decide +kernel
theorem dX5_readItem_106 : decode cX5_readItem 106 = .ok (.goto 100, 3) := by decide +kernel
theorem dX5_readItem_109 : decode cX5_readItem 109 = .ok (.aload_n 0, 1) := by decide +kernel
theorem dX5_readItem_110 : decode cX5_readItem 110 = .ok (.ldc_w 337, 3) := by decide +kernel
theorem dX5_readItem_113 : decode cX5_readItem 113 = .ok (.invokevirtual 303, 3) := by decide +kernel
theorem dX5_readItem_116 : decode cX5_readItem 116 = .ok (.ifCond .eq 10, 3) := by decide +kernel
theorem dX5_readItem_119 : decode cX5_readItem 119 = .ok (.aload_n 0, 1) := by decide +kernel
theorem dX5_readItem_120 : decode cX5_readItem 120 = .ok (.invokevirtual 339, 3) := by decide +kernel
theorem dX5_readItem_123 : decode cX5_readItem 123 = .ok (.goto 83, 3) := by decide +kernel
theorem dX5_readItem_126 : decode cX5_readItem 126 = .ok (.aload_n 0, 1) := by decide +kernel
theorem dX5_readItem_127 : decode cX5_readItem 127 = .ok (.ldc_w 342, 3) := by decide +kernel
theorem dX5_readItem_130 : decode cX5_readItem 130 = .ok (.invokevirtual 303, 3) := by decide +kernel
theorem dX5_readItem_133 : decode cX5_readItem 133 = .ok (.ifCond .eq 20, 3) := by decide +kernel
theorem dX5_readItem_136 : decode cX5_readItem 136 = .ok (.aload_n 0, 1) := by decide +kernel
theorem dX5_readItem_137 : decode cX5_readItem 137 = .ok (.bipush 22, 2) := by decide +kernel
theorem dX5_readItem_139 : decode cX5_readItem 139 = .ok (.aload_n 0, 1) := by decide +kernel
theorem dX5_readItem_140 : decode cX5_readItem 140 = .ok (.iconst 0, 1) := by decide +kernel
theorem dX5_readItem_141 : decode cX5_readItem 141 = .ok (.bipush 7, 2) := by decide +kernel
theorem dX5_readItem_143 : decode cX5_readItem 143 = .ok (.invokevirtual 309, 3) := by decide +kernel
theorem dX5_readItem_146 : decode cX5_readItem 146 = .ok (.iconst 0, 1) := by decide +kernel
theorem dX5_readItem_147 : decode cX5_readItem 147 = .ok (.invokevirtual 313, 3) := by decide +kernel
theorem dX5_readItem_150 : decode cX5_readItem 150 = .ok (.goto 56, 3) := by decide +kernel
theorem dX5_readItem_153 : decode cX5_readItem 153 = .ok (.aload_n 0, 1) := by decide +kernel
theorem dX5_readItem_154 : decode cX5_readItem 154 = .ok (.ldc_w 344, 3) := by decide +kernel
theorem dX5_readItem_157 : decode cX5_readItem 157 = .ok (.invokevirtual 303, 3) := by decide +kernel
theorem dX5_readItem_160 : decode cX5_readItem 160 = .ok (.ifCond .eq 20, 3) := by decide +kernel
theorem dX5_readItem_163 : decode cX5_readItem 163 = .ok (.aload_n 0, 1) := by decide +kernel
theorem dX5_readItem_164 : decode cX5_readItem 164 = .ok (.bipush 23, 2) := by decide +kernel
theorem dX5_readItem_166 : decode cX5_readItem 166 = .ok (.aload_n 0, 1) := by decide +kernel
theorem dX5_readItem_167 : decode cX5_readItem 167 = .ok (.iconst 0, 1) := by decide +kernel
theorem dX5_readItem_168 : decode cX5_readItem 168 = .ok (.ldc 150, 2) := by decide +kernel
theorem dX5_readItem_170 : decode cX5_readItem 170 = .ok (.invokevirtual 309, 3) := by decide +kernel
theorem dX5_readItem_173 : decode cX5_readItem 173 = .ok (.iconst 0, 1) := by decide +kernel
theorem dX5_readItem_174 : decode cX5_readItem 174 = .ok (.invokevirtual 313, 3) := by decide +kernel
theorem dX5_readItem_177 : decode cX5_readItem 177 = .ok (.goto 29, 3) := by decide +kernel
theorem dX5_readItem_180 : decode cX5_readItem 180 = .ok (.aload_n 0, 1) := by decide +kernel
theorem dX5_readItem_181 : decode cX5_readItem 181 = .ok (.aload_n 0, 1) := by decide +kernel
theorem dX5_readItem_182 : decode cX5_readItem 182 = .ok (.ldc_w 346, 3) := by decide +kernel
theorem dX5_readItem_185 : decode cX5_readItem 185 = .ok (.invokevirtual 297, 3) := by decide +kernel
theorem dX5_readItem_188 : decode cX5_readItem 188 = .ok (.invokevirtual 290, 3) := by decide +kernel
theorem dX5_readItem_191 : decode cX5_readItem 191 = .ok (.aload_n 0, 1) := by decide +kernel
theorem dX5_readItem_192 : decode cX5_readItem 192 = .ok (.bipush 21, 2) := by decide +kernel
theorem dX5_readItem_194 : decode cX5_readItem 194 = .ok (.aload_n 0, 1) := by decide +kernel
theorem dX5_readItem_195 : decode cX5_readItem 195 = .ok (.iconst 0, 1) := by decide +kernel
theorem dX5_readItem_196 : decode cX5_readItem 196 = .ok (.sipush 9999, 3) := by decide +kernel
theorem dX5_readItem_199 : decode cX5_readItem 199 = .ok (.invokevirtual 309, 3) := by decide +kernel
theorem dX5_readItem_202 : decode cX5_readItem 202 = .ok (.iconst 0, 1) := by decide +kernel
theorem dX5_readItem_203 : decode cX5_readItem 203 = .ok (.invokevirtual 313, 3) := by decide +kernel
theorem dX5_readItem_206 : decode cX5_readItem 206 = .ok (.return_, 1) := by decide +kernel
theorem dX5_isSo_0 : decode cX5_isSo 0 = .ok (.aload_n 0, 1) := by decide +kernel
theorem dX5_isSo_1 : decode cX5_isSo 1 = .ok (.getfield 51, 3) := by decide +kernel
theorem dX5_isSo_4 : decode cX5_isSo 4 = .ok (.iload_n 1, 1) := by decide +kernel
theorem dX5_isSo_5 : decode cX5_isSo 5 = .ok (.iaload, 1) := by decide +kernel
theorem dX5_isSo_6 : decode cX5_isSo 6 = .ok (.istore_n 2, 1) := by decide +kernel
theorem dX5_isSo_7 : decode cX5_isSo 7 = .ok (.aload_n 0, 1) := by decide +kernel
theorem dX5_isSo_8 : decode cX5_isSo 8 = .ok (.getfield 51, 3) := by decide +kernel
theorem dX5_isSo_11 : decode cX5_isSo 11 = .ok (.iload_n 1, 1) := by decide +kernel
theorem dX5_isSo_12 : decode cX5_isSo 12 = .ok (.iconst 1, 1) := by decide +kernel
theorem dX5_isSo_13 : decode cX5_isSo 13 = .ok (.iadd, 1) := by decide +kernel
theorem dX5_isSo_14 : decode cX5_isSo 14 = .ok (.iaload, 1) := by decide +kernel
theorem dX5_isSo_15 : decode cX5_isSo 15 = .ok (.istore_n 3, 1) := by decide +kernel
theorem dX5_isSo_16 : decode cX5_isSo 16 = .ok (.iload_n 2, 1) := by decide +kernel
theorem dX5_isSo_17 : decode cX5_isSo 17 = .ok (.bipush 20, 2) := by decide +kernel
theorem dX5_isSo_19 : decode cX5_isSo 19 = .ok (.if_icmp .lt 15, 3) := by decide +kernel
theorem dX5_isSo_22 : decode cX5_isSo 22 = .ok (.aload_n 0, 1) := by decide +kernel
theorem dX5_isSo_23 : decode cX5_isSo 23 = .ok (.iload_n 2, 1) := by decide +kernel
theorem dX5_isSo_24 : decode cX5_isSo 24 = .ok (.bipush 20, 2) := by decide +kernel
theorem dX5_isSo_26 : decode cX5_isSo 26 = .ok (.isub, 1) := by decide +kernel
theorem dX5_isSo_27 : decode cX5_isSo 27 = .ok (.iload_n 3, 1) := by decide +kernel
theorem dX5_isSo_28 : decode cX5_isSo 28 = .ok (.invokevirtual 111, 3) := by decide +kernel
theorem dX5_isSo_31 : decode cX5_isSo 31 = .ok (.goto 35, 3) := by decide +kernel
theorem dX5_isSo_34 : decode cX5_isSo 34 = .ok (.iload_n 2, 1) := by decide +kernel
theorem dX5_isSo_35 : decode cX5_isSo 35 = .ok (.bipush 10, 2) := by decide +kernel
theorem dX5_isSo_37 : decode cX5_isSo 37 = .ok (.if_icmp .ne 15, 3) := by decide +kernel
theorem dX5_isSo_40 : decode cX5_isSo 40 = .ok (.aload_n 0, 1) := by decide +kernel
theorem dX5_isSo_41 : decode cX5_isSo 41 = .ok (.bipush 16, 2) := by decide +kernel
theorem dX5_isSo_43 : decode cX5_isSo 43 = .ok (.iload_n 3, 1) := by decide +kernel
theorem dX5_isSo_44 : decode cX5_isSo 44 = .ok (.iadd, 1) := by decide +kernel
theorem dX5_isSo_45 : decode cX5_isSo 45 = .ok (.iconst 1, 1) := by decide +kernel
theorem dX5_isSo_46 : decode cX5_isSo 46 = .ok (.invokevirtual 111, 3) := by decide +kernel
theorem dX5_isSo_49 : decode cX5_isSo 49 = .ok (.goto 17, 3) := by decide +kernel
theorem dX5_isSo_52 : decode cX5_isSo 52 = .ok (.aload_n 0, 1) := by decide +kernel
theorem dX5_isSo_53 : decode cX5_isSo 53 = .ok (.iload_n 2, 1) := by decide +kernel
theorem dX5_isSo_54 : decode cX5_isSo 54 = .ok (.iload_n 3, 1) := by decide +kernel
theorem dX5_isSo_55 : decode cX5_isSo 55 = .ok (.aload_n 0, 1) := by decide +kernel
theorem dX5_isSo_56 : decode cX5_isSo 56 = .ok (.getfield 51, 3) := by decide +kernel
theorem dX5_isSo_59 : decode cX5_isSo 59 = .ok (.iload_n 1, 1) := by decide +kernel
theorem dX5_isSo_60 : decode cX5_isSo 60 = .ok (.iconst 2, 1) := by decide +kernel
theorem dX5_isSo_61 : decode cX5_isSo 61 = .ok (.iadd, 1) := by decide +kernel
theorem dX5_isSo_62 : decode cX5_isSo 62 = .ok (.iaload, 1) := by decide +kernel
theorem dX5_isSo_63 : decode cX5_isSo 63 = .ok (.invokevirtual 91, 3) := by decide +kernel
theorem dX5_isSo_66 : decode cX5_isSo 66 = .ok (.ireturn, 1) := by decide +kernel
theorem dX5_text_0 : decode cX5_text 0 = .ok (.aload_n 0, 1) := by decide +kernel
theorem dX5_text_1 : decode cX5_text 1 = .ok (.iconst 0, 1) := by decide +kernel
theorem dX5_text_2 : decode cX5_text 2 = .ok (.putfield 260, 3) := by decide +kernel
theorem dX5_text_5 : decode cX5_text 5 = .ok (.aload_n 0, 1) := by decide +kernel
theorem dX5_text_6 : decode cX5_text 6 = .ok (.iconst 0, 1) := by decide +kernel
theorem dX5_text_7 : decode cX5_text 7 = .ok (.putfield 283, 3) := by decide +kernel
theorem dX5_text_10 : decode cX5_text 10 = .ok (.aload_n 0, 1) := by decide +kernel
theorem dX5_text_11 : decode cX5_text 11 = .ok (.iconst 0, 1) := by decide +kernel
theorem dX5_text_12 : decode cX5_text 12 = .ok (.putfield 294, 3) := by decide +kernel
theorem dX5_text_15 : decode cX5_text 15 = .ok (.aload_n 0, 1) := by decide +kernel
theorem dX5_text_16 : decode cX5_text 16 = .ok (.iconst 0, 1) := by decide +kernel
theorem dX5_text_17 : decode cX5_text 17 = .ok (.putfield 327, 3) := by decide +kernel
theorem dX5_text_20 : decode cX5_text 20 = .ok (.aload_n 0, 1) := by decide +kernel
theorem dX5_text_21 : decode cX5_text 21 = .ok (.aload_n 0, 1) := by decide +kernel
theorem dX5_text_22 : decode cX5_text 22 = .ok (.getfield 9, 3) := by decide +kernel
theorem dX5_text_25 : decode cX5_text 25 = .ok (.iconst 4, 1) := by decide +kernel
theorem dX5_text_26 : decode cX5_text 26 = .ok (.iaload, 1) := by decide +kernel
theorem dX5_text_27 : decode cX5_text 27 = .ok (.putfield 321, 3) := by decide +kernel
theorem dX5_text_30 : decode cX5_text 30 = .ok (.aload_n 0, 1) := by decide +kernel
theorem dX5_text_31 : decode cX5_text 31 = .ok (.invokevirtual 287, 3) := by decide +kernel
theorem dX5_text_34 : decode cX5_text 34 = .ok (.aload_n 0, 1) := by decide +kernel
theorem dX5_text_35 : decode cX5_text 35 = .ok (.invokevirtual 348, 3) := by decide +kernel
theorem dX5_text_38 : decode cX5_text 38 = .ok (.aload_n 0, 1) := by decide +kernel
theorem dX5_text_39 : decode cX5_text 39 = .ok (.getfield 283, 3) := by decide +kernel
theorem dX5_text_42 : decode cX5_text 42 = .ok (.ifCond .ne 37, 3) := by decide +kernel
theorem dX5_text_45 : decode cX5_text 45 = .ok (.aload_n 0, 1) := by decide +kernel
theorem dX5_text_46 : decode cX5_text 46 = .ok (.getfield 272, 3) := by decide +kernel
theorem dX5_text_49 : decode cX5_text 49 = .ok (.iconst 3, 1) := by decide +kernel
theorem dX5_text_50 : decode cX5_text 50 = .ok (.if_icmp .ne 29, 3) := by decide +kernel
theorem dX5_text_53 : decode cX5_text 53 = .ok (.aload_n 0, 1) := by decide +kernel
theorem dX5_text_54 : decode cX5_text 54 = .ok (.getfield 28, 3) := by decide +kernel
theorem dX5_text_57 : decode cX5_text 57 = .ok (.aload_n 0, 1) := by decide +kernel
theorem dX5_text_58 : decode cX5_text 58 = .ok (.getfield 263, 3) := by decide +kernel
theorem dX5_text_61 : decode cX5_text 61 = .ok (.iaload, 1) := by decide +kernel
theorem dX5_text_62 : decode cX5_text 62 = .ok (.bipush 59, 2) := by decide +kernel
theorem dX5_text_64 : decode cX5_text 64 = .ok (.if_icmp .ne 15, 3) := by decide +kernel
theorem dX5_text_67 : decode cX5_text 67 = .ok (.aload_n 0, 1) := by decide +kernel
theorem dX5_text_68 : decode cX5_text 68 = .ok (.iconst 1, 1) := by decide +kernel
theorem dX5_text_69 : decode cX5_text 69 = .ok (.invokevirtual 290, 3) := by decide +kernel
theorem dX5_text_72 : decode cX5_text 72 = .ok (.aload_n 0, 1) := by decide +kernel
theorem dX5_text_73 : decode cX5_text 73 = .ok (.invokevirtual 348, 3) := by decide +kernel
theorem dX5_text_76 : decode cX5_text 76 = .ok (.goto (-38), 3) := by decide +kernel
theorem dX5_text_79 : decode cX5_text 79 = .ok (.aload_n 0, 1) := by decide +kernel
theorem dX5_text_80 : decode cX5_text 80 = .ok (.aload_n 0, 1) := by decide +kernel
theorem dX5_text_81 : decode cX5_text 81 = .ok (.getfield 272, 3) := by decide +kernel
theorem dX5_text_84 : decode cX5_text 84 = .ok (.ifCond .ne 7, 3) := by decide +kernel
theorem dX5_text_87 : decode cX5_text 87 = .ok (.iconst 1, 1) := by decide +kernel
theorem dX5_text_88 : decode cX5_text 88 = .ok (.goto 4, 3) := by decide +kernel
theorem dX5_text_91 : decode cX5_text 91 = .ok (.iconst 0, 1) := by decide +kernel
theorem dX5_text_92 : decode cX5_text 92 = .ok (.invokevirtual 290, 3) := by decide +kernel
theorem dX5_text_95 : decode cX5_text 95 = .ok (.aload_n 0, 1) := by decide +kernel
theorem dX5_text_96 : decode cX5_text 96 = .ok (.iconst 0, 1) := by decide +kernel
theorem dX5_text_97 : decode cX5_text 97 = .ok (.putfield 257, 3) := by decide +kernel
theorem dX5_text_100 : decode cX5_text 100 = .ok (.aload_n 0, 1) := by decide +kernel
theorem dX5_text_101 : decode cX5_text 101 = .ok (.getfield 283, 3) := by decide +kernel
theorem dX5_text_104 : decode cX5_text 104 = .ok (.ifCond .eq 10, 3) := by decide +kernel
theorem dX5_text_107 : decode cX5_text 107 = .ok (.iconst (-1), 1) := by decide +kernel
theorem dX5_text_108 : decode cX5_text 108 = .ok (.aload_n 0, 1) := by decide +kernel
theorem dX5_text_109 : decode cX5_text 109 = .ok (.getfield 263, 3) := by decide +kernel
theorem dX5_text_112 : decode cX5_text 112 = .ok (.isub, 1) := by decide +kernel
theorem dX5_text_113 : decode cX5_text 113 = .ok (.ireturn, 1) := by decide +kernel
theorem dX5_text_114 : decode cX5_text 114 = .ok (.iconst 0, 1) := by decide +kernel
theorem dX5_text_115 : decode cX5_text 115 = .ok (.istore_n 1, 1) := by decide +kernel
theorem dX5_text_116 : decode cX5_text 116 = .ok (.iconst 0, 1) := by decide +kernel
theorem dX5_text_117 : decode cX5_text 117 = .ok (.istore_n 2, 1) := by decide +kernel
theorem dX5_text_118 : decode cX5_text 118 = .ok (.iload_n 2, 1) := by decide +kernel
theorem dX5_text_119 : decode cX5_text 119 = .ok (.aload_n 0, 1) := by decide +kernel
theorem dX5_text_120 : decode cX5_text 120 = .ok (.getfield 294, 3) := by decide +kernel
theorem dX5_text_123 : decode cX5_text 123 = .ok (.if_icmp .ge 17, 3) := by decide +kernel
theorem dX5_text_126 : decode cX5_text 126 = .ok (.aload_n 0, 1) := by decide +kernel
theorem dX5_text_127 : decode cX5_text 127 = .ok (.iconst 3, 1) := by decide +kernel
theorem dX5_text_128 : decode cX5_text 128 = .ok (.iload_n 2, 1) := by decide +kernel
theorem dX5_text_129 : decode cX5_text 129 = .ok (.imul, 1) := by decide +kernel
theorem dX5_text_130 : decode cX5_text 130 = .ok (.invokevirtual 351, 3) := by decide +kernel
theorem dX5_text_133 : decode cX5_text 133 = .ok (.istore_n 1, 1) := by decide +kernel
theorem dX5_text_134 : decode cX5_text 134 = .ok (.iinc 2 1, 3) := by decide +kernel
theorem dX5_text_137 : decode cX5_text 137 = .ok (.goto (-19), 3) := by decide +kernel
theorem dX5_text_140 : decode cX5_text 140 = .ok (.iload_n 1, 1) := by decide +kernel
theorem dX5_text_141 : decode cX5_text 141 = .ok (.bipush (-15), 2) := by decide +kernel
theorem dX5_text_143 : decode cX5_text 143 = .ok (.if_icmp .ge 7, 3) := by decide +kernel
theorem dX5_text_146 : decode cX5_text 146 = .ok (.iload_n 1, 1) := by decide +kernel
theorem dX5_text_147 : decode cX5_text 147 = .ok (.goto 7, 3) := by decide +kernel
theorem dX5_text_150 : decode cX5_text 150 = .ok (.aload_n 0, 1) := by decide +kernel
theorem dX5_text_151 : decode cX5_text 151 = .ok (.getfield 327, 3) := by decide +kernel
theorem dX5_text_154 : decode cX5_text 154 = .ok (.ireturn, 1) := by decide +kernel
theorem dX5_isSpot_0 : decode cX5_isSpot 0 = .ok (.iload_n 0, 1) := by decide +kernel
theorem dX5_isSpot_1 : decode cX5_isSpot 1 = .ok (.iconst 0, 1) := by decide +kernel
theorem dX5_isSpot_2 : decode cX5_isSpot 2 = .ok (.bipush 9, 2) := by decide +kernel
theorem dX5_isSpot_4 : decode cX5_isSpot 4 = .ok (.invokestatic 71, 3) := by decide +kernel
theorem dX5_isSpot_7 : decode cX5_isSpot 7 = .ok (.ireturn, 1) := by decide +kernel
theorem dX5_hold_0 : decode cX5_hold 0 = .ok (.iload_n 1, 1) := by decide +kernel
theorem dX5_hold_1 : decode cX5_hold 1 = .ok (.invokestatic 354, 3) := by decide +kernel
theorem dX5_hold_4 : decode cX5_hold 4 = .ok (.ifCond .eq 16, 3) := by decide +kernel
theorem dX5_hold_7 : decode cX5_hold 7 = .ok (.iload_n 2, 1) := by decide +kernel
theorem dX5_hold_8 : decode cX5_hold 8 = .ok (.iconst (-1), 1) := by decide +kernel
theorem dX5_hold_9 : decode cX5_hold 9 = .ok (.if_icmp .eq 18, 3) := by decide +kernel
theorem dX5_hold_12 : decode cX5_hold 12 = .ok (.aload_n 0, 1) := by decide +kernel
theorem dX5_hold_13 : decode cX5_hold 13 = .ok (.iload_n 2, 1) := by decide +kernel
theorem dX5_hold_14 : decode cX5_hold 14 = .ok (.invokevirtual 105, 3) := by decide +kernel
theorem dX5_hold_17 : decode cX5_hold 17 = .ok (.ifCond .ne 10, 3) := by decide +kernel
theorem dX5_hold_20 : decode cX5_hold 20 = .ok (.aload_n 0, 1) := by decide +kernel
theorem dX5_hold_21 : decode cX5_hold 21 = .ok (.ldc 66, 2) := by decide +kernel
theorem dX5_hold_23 : decode cX5_hold 23 = .ok (.invokevirtual 86, 3) := by decide +kernel
theorem dX5_hold_26 : decode cX5_hold 26 = .ok (.ireturn, 1) := by decide +kernel
theorem dX5_hold_27 : decode cX5_hold 27 = .ok (.aload_n 0, 1) := by decide +kernel
theorem dX5_hold_28 : decode cX5_hold 28 = .ok (.getfield 9, 3) := by decide +kernel
theorem dX5_hold_31 : decode cX5_hold 31 = .ok (.bipush 6, 2) := by decide +kernel
theorem dX5_hold_33 : decode cX5_hold 33 = .ok (.iload_n 1, 1) := by decide +kernel
theorem dX5_hold_34 : decode cX5_hold 34 = .ok (.iadd, 1) := by decide +kernel
theorem dX5_hold_35 : decode cX5_hold 35 = .ok (.iload_n 2, 1) := by decide +kernel
theorem dX5_hold_36 : decode cX5_hold 36 = .ok (.iastore, 1) := by decide +kernel
theorem dX5_hold_37 : decode cX5_hold 37 = .ok (.iconst 1, 1) := by decide +kernel
theorem dX5_hold_38 : decode cX5_hold 38 = .ok (.ireturn, 1) := by decide +kernel
theorem dX5_as_0 : decode cX5_as 0 = .ok (.iload_n 1, 1) := by decide +kernel
theorem dX5_as_1 : decode cX5_as 1 = .ok (.invokestatic 354, 3) := by decide +kernel
theorem dX5_as_4 : decode cX5_as 4 = .ok (.ifCond .eq 10, 3) := by decide +kernel
theorem dX5_as_7 : decode cX5_as 7 = .ok (.iload_n 2, 1) := by decide +kernel
theorem dX5_as_8 : decode cX5_as 8 = .ok (.invokestatic 82, 3) := by decide +kernel
theorem dX5_as_11 : decode cX5_as 11 = .ok (.ifCond .ne 10, 3) := by decide +kernel
theorem dX5_as_14 : decode cX5_as 14 = .ok (.aload_n 0, 1) := by decide +kernel
theorem dX5_as_15 : decode cX5_as 15 = .ok (.ldc 66, 2) := by decide +kernel
theorem dX5_as_17 : decode cX5_as 17 = .ok (.invokevirtual 86, 3) := by decide +kernel
theorem dX5_as_20 : decode cX5_as 20 = .ok (.ireturn, 1) := by decide +kernel
theorem dX5_as_21 : decode cX5_as 21 = .ok (.aload_n 0, 1) := by decide +kernel
theorem dX5_as_22 : decode cX5_as 22 = .ok (.getfield 9, 3) := by decide +kernel
theorem dX5_as_25 : decode cX5_as 25 = .ok (.bipush 6, 2) := by decide +kernel
theorem dX5_as_27 : decode cX5_as 27 = .ok (.iload_n 1, 1) := by decide +kernel
theorem dX5_as_28 : decode cX5_as 28 = .ok (.iadd, 1) := by decide +kernel
theorem dX5_as_29 : decode cX5_as 29 = .ok (.iaload, 1) := by decide +kernel
theorem dX5_as_30 : decode cX5_as 30 = .ok (.istore_n 3, 1) := by decide +kernel
theorem dX5_as_31 : decode cX5_as 31 = .ok (.iload_n 3, 1) := by decide +kernel
theorem dX5_as_32 : decode cX5_as 32 = .ok (.ifCond .ge 10, 3) := by decide +kernel
theorem dX5_as_35 : decode cX5_as 35 = .ok (.aload_n 0, 1) := by decide +kernel
theorem dX5_as_36 : decode cX5_as 36 = .ok (.ldc 236, 2) := by decide +kernel
theorem dX5_as_38 : decode cX5_as 38 = .ok (.invokevirtual 86, 3) := by decide +kernel
theorem dX5_as_41 : decode cX5_as 41 = .ok (.ireturn, 1) := by decide +kernel
theorem dX5_as_42 : decode cX5_as 42 = .ok (.aload_n 0, 1) := by decide +kernel
theorem dX5_as_43 : decode cX5_as 43 = .ok (.iload_n 3, 1) := by decide +kernel
theorem dX5_as_44 : decode cX5_as 44 = .ok (.iconst 0, 1) := by decide +kernel
theorem dX5_as_45 : decode cX5_as 45 = .ok (.invokevirtual 98, 3) := by decide +kernel
theorem dX5_as_48 : decode cX5_as 48 = .ok (.iload_n 2, 1) := by decide +kernel
theorem dX5_as_49 : decode cX5_as 49 = .ok (.invokestatic 357, 3) := by decide +kernel
theorem dX5_as_52 : decode cX5_as 52 = .ok (.ifCond .eq 7, 3) := by decide +kernel
theorem dX5_as_55 : decode cX5_as 55 = .ok (.iload_n 3, 1) := by decide +kernel
theorem dX5_as_56 : decode cX5_as 56 = .ok (.goto 10, 3) := by decide +kernel
theorem dX5_as_59 : decode cX5_as 59 = .ok (.aload_n 0, 1) := by decide +kernel
theorem dX5_as_60 : decode cX5_as 60 = .ok (.ldc_w 360, 3) := by decide +kernel
theorem dX5_as_63 : decode cX5_as 63 = .ok (.invokevirtual 86, 3) := by decide +kernel
theorem dX5_as_66 : decode cX5_as 66 = .ok (.ireturn, 1) := by decide +kernel
theorem dX5_isSheet_0 : decode cX5_isSheet 0 = .ok (.iload_n 0, 1) := by decide +kernel
theorem dX5_isSheet_1 : decode cX5_isSheet 1 = .ok (.iconst 0, 1) := by decide +kernel
theorem dX5_isSheet_2 : decode cX5_isSheet 2 = .ok (.iconst 3, 1) := by decide +kernel
theorem dX5_isSheet_3 : decode cX5_isSheet 3 = .ok (.invokestatic 71, 3) := by decide +kernel
theorem dX5_isSheet_6 : decode cX5_isSheet 6 = .ok (.ireturn, 1) := by decide +kernel
theorem dX5_cutTo_0 : decode cX5_cutTo 0 = .ok (.iload_n 1, 1) := by decide +kernel
theorem dX5_cutTo_1 : decode cX5_cutTo 1 = .ok (.bipush 8, 2) := by decide +kernel
theorem dX5_cutTo_3 : decode cX5_cutTo 3 = .ok (.if_icmp .ne 8, 3) := by decide +kernel
theorem dX5_cutTo_6 : decode cX5_cutTo 6 = .ok (.iload_n 0, 1) := by decide +kernel
theorem dX5_cutTo_7 : decode cX5_cutTo 7 = .ok (.i2b, 1) := by decide +kernel
theorem dX5_cutTo_8 : decode cX5_cutTo 8 = .ok (.goto 15, 3) := by decide +kernel
theorem dX5_cutTo_11 : decode cX5_cutTo 11 = .ok (.iload_n 1, 1) := by decide +kernel
theorem dX5_cutTo_12 : decode cX5_cutTo 12 = .ok (.bipush 16, 2) := by decide +kernel
theorem dX5_cutTo_14 : decode cX5_cutTo 14 = .ok (.if_icmp .ne 8, 3) := by decide +kernel
theorem dX5_cutTo_17 : decode cX5_cutTo 17 = .ok (.iload_n 0, 1) := by decide +kernel
theorem dX5_cutTo_18 : decode cX5_cutTo 18 = .ok (.i2s, 1) := by decide +kernel
theorem dX5_cutTo_19 : decode cX5_cutTo 19 = .ok (.goto 4, 3) := by decide +kernel
theorem dX5_cutTo_22 : decode cX5_cutTo 22 = .ok (.iload_n 0, 1) := by decide +kernel
theorem dX5_cutTo_23 : decode cX5_cutTo 23 = .ok (.ireturn, 1) := by decide +kernel
theorem dX5_sheet_0 : decode cX5_sheet 0 = .ok (.iload_n 1, 1) := by decide +kernel
theorem dX5_sheet_1 : decode cX5_sheet 1 = .ok (.invokestatic 233, 3) := by decide +kernel
theorem dX5_sheet_4 : decode cX5_sheet 4 = .ok (.ifCond .eq 25, 3) := by decide +kernel
theorem dX5_sheet_7 : decode cX5_sheet 7 = .ok (.iload_n 2, 1) := by decide +kernel
theorem dX5_sheet_8 : decode cX5_sheet 8 = .ok (.ifCond .eq 28, 3) := by decide +kernel
theorem dX5_sheet_11 : decode cX5_sheet 11 = .ok (.iload_n 2, 1) := by decide +kernel
theorem dX5_sheet_12 : decode cX5_sheet 12 = .ok (.bipush 8, 2) := by decide +kernel
theorem dX5_sheet_14 : decode cX5_sheet 14 = .ok (.if_icmp .eq 22, 3) := by decide +kernel
theorem dX5_sheet_17 : decode cX5_sheet 17 = .ok (.iload_n 2, 1) := by decide +kernel
theorem dX5_sheet_18 : decode cX5_sheet 18 = .ok (.bipush 16, 2) := by decide +kernel
theorem dX5_sheet_20 : decode cX5_sheet 20 = .ok (.if_icmp .eq 16, 3) := by decide +kernel
theorem dX5_sheet_23 : decode cX5_sheet 23 = .ok (.iload_n 2, 1) := by decide +kernel
theorem dX5_sheet_24 : decode cX5_sheet 24 = .ok (.bipush 32, 2) := by decide +kernel
theorem dX5_sheet_26 : decode cX5_sheet 26 = .ok (.if_icmp .eq 10, 3) := by decide +kernel
theorem dX5_sheet_29 : decode cX5_sheet 29 = .ok (.aload_n 0, 1) := by decide +kernel
theorem dX5_sheet_30 : decode cX5_sheet 30 = .ok (.ldc 66, 2) := by decide +kernel
theorem dX5_sheet_32 : decode cX5_sheet 32 = .ok (.invokevirtual 86, 3) := by decide +kernel
theorem dX5_sheet_35 : decode cX5_sheet 35 = .ok (.ireturn, 1) := by decide +kernel
theorem dX5_sheet_36 : decode cX5_sheet 36 = .ok (.iload_n 3, 1) := by decide +kernel
theorem dX5_sheet_37 : decode cX5_sheet 37 = .ok (.ifCond .ge 11, 3) := by decide +kernel
theorem dX5_sheet_40 : decode cX5_sheet 40 = .ok (.aload_n 0, 1) := by decide +kernel
theorem dX5_sheet_41 : decode cX5_sheet 41 = .ok (.ldc_w 361, 3) := by decide +kernel
theorem dX5_sheet_44 : decode cX5_sheet 44 = .ok (.invokevirtual 86, 3) := by decide +kernel
theorem dX5_sheet_47 : decode cX5_sheet 47 = .ok (.ireturn, 1) := by decide +kernel
theorem dX5_sheet_48 : decode cX5_sheet 48 = .ok (.iload_n 3, 1) := by decide +kernel
theorem dX5_sheet_49 : decode cX5_sheet 49 = .ok (.bipush 40, 2) := by decide +kernel
theorem dX5_sheet_51 : decode cX5_sheet 51 = .ok (.if_icmp .le 10, 3) := by decide +kernel
theorem dX5_sheet_54 : decode cX5_sheet 54 = .ok (.aload_n 0, 1) := by decide +kernel
theorem dX5_sheet_55 : decode cX5_sheet 55 = .ok (.ldc 66, 2) := by decide +kernel
theorem dX5_sheet_57 : decode cX5_sheet 57 = .ok (.invokevirtual 86, 3) := by decide +kernel
theorem dX5_sheet_60 : decode cX5_sheet 60 = .ok (.ireturn, 1) := by decide +kernel
theorem dX5_sheet_61 : decode cX5_sheet 61 = .ok (.aload_n 0, 1) := by decide +kernel
theorem dX5_sheet_62 : decode cX5_sheet 62 = .ok (.getfield 54, 3) := by decide +kernel
theorem dX5_sheet_65 : decode cX5_sheet 65 = .ok (.iload_n 1, 1) := by decide +kernel
theorem dX5_sheet_66 : decode cX5_sheet 66 = .ok (.iload_n 2, 1) := by decide +kernel
theorem dX5_sheet_67 : decode cX5_sheet 67 = .ok (.iastore, 1) := by decide +kernel
theorem dX5_sheet_68 : decode cX5_sheet 68 = .ok (.aload_n 0, 1) := by decide +kernel
theorem dX5_sheet_69 : decode cX5_sheet 69 = .ok (.getfield 57, 3) := by decide +kernel
theorem dX5_sheet_72 : decode cX5_sheet 72 = .ok (.iload_n 1, 1) := by decide +kernel
theorem dX5_sheet_73 : decode cX5_sheet 73 = .ok (.iload_n 2, 1) := by decide +kernel
theorem dX5_sheet_74 : decode cX5_sheet 74 = .ok (.ifCond .ne 7, 3) := by decide +kernel
theorem dX5_sheet_77 : decode cX5_sheet 77 = .ok (.iconst 0, 1) := by decide +kernel
theorem dX5_sheet_78 : decode cX5_sheet 78 = .ok (.goto 4, 3) := by decide +kernel
theorem dX5_sheet_81 : decode cX5_sheet 81 = .ok (.iload_n 3, 1) := by decide +kernel
theorem dX5_sheet_82 : decode cX5_sheet 82 = .ok (.iastore, 1) := by decide +kernel
theorem dX5_sheet_83 : decode cX5_sheet 83 = .ok (.iconst 0, 1) := by decide +kernel
theorem dX5_sheet_84 : decode cX5_sheet 84 = .ok (.istore 4, 2) := by decide +kernel
theorem dX5_sheet_86 : decode cX5_sheet 86 = .ok (.iload 4, 2) := by decide +kernel
theorem dX5_sheet_88 : decode cX5_sheet 88 = .ok (.bipush 40, 2) := by decide +kernel
theorem dX5_sheet_90 : decode cX5_sheet 90 = .ok (.if_icmp .ge 22, 3) := by decide +kernel
theorem dX5_sheet_93 : decode cX5_sheet 93 = .ok (.aload_n 0, 1) := by decide +kernel
theorem dX5_sheet_94 : decode cX5_sheet 94 = .ok (.getfield 60, 3) := by decide +kernel
theorem dX5_sheet_97 : decode cX5_sheet 97 = .ok (.bipush 40, 2) := by decide +kernel
theorem dX5_sheet_99 : decode cX5_sheet 99 = .ok (.iload_n 1, 1) := by decide +kernel
theorem dX5_sheet_100 : decode cX5_sheet 100 = .ok (.imul, 1) := by decide +kernel
theorem dX5_sheet_101 : decode cX5_sheet 101 = .ok (.iload 4, 2) := by decide +kernel
theorem dX5_sheet_103 : decode cX5_sheet 103 = .ok (.iadd, 1) := by decide +kernel
theorem dX5_sheet_104 : decode cX5_sheet 104 = .ok (.iconst 0, 1) := by decide +kernel
theorem dX5_sheet_105 : decode cX5_sheet 105 = .ok (.iastore, 1) := by decide +kernel
theorem dX5_sheet_106 : decode cX5_sheet 106 = .ok (.iinc 4 1, 3) := by decide +kernel
theorem dX5_sheet_109 : decode cX5_sheet 109 = .ok (.goto (-23), 3) := by decide +kernel
theorem dX5_sheet_112 : decode cX5_sheet 112 = .ok (.aload_n 0, 1) := by decide +kernel
theorem dX5_sheet_113 : decode cX5_sheet 113 = .ok (.getfield 57, 3) := by decide +kernel
theorem dX5_sheet_116 : decode cX5_sheet 116 = .ok (.iload_n 1, 1) := by decide +kernel
theorem dX5_sheet_117 : decode cX5_sheet 117 = .ok (.iaload, 1) := by decide +kernel
theorem dX5_sheet_118 : decode cX5_sheet 118 = .ok (.ireturn, 1) := by decide +kernel
theorem dX5_write_0 : decode cX5_write 0 = .ok (.iload_n 1, 1) := by decide +kernel
theorem dX5_write_1 : decode cX5_write 1 = .ok (.invokestatic 233, 3) := by decide +kernel
theorem dX5_write_4 : decode cX5_write 4 = .ok (.ifCond .ne 10, 3) := by decide +kernel
theorem dX5_write_7 : decode cX5_write 7 = .ok (.aload_n 0, 1) := by decide +kernel
theorem dX5_write_8 : decode cX5_write 8 = .ok (.ldc 66, 2) := by decide +kernel
theorem dX5_write_10 : decode cX5_write 10 = .ok (.invokevirtual 86, 3) := by decide +kernel
theorem dX5_write_13 : decode cX5_write 13 = .ok (.ireturn, 1) := by decide +kernel
theorem dX5_write_14 : decode cX5_write 14 = .ok (.aload_n 0, 1) := by decide +kernel
theorem dX5_write_15 : decode cX5_write 15 = .ok (.getfield 54, 3) := by decide +kernel
theorem dX5_write_18 : decode cX5_write 18 = .ok (.iload_n 1, 1) := by decide +kernel
theorem dX5_write_19 : decode cX5_write 19 = .ok (.iaload, 1) := by decide +kernel
theorem dX5_write_20 : decode cX5_write 20 = .ok (.ifCond .ne 10, 3) := by decide +kernel
theorem dX5_write_23 : decode cX5_write 23 = .ok (.aload_n 0, 1) := by decide +kernel
theorem dX5_write_24 : decode cX5_write 24 = .ok (.ldc 236, 2) := by decide +kernel
theorem dX5_write_26 : decode cX5_write 26 = .ok (.invokevirtual 86, 3) := by decide +kernel
theorem dX5_write_29 : decode cX5_write 29 = .ok (.ireturn, 1) := by decide +kernel
theorem dX5_write_30 : decode cX5_write 30 = .ok (.iload_n 2, 1) := by decide +kernel
theorem dX5_write_31 : decode cX5_write 31 = .ok (.iconst 0, 1) := by decide +kernel
theorem dX5_write_32 : decode cX5_write 32 = .ok (.aload_n 0, 1) := by decide +kernel
theorem dX5_write_33 : decode cX5_write 33 = .ok (.getfield 57, 3) := by decide +kernel
theorem dX5_write_36 : decode cX5_write 36 = .ok (.iload_n 1, 1) := by decide +kernel
theorem dX5_write_37 : decode cX5_write 37 = .ok (.iaload, 1) := by decide +kernel
theorem dX5_write_38 : decode cX5_write 38 = .ok (.iconst 1, 1) := by decide +kernel
theorem dX5_write_39 : decode cX5_write 39 = .ok (.isub, 1) := by decide +kernel
theorem dX5_write_40 : decode cX5_write 40 = .ok (.invokestatic 71, 3) := by decide +kernel
theorem dX5_write_43 : decode cX5_write 43 = .ok (.ifCond .ne 10, 3) := by decide +kernel
theorem dX5_write_46 : decode cX5_write 46 = .ok (.aload_n 0, 1) := by decide +kernel
theorem dX5_write_47 : decode cX5_write 47 = .ok (.ldc 66, 2) := by decide +kernel
theorem dX5_write_49 : decode cX5_write 49 = .ok (.invokevirtual 86, 3) := by decide +kernel
theorem dX5_write_52 : decode cX5_write 52 = .ok (.ireturn, 1) := by decide +kernel
theorem dX5_write_53 : decode cX5_write 53 = .ok (.aload_n 0, 1) := by decide +kernel
theorem dX5_write_54 : decode cX5_write 54 = .ok (.getfield 60, 3) := by decide +kernel
theorem dX5_write_57 : decode cX5_write 57 = .ok (.bipush 40, 2) := by decide +kernel
theorem dX5_write_59 : decode cX5_write 59 = .ok (.iload_n 1, 1) := by decide +kernel
theorem dX5_write_60 : decode cX5_write 60 = .ok (.imul, 1) := by decide +kernel
theorem dX5_write_61 : decode cX5_write 61 = .ok (.iload_n 2, 1) := by decide +kernel
theorem dX5_write_62 : decode cX5_write 62 = .ok (.iadd, 1) := by decide +kernel
theorem dX5_write_63 : decode cX5_write 63 = .ok (.iload_n 3, 1) := by decide +kernel
theorem dX5_write_64 : decode cX5_write 64 = .ok (.aload_n 0, 1) := by decide +kernel
theorem dX5_write_65 : decode cX5_write 65 = .ok (.getfield 54, 3) := by decide +kernel
theorem dX5_write_68 : decode cX5_write 68 = .ok (.iload_n 1, 1) := by decide +kernel
theorem dX5_write_69 : decode cX5_write 69 = .ok (.iaload, 1) := by decide +kernel
theorem dX5_write_70 : decode cX5_write 70 = .ok (.invokestatic 362, 3) := by decide +kernel
theorem dX5_write_73 : decode cX5_write 73 = .ok (.iastore, 1) := by decide +kernel
theorem dX5_write_74 : decode cX5_write 74 = .ok (.iconst 1, 1) := by decide +kernel
theorem dX5_write_75 : decode cX5_write 75 = .ok (.ireturn, 1) := by decide +kernel
theorem dX5_copy_0 : decode cX5_copy 0 = .ok (.iload_n 1, 1) := by decide +kernel
theorem dX5_copy_1 : decode cX5_copy 1 = .ok (.invokestatic 233, 3) := by decide +kernel
theorem dX5_copy_4 : decode cX5_copy 4 = .ok (.ifCond .eq 10, 3) := by decide +kernel
theorem dX5_copy_7 : decode cX5_copy 7 = .ok (.iload_n 3, 1) := by decide +kernel
theorem dX5_copy_8 : decode cX5_copy 8 = .ok (.invokestatic 233, 3) := by decide +kernel
theorem dX5_copy_11 : decode cX5_copy 11 = .ok (.ifCond .ne 10, 3) := by decide +kernel
theorem dX5_copy_14 : decode cX5_copy 14 = .ok (.aload_n 0, 1) := by decide +kernel
theorem dX5_copy_15 : decode cX5_copy 15 = .ok (.ldc 66, 2) := by decide +kernel
theorem dX5_copy_17 : decode cX5_copy 17 = .ok (.invokevirtual 86, 3) := by decide +kernel
theorem dX5_copy_20 : decode cX5_copy 20 = .ok (.ireturn, 1) := by decide +kernel
theorem dX5_copy_21 : decode cX5_copy 21 = .ok (.aload_n 0, 1) := by decide +kernel
theorem dX5_copy_22 : decode cX5_copy 22 = .ok (.getfield 54, 3) := by decide +kernel
theorem dX5_copy_25 : decode cX5_copy 25 = .ok (.iload_n 1, 1) := by decide +kernel
theorem dX5_copy_26 : decode cX5_copy 26 = .ok (.iaload, 1) := by decide +kernel
theorem dX5_copy_27 : decode cX5_copy 27 = .ok (.ifCond .eq 12, 3) := by decide +kernel
theorem dX5_copy_30 : decode cX5_copy 30 = .ok (.aload_n 0, 1) := by decide +kernel
theorem dX5_copy_31 : decode cX5_copy 31 = .ok (.getfield 54, 3) := by decide +kernel
theorem dX5_copy_34 : decode cX5_copy 34 = .ok (.iload_n 3, 1) := by decide +kernel
theorem dX5_copy_35 : decode cX5_copy 35 = .ok (.iaload, 1) := by decide +kernel
theorem dX5_copy_36 : decode cX5_copy 36 = .ok (.ifCond .ne 10, 3) := by decide +kernel
theorem dX5_copy_39 : decode cX5_copy 39 = .ok (.aload_n 0, 1) := by decide +kernel
theorem dX5_copy_40 : decode cX5_copy 40 = .ok (.ldc 236, 2) := by decide +kernel
theorem dX5_copy_42 : decode cX5_copy 42 = .ok (.invokevirtual 86, 3) := by decide +kernel
theorem dX5_copy_45 : decode cX5_copy 45 = .ok (.ireturn, 1) := by decide +kernel
theorem dX5_copy_46 : decode cX5_copy 46 = .ok (.aload_n 0, 1) := by decide +kernel
theorem dX5_copy_47 : decode cX5_copy 47 = .ok (.getfield 54, 3) := by decide +kernel
theorem dX5_copy_50 : decode cX5_copy 50 = .ok (.iload_n 1, 1) := by decide +kernel
theorem dX5_copy_51 : decode cX5_copy 51 = .ok (.iaload, 1) := by decide +kernel
theorem dX5_copy_52 : decode cX5_copy 52 = .ok (.aload_n 0, 1) := by decide +kernel
theorem dX5_copy_53 : decode cX5_copy 53 = .ok (.getfield 54, 3) := by decide +kernel
theorem dX5_copy_56 : decode cX5_copy 56 = .ok (.iload_n 3, 1) := by decide +kernel
theorem dX5_copy_57 : decode cX5_copy 57 = .ok (.iaload, 1) := by decide +kernel
theorem dX5_copy_58 : decode cX5_copy 58 = .ok (.if_icmp .eq 11, 3) := by decide +kernel
theorem dX5_copy_61 : decode cX5_copy 61 = .ok (.aload_n 0, 1) := by decide +kernel
theorem dX5_copy_62 : decode cX5_copy 62 = .ok (.ldc_w 360, 3) := by decide +kernel
theorem dX5_copy_65 : decode cX5_copy 65 = .ok (.invokevirtual 86, 3) := by decide +kernel
theorem dX5_copy_68 : decode cX5_copy 68 = .ok (.ireturn, 1) := by decide +kernel
theorem dX5_copy_69 : decode cX5_copy 69 = .ok (.iload_n 2, 1) := by decide +kernel
theorem dX5_copy_70 : decode cX5_copy 70 = .ok (.ifCond .lt 48, 3) := by decide +kernel
theorem dX5_copy_73 : decode cX5_copy 73 = .ok (.iload 4, 2) := by decide +kernel
theorem dX5_copy_75 : decode cX5_copy 75 = .ok (.ifCond .lt 43, 3) := by decide +kernel
theorem dX5_copy_78 : decode cX5_copy 78 = .ok (.iload 5, 2) := by decide +kernel
theorem dX5_copy_80 : decode cX5_copy 80 = .ok (.ifCond .lt 38, 3) := by decide +kernel
theorem dX5_copy_83 : decode cX5_copy 83 = .ok (.iload_n 2, 1) := by decide +kernel
theorem dX5_copy_84 : decode cX5_copy 84 = .ok (.i2l, 1) := by decide +kernel
theorem dX5_copy_85 : decode cX5_copy 85 = .ok (.iload 5, 2) := by decide +kernel
theorem dX5_copy_87 : decode cX5_copy 87 = .ok (.i2l, 1) := by decide +kernel
theorem dX5_copy_88 : decode cX5_copy 88 = .ok (.ladd, 1) := by decide +kernel
theorem dX5_copy_89 : decode cX5_copy 89 = .ok (.aload_n 0, 1) := by decide +kernel
theorem dX5_copy_90 : decode cX5_copy 90 = .ok (.getfield 57, 3) := by decide +kernel
theorem dX5_copy_93 : decode cX5_copy 93 = .ok (.iload_n 1, 1) := by decide +kernel
theorem dX5_copy_94 : decode cX5_copy 94 = .ok (.iaload, 1) := by decide +kernel
theorem dX5_copy_95 : decode cX5_copy 95 = .ok (.i2l, 1) := by decide +kernel
theorem dX5_copy_96 : decode cX5_copy 96 = .ok (.lcmp, 1) := by decide +kernel
theorem dX5_copy_97 : decode cX5_copy 97 = .ok (.ifCond .gt 21, 3) := by decide +kernel
theorem dX5_copy_100 : decode cX5_copy 100 = .ok (.iload 4, 2) := by decide +kernel
theorem dX5_copy_102 : decode cX5_copy 102 = .ok (.i2l, 1) := by decide +kernel
theorem dX5_copy_103 : decode cX5_copy 103 = .ok (.iload 5, 2) := by decide +kernel
theorem dX5_copy_105 : decode cX5_copy 105 = .ok (.i2l, 1) := by decide +kernel
theorem dX5_copy_106 : decode cX5_copy 106 = .ok (.ladd, 1) := by decide +kernel
theorem dX5_copy_107 : decode cX5_copy 107 = .ok (.aload_n 0, 1) := by decide +kernel
theorem dX5_copy_108 : decode cX5_copy 108 = .ok (.getfield 57, 3) := by decide +kernel
theorem dX5_copy_111 : decode cX5_copy 111 = .ok (.iload_n 3, 1) := by decide +kernel
theorem dX5_copy_112 : decode cX5_copy 112 = .ok (.iaload, 1) := by decide +kernel
theorem dX5_copy_113 : decode cX5_copy 113 = .ok (.i2l, 1) := by decide +kernel
theorem dX5_copy_114 : decode cX5_copy 114 = .ok (.lcmp, 1) := by decide +kernel
theorem dX5_copy_115 : decode cX5_copy 115 = .ok (.ifCond .le 10, 3) := by decide +kernel
theorem dX5_copy_118 : decode cX5_copy 118 = .ok (.aload_n 0, 1) := by decide +kernel
theorem dX5_copy_119 : decode cX5_copy 119 = .ok (.ldc 66, 2) := by decide +kernel
theorem dX5_copy_121 : decode cX5_copy 121 = .ok (.invokevirtual 86, 3) := by decide +kernel
theorem dX5_copy_124 : decode cX5_copy 124 = .ok (.ireturn, 1) := by decide +kernel
theorem dX5_copy_125 : decode cX5_copy 125 = .ok (.iconst 0, 1) := by decide +kernel
theorem dX5_copy_126 : decode cX5_copy 126 = .ok (.istore 6, 2) := by decide +kernel
theorem dX5_copy_128 : decode cX5_copy 128 = .ok (.iload 6, 2) := by decide +kernel
theorem dX5_copy_130 : decode cX5_copy 130 = .ok (.iload 5, 2) := by decide +kernel
theorem dX5_copy_132 : decode cX5_copy 132 = .ok (.if_icmp .ge 30, 3) := by decide +kernel
theorem dX5_copy_135 : decode cX5_copy 135 = .ok (.aload_n 0, 1) := by decide +kernel
theorem dX5_copy_136 : decode cX5_copy 136 = .ok (.getfield 63, 3) := by decide +kernel
theorem dX5_copy_139 : decode cX5_copy 139 = .ok (.iload 6, 2) := by decide +kernel
theorem dX5_copy_141 : decode cX5_copy 141 = .ok (.aload_n 0, 1) := by decide +kernel
theorem dX5_copy_142 : decode cX5_copy 142 = .ok (.getfield 60, 3) := by decide +kernel
theorem dX5_copy_145 : decode cX5_copy 145 = .ok (.bipush 40, 2) := by decide +kernel
theorem dX5_copy_147 : decode cX5_copy 147 = .ok (.iload_n 1, 1) := by decide +kernel
theorem dX5_copy_148 : decode cX5_copy 148 = .ok (.imul, 1) := by decide +kernel
theorem dX5_copy_149 : decode cX5_copy 149 = .ok (.iload_n 2, 1) := by decide +kernel
theorem dX5_copy_150 : decode cX5_copy 150 = .ok (.iadd, 1) := by decide +kernel
theorem dX5_copy_151 : decode cX5_copy 151 = .ok (.iload 6, 2) := by decide +kernel
theorem dX5_copy_153 : decode cX5_copy 153 = .ok (.iadd, 1) := by decide +kernel
theorem dX5_copy_154 : decode cX5_copy 154 = .ok (.iaload, 1) := by decide +kernel
theorem dX5_copy_155 : decode cX5_copy 155 = .ok (.iastore, 1) := by decide +kernel
theorem dX5_copy_156 : decode cX5_copy 156 = .ok (.iinc 6 1, 3) := by decide +kernel
theorem dX5_copy_159 : decode cX5_copy 159 = .ok (.goto (-31), 3) := by decide +kernel
theorem dX5_copy_162 : decode cX5_copy 162 = .ok (.iconst 0, 1) := by decide +kernel
theorem dX5_copy_163 : decode cX5_copy 163 = .ok (.istore 6, 2) := by decide +kernel
theorem dX5_copy_165 : decode cX5_copy 165 = .ok (.iload 6, 2) := by decide +kernel
theorem dX5_copy_167 : decode cX5_copy 167 = .ok (.iload 5, 2) := by decide +kernel
theorem dX5_copy_169 : decode cX5_copy 169 = .ok (.if_icmp .ge 31, 3) := by decide +kernel
theorem dX5_copy_172 : decode cX5_copy 172 = .ok (.aload_n 0, 1) := by decide +kernel
theorem dX5_copy_173 : decode cX5_copy 173 = .ok (.getfield 60, 3) := by decide +kernel
theorem dX5_copy_176 : decode cX5_copy 176 = .ok (.bipush 40, 2) := by decide +kernel
theorem dX5_copy_178 : decode cX5_copy 178 = .ok (.iload_n 3, 1) := by decide +kernel
theorem dX5_copy_179 : decode cX5_copy 179 = .ok (.imul, 1) := by decide +kernel
theorem dX5_copy_180 : decode cX5_copy 180 = .ok (.iload 4, 2) := by decide +kernel
theorem dX5_copy_182 : decode cX5_copy 182 = .ok (.iadd, 1) := by decide +kernel
theorem dX5_copy_183 : decode cX5_copy 183 = .ok (.iload 6, 2) := by decide +kernel
theorem dX5_copy_185 : decode cX5_copy 185 = .ok (.iadd, 1) := by decide +kernel
theorem dX5_copy_186 : decode cX5_copy 186 = .ok (.aload_n 0, 1) := by decide +kernel
theorem dX5_copy_187 : decode cX5_copy 187 = .ok (.getfield 63, 3) := by decide +kernel
theorem dX5_copy_190 : decode cX5_copy 190 = .ok (.iload 6, 2) := by decide +kernel
theorem dX5_copy_192 : decode cX5_copy 192 = .ok (.iaload, 1) := by decide +kernel
theorem dX5_copy_193 : decode cX5_copy 193 = .ok (.iastore, 1) := by decide +kernel
theorem dX5_copy_194 : decode cX5_copy 194 = .ok (.iinc 6 1, 3) := by decide +kernel
theorem dX5_copy_197 : decode cX5_copy 197 = .ok (.goto (-32), 3) := by decide +kernel
theorem dX5_copy_200 : decode cX5_copy 200 = .ok (.iload 5, 2) := by decide +kernel
theorem dX5_copy_202 : decode cX5_copy 202 = .ok (.ireturn, 1) := by decide +kernel
theorem dX5_load_0 : decode cX5_load 0 = .ok (.aload_n 0, 1) := by decide +kernel
theorem dX5_load_1 : decode cX5_load 1 = .ok (.iload_n 1, 1) := by decide +kernel
theorem dX5_load_2 : decode cX5_load 2 = .ok (.invokevirtual 237, 3) := by decide +kernel
theorem dX5_load_5 : decode cX5_load 5 = .ok (.ifCond .eq 13, 3) := by decide +kernel
theorem dX5_load_8 : decode cX5_load 8 = .ok (.aload_n 0, 1) := by decide +kernel
theorem dX5_load_9 : decode cX5_load 9 = .ok (.aload_n 0, 1) := by decide +kernel
theorem dX5_load_10 : decode cX5_load 10 = .ok (.iload_n 1, 1) := by decide +kernel
theorem dX5_load_11 : decode cX5_load 11 = .ok (.invokevirtual 237, 3) := by decide +kernel
theorem dX5_load_14 : decode cX5_load 14 = .ok (.invokevirtual 86, 3) := by decide +kernel
theorem dX5_load_17 : decode cX5_load 17 = .ok (.ireturn, 1) := by decide +kernel
theorem dX5_load_18 : decode cX5_load 18 = .ok (.iconst 0, 1) := by decide +kernel
theorem dX5_load_19 : decode cX5_load 19 = .ok (.istore_n 2, 1) := by decide +kernel
theorem dX5_load_20 : decode cX5_load 20 = .ok (.iload_n 2, 1) := by decide +kernel
theorem dX5_load_21 : decode cX5_load 21 = .ok (.aload_n 0, 1) := by decide +kernel
theorem dX5_load_22 : decode cX5_load 22 = .ok (.getfield 57, 3) := by decide +kernel
theorem dX5_load_25 : decode cX5_load 25 = .ok (.iload_n 1, 1) := by decide +kernel
theorem dX5_load_26 : decode cX5_load 26 = .ok (.iaload, 1) := by decide +kernel
theorem dX5_load_27 : decode cX5_load 27 = .ok (.if_icmp .ge 58, 3) := by decide +kernel
theorem dX5_load_30 : decode cX5_load 30 = .ok (.aload_n 0, 1) := by decide +kernel
theorem dX5_load_31 : decode cX5_load 31 = .ok (.iload_n 2, 1) := by decide +kernel
theorem dX5_load_32 : decode cX5_load 32 = .ok (.invokevirtual 105, 3) := by decide +kernel
theorem dX5_load_35 : decode cX5_load 35 = .ok (.ifCond .eq 50, 3) := by decide +kernel
theorem dX5_load_38 : decode cX5_load 38 = .ok (.aload_n 0, 1) := by decide +kernel
theorem dX5_load_39 : decode cX5_load 39 = .ok (.getfield 60, 3) := by decide +kernel
theorem dX5_load_42 : decode cX5_load 42 = .ok (.bipush 40, 2) := by decide +kernel
theorem dX5_load_44 : decode cX5_load 44 = .ok (.iload_n 1, 1) := by decide +kernel
theorem dX5_load_45 : decode cX5_load 45 = .ok (.imul, 1) := by decide +kernel
theorem dX5_load_46 : decode cX5_load 46 = .ok (.iload_n 2, 1) := by decide +kernel
theorem dX5_load_47 : decode cX5_load 47 = .ok (.iadd, 1) := by decide +kernel
theorem dX5_load_48 : decode cX5_load 48 = .ok (.iaload, 1) := by decide +kernel
theorem dX5_load_49 : decode cX5_load 49 = .ok (.iconst 0, 1) := by decide +kernel
theorem dX5_load_50 : decode cX5_load 50 = .ok (.bipush 99, 2) := by decide +kernel
theorem dX5_load_52 : decode cX5_load 52 = .ok (.invokestatic 71, 3) := by decide +kernel
theorem dX5_load_55 : decode cX5_load 55 = .ok (.ifCond .eq 30, 3) := by decide +kernel
theorem dX5_load_58 : decode cX5_load 58 = .ok (.aload_n 0, 1) := by decide +kernel
theorem dX5_load_59 : decode cX5_load 59 = .ok (.getfield 9, 3) := by decide +kernel
theorem dX5_load_62 : decode cX5_load 62 = .ok (.iload_n 2, 1) := by decide +kernel
theorem dX5_load_63 : decode cX5_load 63 = .ok (.iconst 1, 1) := by decide +kernel
theorem dX5_load_64 : decode cX5_load 64 = .ok (.invokestatic 75, 3) := by decide +kernel
theorem dX5_load_67 : decode cX5_load 67 = .ok (.aload_n 0, 1) := by decide +kernel
theorem dX5_load_68 : decode cX5_load 68 = .ok (.getfield 60, 3) := by decide +kernel
theorem dX5_load_71 : decode cX5_load 71 = .ok (.bipush 40, 2) := by decide +kernel
theorem dX5_load_73 : decode cX5_load 73 = .ok (.iload_n 1, 1) := by decide +kernel
theorem dX5_load_74 : decode cX5_load 74 = .ok (.imul, 1) := by decide +kernel
theorem dX5_load_75 : decode cX5_load 75 = .ok (.iload_n 2, 1) := by decide +kernel
theorem dX5_load_76 : decode cX5_load 76 = .ok (.iadd, 1) := by decide +kernel
theorem dX5_load_77 : decode cX5_load 77 = .ok (.iaload, 1) := by decide +kernel
theorem dX5_load_78 : decode cX5_load 78 = .ok (.iastore, 1) := by decide +kernel
theorem dX5_load_79 : decode cX5_load 79 = .ok (.iinc 2 1, 3) := by decide +kernel
theorem dX5_load_82 : decode cX5_load 82 = .ok (.goto (-62), 3) := by decide +kernel
theorem dX5_load_85 : decode cX5_load 85 = .ok (.iload_n 2, 1) := by decide +kernel
theorem dX5_load_86 : decode cX5_load 86 = .ok (.ireturn, 1) := by decide +kernel
theorem dX5_judge_0 : decode cX5_judge 0 = .ok (.aload_n 0, 1) := by decide +kernel
theorem dX5_judge_1 : decode cX5_judge 1 = .ok (.iload_n 1, 1) := by decide +kernel
theorem dX5_judge_2 : decode cX5_judge 2 = .ok (.invokevirtual 237, 3) := by decide +kernel
theorem dX5_judge_5 : decode cX5_judge 5 = .ok (.ifCond .eq 13, 3) := by decide +kernel
theorem dX5_judge_8 : decode cX5_judge 8 = .ok (.aload_n 0, 1) := by decide +kernel
theorem dX5_judge_9 : decode cX5_judge 9 = .ok (.aload_n 0, 1) := by decide +kernel
theorem dX5_judge_10 : decode cX5_judge 10 = .ok (.iload_n 1, 1) := by decide +kernel
theorem dX5_judge_11 : decode cX5_judge 11 = .ok (.invokevirtual 237, 3) := by decide +kernel
theorem dX5_judge_14 : decode cX5_judge 14 = .ok (.invokevirtual 86, 3) := by decide +kernel
theorem dX5_judge_17 : decode cX5_judge 17 = .ok (.ireturn, 1) := by decide +kernel
theorem dX5_judge_18 : decode cX5_judge 18 = .ok (.aload_n 0, 1) := by decide +kernel
theorem dX5_judge_19 : decode cX5_judge 19 = .ok (.getfield 9, 3) := by decide +kernel
theorem dX5_judge_22 : decode cX5_judge 22 = .ok (.aload_n 0, 1) := by decide +kernel
theorem dX5_judge_23 : decode cX5_judge 23 = .ok (.getfield 16, 3) := by decide +kernel
theorem dX5_judge_26 : decode cX5_judge 26 = .ok (.invokestatic 67, 3) := by decide +kernel
theorem dX5_judge_29 : decode cX5_judge 29 = .ok (.iconst 0, 1) := by decide +kernel
theorem dX5_judge_30 : decode cX5_judge 30 = .ok (.istore_n 2, 1) := by decide +kernel
theorem dX5_judge_31 : decode cX5_judge 31 = .ok (.iload_n 2, 1) := by decide +kernel
theorem dX5_judge_32 : decode cX5_judge 32 = .ok (.aload_n 0, 1) := by decide +kernel
theorem dX5_judge_33 : decode cX5_judge 33 = .ok (.getfield 57, 3) := by decide +kernel
theorem dX5_judge_36 : decode cX5_judge 36 = .ok (.iload_n 1, 1) := by decide +kernel
theorem dX5_judge_37 : decode cX5_judge 37 = .ok (.iaload, 1) := by decide +kernel
theorem dX5_judge_38 : decode cX5_judge 38 = .ok (.if_icmp .ge 33, 3) := by decide +kernel
theorem dX5_judge_41 : decode cX5_judge 41 = .ok (.aload_n 0, 1) := by decide +kernel
theorem dX5_judge_42 : decode cX5_judge 42 = .ok (.getfield 60, 3) := by decide +kernel
theorem dX5_judge_45 : decode cX5_judge 45 = .ok (.bipush 40, 2) := by decide +kernel
theorem dX5_judge_47 : decode cX5_judge 47 = .ok (.iload_n 1, 1) := by decide +kernel
theorem dX5_judge_48 : decode cX5_judge 48 = .ok (.imul, 1) := by decide +kernel
theorem dX5_judge_49 : decode cX5_judge 49 = .ok (.iload_n 2, 1) := by decide +kernel
theorem dX5_judge_50 : decode cX5_judge 50 = .ok (.iadd, 1) := by decide +kernel
theorem dX5_judge_51 : decode cX5_judge 51 = .ok (.iaload, 1) := by decide +kernel
theorem dX5_judge_52 : decode cX5_judge 52 = .ok (.aload_n 0, 1) := by decide +kernel
theorem dX5_judge_53 : decode cX5_judge 53 = .ok (.iconst 0, 1) := by decide +kernel
theorem dX5_judge_54 : decode cX5_judge 54 = .ok (.iconst 0, 1) := by decide +kernel
theorem dX5_judge_55 : decode cX5_judge 55 = .ok (.invokevirtual 117, 3) := by decide +kernel
theorem dX5_judge_58 : decode cX5_judge 58 = .ok (.if_icmp .ne 13, 3) := by decide +kernel
theorem dX5_judge_61 : decode cX5_judge 61 = .ok (.aload_n 0, 1) := by decide +kernel
theorem dX5_judge_62 : decode cX5_judge 62 = .ok (.invokevirtual 156, 3) := by decide +kernel
theorem dX5_judge_65 : decode cX5_judge 65 = .ok (.iinc 2 1, 3) := by decide +kernel
theorem dX5_judge_68 : decode cX5_judge 68 = .ok (.goto (-37), 3) := by decide +kernel
theorem dX5_judge_71 : decode cX5_judge 71 = .ok (.aload_n 0, 1) := by decide +kernel
theorem dX5_judge_72 : decode cX5_judge 72 = .ok (.iload_n 2, 1) := by decide +kernel
theorem dX5_judge_73 : decode cX5_judge 73 = .ok (.aload_n 0, 1) := by decide +kernel
theorem dX5_judge_74 : decode cX5_judge 74 = .ok (.getfield 57, 3) := by decide +kernel
theorem dX5_judge_77 : decode cX5_judge 77 = .ok (.iload_n 1, 1) := by decide +kernel
theorem dX5_judge_78 : decode cX5_judge 78 = .ok (.iaload, 1) := by decide +kernel
theorem dX5_judge_79 : decode cX5_judge 79 = .ok (.if_icmp .ne 7, 3) := by decide +kernel
theorem dX5_judge_82 : decode cX5_judge 82 = .ok (.iconst 0, 1) := by decide +kernel
theorem dX5_judge_83 : decode cX5_judge 83 = .ok (.goto 6, 3) := by decide +kernel
theorem dX5_judge_86 : decode cX5_judge 86 = .ok (.iconst 1, 1) := by decide +kernel
theorem dX5_judge_87 : decode cX5_judge 87 = .ok (.iload_n 2, 1) := by decide +kernel
theorem dX5_judge_88 : decode cX5_judge 88 = .ok (.iadd, 1) := by decide +kernel
theorem dX5_judge_89 : decode cX5_judge 89 = .ok (.invokevirtual 178, 3) := by decide +kernel
theorem dX5_judge_92 : decode cX5_judge 92 = .ok (.ireturn, 1) := by decide +kernel
theorem dX5_image_0 : decode cX5_image 0 = .ok (.aload_n 0, 1) := by decide +kernel
theorem dX5_image_1 : decode cX5_image 1 = .ok (.getfield 9, 3) := by decide +kernel
theorem dX5_image_4 : decode cX5_image 4 = .ok (.aload_n 0, 1) := by decide +kernel
theorem dX5_image_5 : decode cX5_image 5 = .ok (.getfield 13, 3) := by decide +kernel
theorem dX5_image_8 : decode cX5_image 8 = .ok (.invokestatic 67, 3) := by decide +kernel
theorem dX5_image_11 : decode cX5_image 11 = .ok (.aload_n 0, 1) := by decide +kernel
theorem dX5_image_12 : decode cX5_image 12 = .ok (.iconst 1, 1) := by decide +kernel
theorem dX5_image_13 : decode cX5_image 13 = .ok (.putfield 365, 3) := by decide +kernel
theorem dX5_image_16 : decode cX5_image 16 = .ok (.iconst 1, 1) := by decide +kernel
theorem dX5_image_17 : decode cX5_image 17 = .ok (.ireturn, 1) := by decide +kernel
theorem dX5_undo_0 : decode cX5_undo 0 = .ok (.aload_n 0, 1) := by decide +kernel
theorem dX5_undo_1 : decode cX5_undo 1 = .ok (.getfield 365, 3) := by decide +kernel
theorem dX5_undo_4 : decode cX5_undo 4 = .ok (.ifCond .ne 10, 3) := by decide +kernel
theorem dX5_undo_7 : decode cX5_undo 7 = .ok (.aload_n 0, 1) := by decide +kernel
theorem dX5_undo_8 : decode cX5_undo 8 = .ok (.ldc 185, 2) := by decide +kernel
theorem dX5_undo_10 : decode cX5_undo 10 = .ok (.invokevirtual 86, 3) := by decide +kernel
theorem dX5_undo_13 : decode cX5_undo 13 = .ok (.ireturn, 1) := by decide +kernel
theorem dX5_undo_14 : decode cX5_undo 14 = .ok (.aload_n 0, 1) := by decide +kernel
theorem dX5_undo_15 : decode cX5_undo 15 = .ok (.getfield 13, 3) := by decide +kernel
theorem dX5_undo_18 : decode cX5_undo 18 = .ok (.aload_n 0, 1) := by decide +kernel
theorem dX5_undo_19 : decode cX5_undo 19 = .ok (.getfield 9, 3) := by decide +kernel
theorem dX5_undo_22 : decode cX5_undo 22 = .ok (.invokestatic 67, 3) := by decide +kernel
theorem dX5_undo_25 : decode cX5_undo 25 = .ok (.aload_n 0, 1) := by decide +kernel
theorem dX5_undo_26 : decode cX5_undo 26 = .ok (.getfield 9, 3) := by decide +kernel
theorem dX5_undo_29 : decode cX5_undo 29 = .ok (.iconst 0, 1) := by decide +kernel
theorem dX5_undo_30 : decode cX5_undo 30 = .ok (.iaload, 1) := by decide +kernel
theorem dX5_undo_31 : decode cX5_undo 31 = .ok (.ireturn, 1) := by decide +kernel
theorem dX5_tear_0 : decode cX5_tear 0 = .ok (.aload_n 0, 1) := by decide +kernel
theorem dX5_tear_1 : decode cX5_tear 1 = .ok (.getfield 365, 3) := by decide +kernel
theorem dX5_tear_4 : decode cX5_tear 4 = .ok (.ifCond .eq 7, 3) := by decide +kernel
theorem dX5_tear_7 : decode cX5_tear 7 = .ok (.iconst 1, 1) := by decide +kernel
theorem dX5_tear_8 : decode cX5_tear 8 = .ok (.goto 4, 3) := by decide +kernel
theorem dX5_tear_11 : decode cX5_tear 11 = .ok (.iconst 0, 1) := by decide +kernel
theorem dX5_tear_12 : decode cX5_tear 12 = .ok (.istore_n 1, 1) := by decide +kernel
theorem dX5_tear_13 : decode cX5_tear 13 = .ok (.aload_n 0, 1) := by decide +kernel
theorem dX5_tear_14 : decode cX5_tear 14 = .ok (.iconst 0, 1) := by decide +kernel
theorem dX5_tear_15 : decode cX5_tear 15 = .ok (.putfield 365, 3) := by decide +kernel
theorem dX5_tear_18 : decode cX5_tear 18 = .ok (.iload_n 1, 1) := by decide +kernel
theorem dX5_tear_19 : decode cX5_tear 19 = .ok (.ireturn, 1) := by decide +kernel
theorem dX5_count_0 : decode cX5_count 0 = .ok (.iconst 0, 1) := by decide +kernel
theorem dX5_count_1 : decode cX5_count 1 = .ok (.istore_n 2, 1) := by decide +kernel
theorem dX5_count_2 : decode cX5_count 2 = .ok (.iload_n 1, 1) := by decide +kernel
theorem dX5_count_3 : decode cX5_count 3 = .ok (.tableswitch 149 0 7 #[45, 52, 59, 64, 72, 101, 106, 113], 45) := by decide +kernel
theorem dX5_count_48 : decode cX5_count 48 = .ok (.aload_n 0, 1) := by decide +kernel
theorem dX5_count_49 : decode cX5_count 49 = .ok (.getfield 9, 3) := by decide +kernel
theorem dX5_count_52 : decode cX5_count 52 = .ok (.iconst 0, 1) := by decide +kernel
theorem dX5_count_53 : decode cX5_count 53 = .ok (.iaload, 1) := by decide +kernel
theorem dX5_count_54 : decode cX5_count 54 = .ok (.ireturn, 1) := by decide +kernel
theorem dX5_count_55 : decode cX5_count 55 = .ok (.aload_n 0, 1) := by decide +kernel
theorem dX5_count_56 : decode cX5_count 56 = .ok (.getfield 9, 3) := by decide +kernel
theorem dX5_count_59 : decode cX5_count 59 = .ok (.iconst 4, 1) := by decide +kernel
theorem dX5_count_60 : decode cX5_count 60 = .ok (.iaload, 1) := by decide +kernel
theorem dX5_count_61 : decode cX5_count 61 = .ok (.ireturn, 1) := by decide +kernel
theorem dX5_count_62 : decode cX5_count 62 = .ok (.aload_n 0, 1) := by decide +kernel
theorem dX5_count_63 : decode cX5_count 63 = .ok (.invokevirtual 175, 3) := by decide +kernel
theorem dX5_count_66 : decode cX5_count 66 = .ok (.ireturn, 1) := by decide +kernel
theorem dX5_count_67 : decode cX5_count 67 = .ok (.aload_n 0, 1) := by decide +kernel
theorem dX5_count_68 : decode cX5_count 68 = .ok (.invokevirtual 165, 3) := by decide +kernel
theorem dX5_count_71 : decode cX5_count 71 = .ok (.invokestatic 114, 3) := by decide +kernel
theorem dX5_count_74 : decode cX5_count 74 = .ok (.ireturn, 1) := by decide +kernel
theorem dX5_count_75 : decode cX5_count 75 = .ok (.iconst 0, 1) := by decide +kernel
theorem dX5_count_76 : decode cX5_count 76 = .ok (.istore_n 3, 1) := by decide +kernel
theorem dX5_count_77 : decode cX5_count 77 = .ok (.iload_n 3, 1) := by decide +kernel
theorem dX5_count_78 : decode cX5_count 78 = .ok (.aload_n 0, 1) := by decide +kernel
theorem dX5_count_79 : decode cX5_count 79 = .ok (.getfield 9, 3) := by decide +kernel
theorem dX5_count_82 : decode cX5_count 82 = .ok (.iconst 4, 1) := by decide +kernel
theorem dX5_count_83 : decode cX5_count 83 = .ok (.iaload, 1) := by decide +kernel
theorem dX5_count_84 : decode cX5_count 84 = .ok (.if_icmp .ge 18, 3) := by decide +kernel
theorem dX5_count_87 : decode cX5_count 87 = .ok (.iload_n 2, 1) := by decide +kernel
theorem dX5_count_88 : decode cX5_count 88 = .ok (.aload_n 0, 1) := by decide +kernel
theorem dX5_count_89 : decode cX5_count 89 = .ok (.iload_n 3, 1) := by decide +kernel
theorem dX5_count_90 : decode cX5_count 90 = .ok (.iconst 1, 1) := by decide +kernel
theorem dX5_count_91 : decode cX5_count 91 = .ok (.invokevirtual 98, 3) := by decide +kernel
theorem dX5_count_94 : decode cX5_count 94 = .ok (.iadd, 1) := by decide +kernel
theorem dX5_count_95 : decode cX5_count 95 = .ok (.istore_n 2, 1) := by decide +kernel
theorem dX5_count_96 : decode cX5_count 96 = .ok (.iinc 3 1, 3) := by decide +kernel
theorem dX5_count_99 : decode cX5_count 99 = .ok (.goto (-22), 3) := by decide +kernel
theorem dX5_count_102 : decode cX5_count 102 = .ok (.iload_n 2, 1) := by decide +kernel
theorem dX5_count_103 : decode cX5_count 103 = .ok (.ireturn, 1) := by decide +kernel
theorem dX5_count_104 : decode cX5_count 104 = .ok (.aload_n 0, 1) := by decide +kernel
theorem dX5_count_105 : decode cX5_count 105 = .ok (.getfield 257, 3) := by decide +kernel
theorem dX5_count_108 : decode cX5_count 108 = .ok (.ireturn, 1) := by decide +kernel
theorem dX5_count_109 : decode cX5_count 109 = .ok (.aload_n 0, 1) := by decide +kernel
theorem dX5_count_110 : decode cX5_count 110 = .ok (.getfield 9, 3) := by decide +kernel
theorem dX5_count_113 : decode cX5_count 113 = .ok (.iconst 5, 1) := by decide +kernel
theorem dX5_count_114 : decode cX5_count 114 = .ok (.iaload, 1) := by decide +kernel
theorem dX5_count_115 : decode cX5_count 115 = .ok (.ireturn, 1) := by decide +kernel
theorem dX5_count_116 : decode cX5_count 116 = .ok (.iconst 0, 1) := by decide +kernel
theorem dX5_count_117 : decode cX5_count 117 = .ok (.istore_n 3, 1) := by decide +kernel
theorem dX5_count_118 : decode cX5_count 118 = .ok (.iload_n 3, 1) := by decide +kernel
theorem dX5_count_119 : decode cX5_count 119 = .ok (.bipush 10, 2) := by decide +kernel
theorem dX5_count_121 : decode cX5_count 121 = .ok (.if_icmp .ge 29, 3) := by decide +kernel
theorem dX5_count_124 : decode cX5_count 124 = .ok (.iload_n 2, 1) := by decide +kernel
theorem dX5_count_125 : decode cX5_count 125 = .ok (.aload_n 0, 1) := by decide +kernel
theorem dX5_count_126 : decode cX5_count 126 = .ok (.getfield 9, 3) := by decide +kernel
theorem dX5_count_129 : decode cX5_count 129 = .ok (.bipush 6, 2) := by decide +kernel
theorem dX5_count_131 : decode cX5_count 131 = .ok (.iload_n 3, 1) := by decide +kernel
theorem dX5_count_132 : decode cX5_count 132 = .ok (.iadd, 1) := by decide +kernel
theorem dX5_count_133 : decode cX5_count 133 = .ok (.iaload, 1) := by decide +kernel
theorem dX5_count_134 : decode cX5_count 134 = .ok (.ifCond .ge 7, 3) := by decide +kernel
theorem dX5_count_137 : decode cX5_count 137 = .ok (.iconst 0, 1) := by decide +kernel
theorem dX5_count_138 : decode cX5_count 138 = .ok (.goto 4, 3) := by decide +kernel
theorem dX5_count_141 : decode cX5_count 141 = .ok (.iconst 1, 1) := by decide +kernel
theorem dX5_count_142 : decode cX5_count 142 = .ok (.iadd, 1) := by decide +kernel
theorem dX5_count_143 : decode cX5_count 143 = .ok (.istore_n 2, 1) := by decide +kernel
theorem dX5_count_144 : decode cX5_count 144 = .ok (.iinc 3 1, 3) := by decide +kernel
theorem dX5_count_147 : decode cX5_count 147 = .ok (.goto (-29), 3) := by decide +kernel
theorem dX5_count_150 : decode cX5_count 150 = .ok (.iload_n 2, 1) := by decide +kernel
theorem dX5_count_151 : decode cX5_count 151 = .ok (.ireturn, 1) := by decide +kernel
theorem dX5_count_152 : decode cX5_count 152 = .ok (.aload_n 0, 1) := by decide +kernel
theorem dX5_count_153 : decode cX5_count 153 = .ok (.ldc 66, 2) := by decide +kernel
theorem dX5_count_155 : decode cX5_count 155 = .ok (.invokevirtual 86, 3) := by decide +kernel
theorem dX5_count_158 : decode cX5_count 158 = .ok (.ireturn, 1) := by decide +kernel
theorem dX5_status_0 : decode cX5_status 0 = .ok (.iload_n 1, 1) := by decide +kernel
theorem dX5_status_1 : decode cX5_status 1 = .ok (.iconst (-1), 1) := by decide +kernel
theorem dX5_status_2 : decode cX5_status 2 = .ok (.bipush 6, 2) := by decide +kernel
theorem dX5_status_4 : decode cX5_status 4 = .ok (.invokestatic 71, 3) := by decide +kernel
theorem dX5_status_7 : decode cX5_status 7 = .ok (.ifCond .eq 14, 3) := by decide +kernel
theorem dX5_status_10 : decode cX5_status 10 = .ok (.aload_n 0, 1) := by decide +kernel
theorem dX5_status_11 : decode cX5_status 11 = .ok (.getfield 19, 3) := by decide +kernel
theorem dX5_status_14 : decode cX5_status 14 = .ok (.iload_n 1, 1) := by decide +kernel
theorem dX5_status_15 : decode cX5_status 15 = .ok (.iconst 1, 1) := by decide +kernel
theorem dX5_status_16 : decode cX5_status 16 = .ok (.iadd, 1) := by decide +kernel
theorem dX5_status_17 : decode cX5_status 17 = .ok (.iaload, 1) := by decide +kernel
theorem dX5_status_18 : decode cX5_status 18 = .ok (.goto 9, 3) := by decide +kernel
theorem dX5_status_21 : decode cX5_status 21 = .ok (.aload_n 0, 1) := by decide +kernel
theorem dX5_status_22 : decode cX5_status 22 = .ok (.ldc 66, 2) := by decide +kernel
theorem dX5_status_24 : decode cX5_status 24 = .ok (.invokevirtual 86, 3) := by decide +kernel
theorem dX5_status_27 : decode cX5_status 27 = .ok (.ireturn, 1) := by decide +kernel
end
section
theorem dL_law_0 : decode cL_law 0 = .ok (.new 7, 3) := by decide +kernel
theorem dL_law_3 : decode cL_law 3 = .ok (.dup, 1) := by decide +kernel
theorem dL_law_4 : decode cL_law 4 = .ok (.invokespecial 9, 3) := by decide +kernel
theorem dL_law_7 : decode cL_law 7 = .ok (.astore_n 1, 1) := by decide +kernel
theorem dL_law_8 : decode cL_law 8 = .ok (.new 10, 3) := by decide +kernel
theorem dL_law_11 : decode cL_law 11 = .ok (.dup, 1) := by decide +kernel
theorem dL_law_12 : decode cL_law 12 = .ok (.invokespecial 12, 3) := by decide +kernel
theorem dL_law_15 : decode cL_law 15 = .ok (.astore_n 2, 1) := by decide +kernel
theorem dL_law_16 : decode cL_law 16 = .ok (.iconst 0, 1) := by decide +kernel
theorem dL_law_17 : decode cL_law 17 = .ok (.istore_n 3, 1) := by decide +kernel
theorem dL_law_18 : decode cL_law 18 = .ok (.iload_n 3, 1) := by decide +kernel
theorem dL_law_19 : decode cL_law 19 = .ok (.aload_n 0, 1) := by decide +kernel
theorem dL_law_20 : decode cL_law 20 = .ok (.arraylength, 1) := by decide +kernel
theorem dL_law_21 : decode cL_law 21 = .ok (.bipush 6, 2) := by decide +kernel
theorem dL_law_23 : decode cL_law 23 = .ok (.isub, 1) := by decide +kernel
theorem dL_law_24 : decode cL_law 24 = .ok (.if_icmp .gt 1676, 3) := by decide +kernel
theorem dL_law_27 : decode cL_law 27 = .ok (.aload_n 0, 1) := by decide +kernel
theorem dL_law_28 : decode cL_law 28 = .ok (.iload_n 3, 1) := by decide +kernel
theorem dL_law_29 : decode cL_law 29 = .ok (.iaload, 1) := by decide +kernel
theorem dL_law_30 : decode cL_law 30 = .ok (.bipush 63, 2) := by decide +kernel
theorem dL_law_32 : decode cL_law 32 = .ok (.iand, 1) := by decide +kernel
theorem dL_law_33 : decode cL_law 33 = .ok (.tableswitch 1661 0 51 #[223, 246, 279, 322, 355, 398, 431, 454, 477, 500, 523, 546, 569, 602, 625, 658, 671, 704, 727, 750, 784, 807, 830, 853, 876, 899, 922, 965, 998, 1021, 1054, 1087, 1120, 1153, 1176, 1209, 1233, 1256, 1289, 1302, 1315, 1348, 1381, 1424, 1467, 1530, 1553, 1576, 1589, 1602, 1615, 1638], 223) := by decide +kernel
theorem dL_law_256 : decode cL_law 256 = .ok (.aload_n 1, 1) := by decide +kernel
theorem dL_law_257 : decode cL_law 257 = .ok (.aload_n 0, 1) := by decide +kernel
theorem dL_law_258 : decode cL_law 258 = .ok (.iload_n 3, 1) := by decide +kernel
theorem dL_law_259 : decode cL_law 259 = .ok (.iconst 1, 1) := by decide +kernel
theorem dL_law_260 : decode cL_law 260 = .ok (.iadd, 1) := by decide +kernel
theorem dL_law_261 : decode cL_law 261 = .ok (.iaload, 1) := by decide +kernel
theorem dL_law_262 : decode cL_law 262 = .ok (.invokevirtual 13, 3) := by decide +kernel
theorem dL_law_265 : decode cL_law 265 = .ok (.aload_n 2, 1) := by decide +kernel
theorem dL_law_266 : decode cL_law 266 = .ok (.aload_n 0, 1) := by decide +kernel
theorem dL_law_267 : decode cL_law 267 = .ok (.iload_n 3, 1) := by decide +kernel
theorem dL_law_268 : decode cL_law 268 = .ok (.iconst 1, 1) := by decide +kernel
theorem dL_law_269 : decode cL_law 269 = .ok (.iadd, 1) := by decide +kernel
theorem dL_law_270 : decode cL_law 270 = .ok (.iaload, 1) := by decide +kernel
theorem dL_law_271 : decode cL_law 271 = .ok (.invokevirtual 17, 3) := by decide +kernel
theorem dL_law_274 : decode cL_law 274 = .ok (.if_icmp .eq 1420, 3) := by decide +kernel
theorem dL_law_277 : decode cL_law 277 = .ok (.iconst 0, 1) := by decide +kernel
theorem dL_law_278 : decode cL_law 278 = .ok (.ireturn, 1) := by decide +kernel
theorem dL_law_279 : decode cL_law 279 = .ok (.aload_n 1, 1) := by decide +kernel
theorem dL_law_280 : decode cL_law 280 = .ok (.aload_n 0, 1) := by decide +kernel
theorem dL_law_281 : decode cL_law 281 = .ok (.iload_n 3, 1) := by decide +kernel
theorem dL_law_282 : decode cL_law 282 = .ok (.iconst 1, 1) := by decide +kernel
theorem dL_law_283 : decode cL_law 283 = .ok (.iadd, 1) := by decide +kernel
theorem dL_law_284 : decode cL_law 284 = .ok (.iaload, 1) := by decide +kernel
theorem dL_law_285 : decode cL_law 285 = .ok (.aload_n 0, 1) := by decide +kernel
theorem dL_law_286 : decode cL_law 286 = .ok (.iload_n 3, 1) := by decide +kernel
theorem dL_law_287 : decode cL_law 287 = .ok (.iconst 2, 1) := by decide +kernel
theorem dL_law_288 : decode cL_law 288 = .ok (.iadd, 1) := by decide +kernel
theorem dL_law_289 : decode cL_law 289 = .ok (.iaload, 1) := by decide +kernel
theorem dL_law_290 : decode cL_law 290 = .ok (.invokevirtual 18, 3) := by decide +kernel
theorem dL_law_293 : decode cL_law 293 = .ok (.aload_n 2, 1) := by decide +kernel
theorem dL_law_294 : decode cL_law 294 = .ok (.aload_n 0, 1) := by decide +kernel
theorem dL_law_295 : decode cL_law 295 = .ok (.iload_n 3, 1) := by decide +kernel
theorem dL_law_296 : decode cL_law 296 = .ok (.iconst 1, 1) := by decide +kernel
theorem dL_law_297 : decode cL_law 297 = .ok (.iadd, 1) := by decide +kernel
theorem dL_law_298 : decode cL_law 298 = .ok (.iaload, 1) := by decide +kernel
theorem dL_law_299 : decode cL_law 299 = .ok (.aload_n 0, 1) := by decide +kernel
theorem dL_law_300 : decode cL_law 300 = .ok (.iload_n 3, 1) := by decide +kernel
theorem dL_law_301 : decode cL_law 301 = .ok (.iconst 2, 1) := by decide +kernel
theorem dL_law_302 : decode cL_law 302 = .ok (.iadd, 1) := by decide +kernel
theorem dL_law_303 : decode cL_law 303 = .ok (.iaload, 1) := by decide +kernel
theorem dL_law_304 : decode cL_law 304 = .ok (.invokevirtual 22, 3) := by decide +kernel
theorem dL_law_307 : decode cL_law 307 = .ok (.if_icmp .eq 1387, 3) := by decide +kernel
theorem dL_law_310 : decode cL_law 310 = .ok (.iconst 0, 1) := by decide +kernel
theorem dL_law_311 : decode cL_law 311 = .ok (.ireturn, 1) := by decide +kernel
theorem dL_law_312 : decode cL_law 312 = .ok (.aload_n 1, 1) := by decide +kernel
theorem dL_law_313 : decode cL_law 313 = .ok (.aload_n 0, 1) := by decide +kernel
theorem dL_law_314 : decode cL_law 314 = .ok (.iload_n 3, 1) := by decide +kernel
theorem dL_law_315 : decode cL_law 315 = .ok (.iconst 1, 1) := by decide +kernel
theorem dL_law_316 : decode cL_law 316 = .ok (.iadd, 1) := by decide +kernel
theorem dL_law_317 : decode cL_law 317 = .ok (.iaload, 1) := by decide +kernel
theorem dL_law_318 : decode cL_law 318 = .ok (.aload_n 0, 1) := by decide +kernel
theorem dL_law_319 : decode cL_law 319 = .ok (.iload_n 3, 1) := by decide +kernel
theorem dL_law_320 : decode cL_law 320 = .ok (.iconst 2, 1) := by decide +kernel
theorem dL_law_321 : decode cL_law 321 = .ok (.iadd, 1) := by decide +kernel
theorem dL_law_322 : decode cL_law 322 = .ok (.iaload, 1) := by decide +kernel
theorem dL_law_323 : decode cL_law 323 = .ok (.aload_n 0, 1) := by decide +kernel
theorem dL_law_324 : decode cL_law 324 = .ok (.iload_n 3, 1) := by decide +kernel
theorem dL_law_325 : decode cL_law 325 = .ok (.iconst 3, 1) := by decide +kernel
theorem dL_law_326 : decode cL_law 326 = .ok (.iadd, 1) := by decide +kernel
theorem dL_law_327 : decode cL_law 327 = .ok (.iaload, 1) := by decide +kernel
theorem dL_law_328 : decode cL_law 328 = .ok (.invokevirtual 23, 3) := by decide +kernel
theorem dL_law_331 : decode cL_law 331 = .ok (.aload_n 2, 1) := by decide +kernel
theorem dL_law_332 : decode cL_law 332 = .ok (.aload_n 0, 1) := by decide +kernel
theorem dL_law_333 : decode cL_law 333 = .ok (.iload_n 3, 1) := by decide +kernel
theorem dL_law_334 : decode cL_law 334 = .ok (.iconst 1, 1) := by decide +kernel
theorem dL_law_335 : decode cL_law 335 = .ok (.iadd, 1) := by decide +kernel
theorem dL_law_336 : decode cL_law 336 = .ok (.iaload, 1) := by decide +kernel
theorem dL_law_337 : decode cL_law 337 = .ok (.aload_n 0, 1) := by decide +kernel
theorem dL_law_338 : decode cL_law 338 = .ok (.iload_n 3, 1) := by decide +kernel
theorem dL_law_339 : decode cL_law 339 = .ok (.iconst 2, 1) := by decide +kernel
theorem dL_law_340 : decode cL_law 340 = .ok (.iadd, 1) := by decide +kernel
theorem dL_law_341 : decode cL_law 341 = .ok (.iaload, 1) := by decide +kernel
theorem dL_law_342 : decode cL_law 342 = .ok (.aload_n 0, 1) := by decide +kernel
theorem dL_law_343 : decode cL_law 343 = .ok (.iload_n 3, 1) := by decide +kernel
theorem dL_law_344 : decode cL_law 344 = .ok (.iconst 3, 1) := by decide +kernel
theorem dL_law_345 : decode cL_law 345 = .ok (.iadd, 1) := by decide +kernel
theorem dL_law_346 : decode cL_law 346 = .ok (.iaload, 1) := by decide +kernel
theorem dL_law_347 : decode cL_law 347 = .ok (.invokevirtual 27, 3) := by decide +kernel
theorem dL_law_350 : decode cL_law 350 = .ok (.if_icmp .eq 1344, 3) := by decide +kernel
theorem dL_law_353 : decode cL_law 353 = .ok (.iconst 0, 1) := by decide +kernel
theorem dL_law_354 : decode cL_law 354 = .ok (.ireturn, 1) := by decide +kernel
theorem dL_law_355 : decode cL_law 355 = .ok (.aload_n 1, 1) := by decide +kernel
theorem dL_law_356 : decode cL_law 356 = .ok (.aload_n 0, 1) := by decide +kernel
theorem dL_law_357 : decode cL_law 357 = .ok (.iload_n 3, 1) := by decide +kernel
theorem dL_law_358 : decode cL_law 358 = .ok (.iconst 1, 1) := by decide +kernel
theorem dL_law_359 : decode cL_law 359 = .ok (.iadd, 1) := by decide +kernel
theorem dL_law_360 : decode cL_law 360 = .ok (.iaload, 1) := by decide +kernel
theorem dL_law_361 : decode cL_law 361 = .ok (.aload_n 0, 1) := by decide +kernel
theorem dL_law_362 : decode cL_law 362 = .ok (.iload_n 3, 1) := by decide +kernel
theorem dL_law_363 : decode cL_law 363 = .ok (.iconst 2, 1) := by decide +kernel
theorem dL_law_364 : decode cL_law 364 = .ok (.iadd, 1) := by decide +kernel
theorem dL_law_365 : decode cL_law 365 = .ok (.iaload, 1) := by decide +kernel
theorem dL_law_366 : decode cL_law 366 = .ok (.invokevirtual 28, 3) := by decide +kernel
theorem dL_law_369 : decode cL_law 369 = .ok (.aload_n 2, 1) := by decide +kernel
theorem dL_law_370 : decode cL_law 370 = .ok (.aload_n 0, 1) := by decide +kernel
theorem dL_law_371 : decode cL_law 371 = .ok (.iload_n 3, 1) := by decide +kernel
theorem dL_law_372 : decode cL_law 372 = .ok (.iconst 1, 1) := by decide +kernel
theorem dL_law_373 : decode cL_law 373 = .ok (.iadd, 1) := by decide +kernel
theorem dL_law_374 : decode cL_law 374 = .ok (.iaload, 1) := by decide +kernel
theorem dL_law_375 : decode cL_law 375 = .ok (.aload_n 0, 1) := by decide +kernel
theorem dL_law_376 : decode cL_law 376 = .ok (.iload_n 3, 1) := by decide +kernel
theorem dL_law_377 : decode cL_law 377 = .ok (.iconst 2, 1) := by decide +kernel
theorem dL_law_378 : decode cL_law 378 = .ok (.iadd, 1) := by decide +kernel
theorem dL_law_379 : decode cL_law 379 = .ok (.iaload, 1) := by decide +kernel
theorem dL_law_380 : decode cL_law 380 = .ok (.invokevirtual 31, 3) := by decide +kernel
theorem dL_law_383 : decode cL_law 383 = .ok (.if_icmp .eq 1311, 3) := by decide +kernel
theorem dL_law_386 : decode cL_law 386 = .ok (.iconst 0, 1) := by decide +kernel
theorem dL_law_387 : decode cL_law 387 = .ok (.ireturn, 1) := by decide +kernel
theorem dL_law_388 : decode cL_law 388 = .ok (.aload_n 1, 1) := by decide +kernel
theorem dL_law_389 : decode cL_law 389 = .ok (.aload_n 0, 1) := by decide +kernel
theorem dL_law_390 : decode cL_law 390 = .ok (.iload_n 3, 1) := by decide +kernel
theorem dL_law_391 : decode cL_law 391 = .ok (.iconst 1, 1) := by decide +kernel
theorem dL_law_392 : decode cL_law 392 = .ok (.iadd, 1) := by decide +kernel
theorem dL_law_393 : decode cL_law 393 = .ok (.iaload, 1) := by decide +kernel
theorem dL_law_394 : decode cL_law 394 = .ok (.aload_n 0, 1) := by decide +kernel
theorem dL_law_395 : decode cL_law 395 = .ok (.iload_n 3, 1) := by decide +kernel
theorem dL_law_396 : decode cL_law 396 = .ok (.iconst 2, 1) := by decide +kernel
theorem dL_law_397 : decode cL_law 397 = .ok (.iadd, 1) := by decide +kernel
theorem dL_law_398 : decode cL_law 398 = .ok (.iaload, 1) := by decide +kernel
theorem dL_law_399 : decode cL_law 399 = .ok (.aload_n 0, 1) := by decide +kernel
theorem dL_law_400 : decode cL_law 400 = .ok (.iload_n 3, 1) := by decide +kernel
theorem dL_law_401 : decode cL_law 401 = .ok (.iconst 3, 1) := by decide +kernel
theorem dL_law_402 : decode cL_law 402 = .ok (.iadd, 1) := by decide +kernel
theorem dL_law_403 : decode cL_law 403 = .ok (.iaload, 1) := by decide +kernel
theorem dL_law_404 : decode cL_law 404 = .ok (.invokevirtual 32, 3) := by decide +kernel
theorem dL_law_407 : decode cL_law 407 = .ok (.aload_n 2, 1) := by decide +kernel
theorem dL_law_408 : decode cL_law 408 = .ok (.aload_n 0, 1) := by decide +kernel
theorem dL_law_409 : decode cL_law 409 = .ok (.iload_n 3, 1) := by decide +kernel
theorem dL_law_410 : decode cL_law 410 = .ok (.iconst 1, 1) := by decide +kernel
theorem dL_law_411 : decode cL_law 411 = .ok (.iadd, 1) := by decide +kernel
theorem dL_law_412 : decode cL_law 412 = .ok (.iaload, 1) := by decide +kernel
theorem dL_law_413 : decode cL_law 413 = .ok (.aload_n 0, 1) := by decide +kernel
theorem dL_law_414 : decode cL_law 414 = .ok (.iload_n 3, 1) := by decide +kernel
theorem dL_law_415 : decode cL_law 415 = .ok (.iconst 2, 1) := by decide +kernel
theorem dL_law_416 : decode cL_law 416 = .ok (.iadd, 1) := by decide +kernel
theorem dL_law_417 : decode cL_law 417 = .ok (.iaload, 1) := by decide +kernel
theorem dL_law_418 : decode cL_law 418 = .ok (.aload_n 0, 1) := by decide +kernel
theorem dL_law_419 : decode cL_law 419 = .ok (.iload_n 3, 1) := by decide +kernel
theorem dL_law_420 : decode cL_law 420 = .ok (.iconst 3, 1) := by decide +kernel
theorem dL_law_421 : decode cL_law 421 = .ok (.iadd, 1) := by decide +kernel
theorem dL_law_422 : decode cL_law 422 = .ok (.iaload, 1) := by decide +kernel
theorem dL_law_423 : decode cL_law 423 = .ok (.invokevirtual 35, 3) := by decide +kernel
theorem dL_law_426 : decode cL_law 426 = .ok (.if_icmp .eq 1268, 3) := by decide +kernel
theorem dL_law_429 : decode cL_law 429 = .ok (.iconst 0, 1) := by decide +kernel
theorem dL_law_430 : decode cL_law 430 = .ok (.ireturn, 1) := by decide +kernel
theorem dL_law_431 : decode cL_law 431 = .ok (.aload_n 1, 1) := by decide +kernel
theorem dL_law_432 : decode cL_law 432 = .ok (.aload_n 0, 1) := by decide +kernel
theorem dL_law_433 : decode cL_law 433 = .ok (.iload_n 3, 1) := by decide +kernel
theorem dL_law_434 : decode cL_law 434 = .ok (.iconst 1, 1) := by decide +kernel
theorem dL_law_435 : decode cL_law 435 = .ok (.iadd, 1) := by decide +kernel
theorem dL_law_436 : decode cL_law 436 = .ok (.iaload, 1) := by decide +kernel
theorem dL_law_437 : decode cL_law 437 = .ok (.aload_n 0, 1) := by decide +kernel
theorem dL_law_438 : decode cL_law 438 = .ok (.iload_n 3, 1) := by decide +kernel
theorem dL_law_439 : decode cL_law 439 = .ok (.iconst 2, 1) := by decide +kernel
theorem dL_law_440 : decode cL_law 440 = .ok (.iadd, 1) := by decide +kernel
theorem dL_law_441 : decode cL_law 441 = .ok (.iaload, 1) := by decide +kernel
theorem dL_law_442 : decode cL_law 442 = .ok (.invokevirtual 36, 3) := by decide +kernel
theorem dL_law_445 : decode cL_law 445 = .ok (.aload_n 2, 1) := by decide +kernel
theorem dL_law_446 : decode cL_law 446 = .ok (.aload_n 0, 1) := by decide +kernel
theorem dL_law_447 : decode cL_law 447 = .ok (.iload_n 3, 1) := by decide +kernel
theorem dL_law_448 : decode cL_law 448 = .ok (.iconst 1, 1) := by decide +kernel
theorem dL_law_449 : decode cL_law 449 = .ok (.iadd, 1) := by decide +kernel
theorem dL_law_450 : decode cL_law 450 = .ok (.iaload, 1) := by decide +kernel
theorem dL_law_451 : decode cL_law 451 = .ok (.aload_n 0, 1) := by decide +kernel
theorem dL_law_452 : decode cL_law 452 = .ok (.iload_n 3, 1) := by decide +kernel
theorem dL_law_453 : decode cL_law 453 = .ok (.iconst 2, 1) := by decide +kernel
theorem dL_law_454 : decode cL_law 454 = .ok (.iadd, 1) := by decide +kernel
theorem dL_law_455 : decode cL_law 455 = .ok (.iaload, 1) := by decide +kernel
theorem dL_law_456 : decode cL_law 456 = .ok (.invokevirtual 39, 3) := by decide +kernel
theorem dL_law_459 : decode cL_law 459 = .ok (.if_icmp .eq 1235, 3) := by decide +kernel
theorem dL_law_462 : decode cL_law 462 = .ok (.iconst 0, 1) := by decide +kernel
theorem dL_law_463 : decode cL_law 463 = .ok (.ireturn, 1) := by decide +kernel
theorem dL_law_464 : decode cL_law 464 = .ok (.aload_n 1, 1) := by decide +kernel
theorem dL_law_465 : decode cL_law 465 = .ok (.aload_n 0, 1) := by decide +kernel
theorem dL_law_466 : decode cL_law 466 = .ok (.iload_n 3, 1) := by decide +kernel
theorem dL_law_467 : decode cL_law 467 = .ok (.iconst 1, 1) := by decide +kernel
theorem dL_law_468 : decode cL_law 468 = .ok (.iadd, 1) := by decide +kernel
theorem dL_law_469 : decode cL_law 469 = .ok (.iaload, 1) := by decide +kernel
theorem dL_law_470 : decode cL_law 470 = .ok (.invokevirtual 40, 3) := by decide +kernel
theorem dL_law_473 : decode cL_law 473 = .ok (.aload_n 2, 1) := by decide +kernel
theorem dL_law_474 : decode cL_law 474 = .ok (.aload_n 0, 1) := by decide +kernel
theorem dL_law_475 : decode cL_law 475 = .ok (.iload_n 3, 1) := by decide +kernel
theorem dL_law_476 : decode cL_law 476 = .ok (.iconst 1, 1) := by decide +kernel
theorem dL_law_477 : decode cL_law 477 = .ok (.iadd, 1) := by decide +kernel
theorem dL_law_478 : decode cL_law 478 = .ok (.iaload, 1) := by decide +kernel
theorem dL_law_479 : decode cL_law 479 = .ok (.invokevirtual 43, 3) := by decide +kernel
theorem dL_law_482 : decode cL_law 482 = .ok (.if_icmp .eq 1212, 3) := by decide +kernel
theorem dL_law_485 : decode cL_law 485 = .ok (.iconst 0, 1) := by decide +kernel
theorem dL_law_486 : decode cL_law 486 = .ok (.ireturn, 1) := by decide +kernel
theorem dL_law_487 : decode cL_law 487 = .ok (.aload_n 1, 1) := by decide +kernel
theorem dL_law_488 : decode cL_law 488 = .ok (.aload_n 0, 1) := by decide +kernel
theorem dL_law_489 : decode cL_law 489 = .ok (.iload_n 3, 1) := by decide +kernel
theorem dL_law_490 : decode cL_law 490 = .ok (.iconst 1, 1) := by decide +kernel
theorem dL_law_491 : decode cL_law 491 = .ok (.iadd, 1) := by decide +kernel
theorem dL_law_492 : decode cL_law 492 = .ok (.iaload, 1) := by decide +kernel
theorem dL_law_493 : decode cL_law 493 = .ok (.invokevirtual 44, 3) := by decide +kernel
theorem dL_law_496 : decode cL_law 496 = .ok (.aload_n 2, 1) := by decide +kernel
theorem dL_law_497 : decode cL_law 497 = .ok (.aload_n 0, 1) := by decide +kernel
theorem dL_law_498 : decode cL_law 498 = .ok (.iload_n 3, 1) := by decide +kernel
theorem dL_law_499 : decode cL_law 499 = .ok (.iconst 1, 1) := by decide +kernel
theorem dL_law_500 : decode cL_law 500 = .ok (.iadd, 1) := by decide +kernel
theorem dL_law_501 : decode cL_law 501 = .ok (.iaload, 1) := by decide +kernel
theorem dL_law_502 : decode cL_law 502 = .ok (.invokevirtual 47, 3) := by decide +kernel
theorem dL_law_505 : decode cL_law 505 = .ok (.if_icmp .eq 1189, 3) := by decide +kernel
theorem dL_law_508 : decode cL_law 508 = .ok (.iconst 0, 1) := by decide +kernel
theorem dL_law_509 : decode cL_law 509 = .ok (.ireturn, 1) := by decide +kernel
theorem dL_law_510 : decode cL_law 510 = .ok (.aload_n 1, 1) := by decide +kernel
theorem dL_law_511 : decode cL_law 511 = .ok (.aload_n 0, 1) := by decide +kernel
theorem dL_law_512 : decode cL_law 512 = .ok (.iload_n 3, 1) := by decide +kernel
theorem dL_law_513 : decode cL_law 513 = .ok (.iconst 1, 1) := by decide +kernel
theorem dL_law_514 : decode cL_law 514 = .ok (.iadd, 1) := by decide +kernel
theorem dL_law_515 : decode cL_law 515 = .ok (.iaload, 1) := by decide +kernel
theorem dL_law_516 : decode cL_law 516 = .ok (.invokevirtual 48, 3) := by decide +kernel
theorem dL_law_519 : decode cL_law 519 = .ok (.aload_n 2, 1) := by decide +kernel
theorem dL_law_520 : decode cL_law 520 = .ok (.aload_n 0, 1) := by decide +kernel
theorem dL_law_521 : decode cL_law 521 = .ok (.iload_n 3, 1) := by decide +kernel
theorem dL_law_522 : decode cL_law 522 = .ok (.iconst 1, 1) := by decide +kernel
theorem dL_law_523 : decode cL_law 523 = .ok (.iadd, 1) := by decide +kernel
theorem dL_law_524 : decode cL_law 524 = .ok (.iaload, 1) := by decide +kernel
theorem dL_law_525 : decode cL_law 525 = .ok (.invokevirtual 51, 3) := by decide +kernel
theorem dL_law_528 : decode cL_law 528 = .ok (.if_icmp .eq 1166, 3) := by decide +kernel
theorem dL_law_531 : decode cL_law 531 = .ok (.iconst 0, 1) := by decide +kernel
theorem dL_law_532 : decode cL_law 532 = .ok (.ireturn, 1) := by decide +kernel
theorem dL_law_533 : decode cL_law 533 = .ok (.aload_n 1, 1) := by decide +kernel
theorem dL_law_534 : decode cL_law 534 = .ok (.aload_n 0, 1) := by decide +kernel
theorem dL_law_535 : decode cL_law 535 = .ok (.iload_n 3, 1) := by decide +kernel
theorem dL_law_536 : decode cL_law 536 = .ok (.iconst 1, 1) := by decide +kernel
theorem dL_law_537 : decode cL_law 537 = .ok (.iadd, 1) := by decide +kernel
theorem dL_law_538 : decode cL_law 538 = .ok (.iaload, 1) := by decide +kernel
theorem dL_law_539 : decode cL_law 539 = .ok (.invokevirtual 52, 3) := by decide +kernel
theorem dL_law_542 : decode cL_law 542 = .ok (.aload_n 2, 1) := by decide +kernel
theorem dL_law_543 : decode cL_law 543 = .ok (.aload_n 0, 1) := by decide +kernel
theorem dL_law_544 : decode cL_law 544 = .ok (.iload_n 3, 1) := by decide +kernel
theorem dL_law_545 : decode cL_law 545 = .ok (.iconst 1, 1) := by decide +kernel
theorem dL_law_546 : decode cL_law 546 = .ok (.iadd, 1) := by decide +kernel
theorem dL_law_547 : decode cL_law 547 = .ok (.iaload, 1) := by decide +kernel
theorem dL_law_548 : decode cL_law 548 = .ok (.invokevirtual 55, 3) := by decide +kernel
theorem dL_law_551 : decode cL_law 551 = .ok (.if_icmp .eq 1143, 3) := by decide +kernel
theorem dL_law_554 : decode cL_law 554 = .ok (.iconst 0, 1) := by decide +kernel
theorem dL_law_555 : decode cL_law 555 = .ok (.ireturn, 1) := by decide +kernel
theorem dL_law_556 : decode cL_law 556 = .ok (.aload_n 1, 1) := by decide +kernel
theorem dL_law_557 : decode cL_law 557 = .ok (.aload_n 0, 1) := by decide +kernel
theorem dL_law_558 : decode cL_law 558 = .ok (.iload_n 3, 1) := by decide +kernel
theorem dL_law_559 : decode cL_law 559 = .ok (.iconst 1, 1) := by decide +kernel
theorem dL_law_560 : decode cL_law 560 = .ok (.iadd, 1) := by decide +kernel
theorem dL_law_561 : decode cL_law 561 = .ok (.iaload, 1) := by decide +kernel
theorem dL_law_562 : decode cL_law 562 = .ok (.invokevirtual 56, 3) := by decide +kernel
theorem dL_law_565 : decode cL_law 565 = .ok (.aload_n 2, 1) := by decide +kernel
theorem dL_law_566 : decode cL_law 566 = .ok (.aload_n 0, 1) := by decide +kernel
theorem dL_law_567 : decode cL_law 567 = .ok (.iload_n 3, 1) := by decide +kernel
theorem dL_law_568 : decode cL_law 568 = .ok (.iconst 1, 1) := by decide +kernel
theorem dL_law_569 : decode cL_law 569 = .ok (.iadd, 1) := by decide +kernel
theorem dL_law_570 : decode cL_law 570 = .ok (.iaload, 1) := by decide +kernel
theorem dL_law_571 : decode cL_law 571 = .ok (.invokevirtual 59, 3) := by decide +kernel
theorem dL_law_574 : decode cL_law 574 = .ok (.if_icmp .eq 1120, 3) := by decide +kernel
theorem dL_law_577 : decode cL_law 577 = .ok (.iconst 0, 1) := by decide +kernel
theorem dL_law_578 : decode cL_law 578 = .ok (.ireturn, 1) := by decide +kernel
theorem dL_law_579 : decode cL_law 579 = .ok (.aload_n 1, 1) := by decide +kernel
theorem dL_law_580 : decode cL_law 580 = .ok (.aload_n 0, 1) := by decide +kernel
theorem dL_law_581 : decode cL_law 581 = .ok (.iload_n 3, 1) := by decide +kernel
theorem dL_law_582 : decode cL_law 582 = .ok (.iconst 1, 1) := by decide +kernel
theorem dL_law_583 : decode cL_law 583 = .ok (.iadd, 1) := by decide +kernel
theorem dL_law_584 : decode cL_law 584 = .ok (.iaload, 1) := by decide +kernel
theorem dL_law_585 : decode cL_law 585 = .ok (.invokevirtual 60, 3) := by decide +kernel
theorem dL_law_588 : decode cL_law 588 = .ok (.aload_n 2, 1) := by decide +kernel
theorem dL_law_589 : decode cL_law 589 = .ok (.aload_n 0, 1) := by decide +kernel
theorem dL_law_590 : decode cL_law 590 = .ok (.iload_n 3, 1) := by decide +kernel
theorem dL_law_591 : decode cL_law 591 = .ok (.iconst 1, 1) := by decide +kernel
theorem dL_law_592 : decode cL_law 592 = .ok (.iadd, 1) := by decide +kernel
theorem dL_law_593 : decode cL_law 593 = .ok (.iaload, 1) := by decide +kernel
theorem dL_law_594 : decode cL_law 594 = .ok (.invokevirtual 63, 3) := by decide +kernel
theorem dL_law_597 : decode cL_law 597 = .ok (.if_icmp .eq 1097, 3) := by decide +kernel
theorem dL_law_600 : decode cL_law 600 = .ok (.iconst 0, 1) := by decide +kernel
theorem dL_law_601 : decode cL_law 601 = .ok (.ireturn, 1) := by decide +kernel
theorem dL_law_602 : decode cL_law 602 = .ok (.aload_n 1, 1) := by decide +kernel
theorem dL_law_603 : decode cL_law 603 = .ok (.aload_n 0, 1) := by decide +kernel
theorem dL_law_604 : decode cL_law 604 = .ok (.iload_n 3, 1) := by decide +kernel
theorem dL_law_605 : decode cL_law 605 = .ok (.iconst 1, 1) := by decide +kernel
theorem dL_law_606 : decode cL_law 606 = .ok (.iadd, 1) := by decide +kernel
theorem dL_law_607 : decode cL_law 607 = .ok (.iaload, 1) := by decide +kernel
theorem dL_law_608 : decode cL_law 608 = .ok (.aload_n 0, 1) := by decide +kernel
theorem dL_law_609 : decode cL_law 609 = .ok (.iload_n 3, 1) := by decide +kernel
theorem dL_law_610 : decode cL_law 610 = .ok (.iconst 2, 1) := by decide +kernel
theorem dL_law_611 : decode cL_law 611 = .ok (.iadd, 1) := by decide +kernel
theorem dL_law_612 : decode cL_law 612 = .ok (.iaload, 1) := by decide +kernel
theorem dL_law_613 : decode cL_law 613 = .ok (.invokevirtual 64, 3) := by decide +kernel
theorem dL_law_616 : decode cL_law 616 = .ok (.aload_n 2, 1) := by decide +kernel
theorem dL_law_617 : decode cL_law 617 = .ok (.aload_n 0, 1) := by decide +kernel
theorem dL_law_618 : decode cL_law 618 = .ok (.iload_n 3, 1) := by decide +kernel
theorem dL_law_619 : decode cL_law 619 = .ok (.iconst 1, 1) := by decide +kernel
theorem dL_law_620 : decode cL_law 620 = .ok (.iadd, 1) := by decide +kernel
theorem dL_law_621 : decode cL_law 621 = .ok (.iaload, 1) := by decide +kernel
theorem dL_law_622 : decode cL_law 622 = .ok (.aload_n 0, 1) := by decide +kernel
theorem dL_law_623 : decode cL_law 623 = .ok (.iload_n 3, 1) := by decide +kernel
theorem dL_law_624 : decode cL_law 624 = .ok (.iconst 2, 1) := by decide +kernel
theorem dL_law_625 : decode cL_law 625 = .ok (.iadd, 1) := by decide +kernel
theorem dL_law_626 : decode cL_law 626 = .ok (.iaload, 1) := by decide +kernel
theorem dL_law_627 : decode cL_law 627 = .ok (.invokevirtual 67, 3) := by decide +kernel
theorem dL_law_630 : decode cL_law 630 = .ok (.if_icmp .eq 1064, 3) := by decide +kernel
theorem dL_law_633 : decode cL_law 633 = .ok (.iconst 0, 1) := by decide +kernel
theorem dL_law_634 : decode cL_law 634 = .ok (.ireturn, 1) := by decide +kernel
theorem dL_law_635 : decode cL_law 635 = .ok (.aload_n 1, 1) := by decide +kernel
theorem dL_law_636 : decode cL_law 636 = .ok (.aload_n 0, 1) := by decide +kernel
theorem dL_law_637 : decode cL_law 637 = .ok (.iload_n 3, 1) := by decide +kernel
theorem dL_law_638 : decode cL_law 638 = .ok (.iconst 1, 1) := by decide +kernel
theorem dL_law_639 : decode cL_law 639 = .ok (.iadd, 1) := by decide +kernel
theorem dL_law_640 : decode cL_law 640 = .ok (.iaload, 1) := by decide +kernel
theorem dL_law_641 : decode cL_law 641 = .ok (.invokevirtual 68, 3) := by decide +kernel
theorem dL_law_644 : decode cL_law 644 = .ok (.aload_n 2, 1) := by decide +kernel
theorem dL_law_645 : decode cL_law 645 = .ok (.aload_n 0, 1) := by decide +kernel
theorem dL_law_646 : decode cL_law 646 = .ok (.iload_n 3, 1) := by decide +kernel
theorem dL_law_647 : decode cL_law 647 = .ok (.iconst 1, 1) := by decide +kernel
theorem dL_law_648 : decode cL_law 648 = .ok (.iadd, 1) := by decide +kernel
theorem dL_law_649 : decode cL_law 649 = .ok (.iaload, 1) := by decide +kernel
theorem dL_law_650 : decode cL_law 650 = .ok (.invokevirtual 71, 3) := by decide +kernel
theorem dL_law_653 : decode cL_law 653 = .ok (.if_icmp .eq 1041, 3) := by decide +kernel
theorem dL_law_656 : decode cL_law 656 = .ok (.iconst 0, 1) := by decide +kernel
theorem dL_law_657 : decode cL_law 657 = .ok (.ireturn, 1) := by decide +kernel
theorem dL_law_658 : decode cL_law 658 = .ok (.aload_n 1, 1) := by decide +kernel
theorem dL_law_659 : decode cL_law 659 = .ok (.aload_n 0, 1) := by decide +kernel
theorem dL_law_660 : decode cL_law 660 = .ok (.iload_n 3, 1) := by decide +kernel
theorem dL_law_661 : decode cL_law 661 = .ok (.iconst 1, 1) := by decide +kernel
theorem dL_law_662 : decode cL_law 662 = .ok (.iadd, 1) := by decide +kernel
theorem dL_law_663 : decode cL_law 663 = .ok (.iaload, 1) := by decide +kernel
theorem dL_law_664 : decode cL_law 664 = .ok (.aload_n 0, 1) := by decide +kernel
theorem dL_law_665 : decode cL_law 665 = .ok (.iload_n 3, 1) := by decide +kernel
theorem dL_law_666 : decode cL_law 666 = .ok (.iconst 2, 1) := by decide +kernel
theorem dL_law_667 : decode cL_law 667 = .ok (.iadd, 1) := by decide +kernel
theorem dL_law_668 : decode cL_law 668 = .ok (.iaload, 1) := by decide +kernel
theorem dL_law_669 : decode cL_law 669 = .ok (.invokevirtual 72, 3) := by decide +kernel
theorem dL_law_672 : decode cL_law 672 = .ok (.aload_n 2, 1) := by decide +kernel
theorem dL_law_673 : decode cL_law 673 = .ok (.aload_n 0, 1) := by decide +kernel
theorem dL_law_674 : decode cL_law 674 = .ok (.iload_n 3, 1) := by decide +kernel
theorem dL_law_675 : decode cL_law 675 = .ok (.iconst 1, 1) := by decide +kernel
theorem dL_law_676 : decode cL_law 676 = .ok (.iadd, 1) := by decide +kernel
theorem dL_law_677 : decode cL_law 677 = .ok (.iaload, 1) := by decide +kernel
theorem dL_law_678 : decode cL_law 678 = .ok (.aload_n 0, 1) := by decide +kernel
theorem dL_law_679 : decode cL_law 679 = .ok (.iload_n 3, 1) := by decide +kernel
theorem dL_law_680 : decode cL_law 680 = .ok (.iconst 2, 1) := by decide +kernel
theorem dL_law_681 : decode cL_law 681 = .ok (.iadd, 1) := by decide +kernel
theorem dL_law_682 : decode cL_law 682 = .ok (.iaload, 1) := by decide +kernel
theorem dL_law_683 : decode cL_law 683 = .ok (.invokevirtual 75, 3) := by decide +kernel
theorem dL_law_686 : decode cL_law 686 = .ok (.if_icmp .eq 1008, 3) := by decide +kernel
theorem dL_law_689 : decode cL_law 689 = .ok (.iconst 0, 1) := by decide +kernel
theorem dL_law_690 : decode cL_law 690 = .ok (.ireturn, 1) := by decide +kernel
theorem dL_law_691 : decode cL_law 691 = .ok (.aload_n 1, 1) := by decide +kernel
theorem dL_law_692 : decode cL_law 692 = .ok (.invokevirtual 76, 3) := by decide +kernel
theorem dL_law_695 : decode cL_law 695 = .ok (.aload_n 2, 1) := by decide +kernel
theorem dL_law_696 : decode cL_law 696 = .ok (.invokevirtual 80, 3) := by decide +kernel
theorem dL_law_699 : decode cL_law 699 = .ok (.if_icmp .eq 995, 3) := by decide +kernel
theorem dL_law_702 : decode cL_law 702 = .ok (.iconst 0, 1) := by decide +kernel
theorem dL_law_703 : decode cL_law 703 = .ok (.ireturn, 1) := by decide +kernel
theorem dL_law_704 : decode cL_law 704 = .ok (.aload_n 1, 1) := by decide +kernel
theorem dL_law_705 : decode cL_law 705 = .ok (.aload_n 0, 1) := by decide +kernel
theorem dL_law_706 : decode cL_law 706 = .ok (.iload_n 3, 1) := by decide +kernel
theorem dL_law_707 : decode cL_law 707 = .ok (.iconst 1, 1) := by decide +kernel
theorem dL_law_708 : decode cL_law 708 = .ok (.iadd, 1) := by decide +kernel
theorem dL_law_709 : decode cL_law 709 = .ok (.iaload, 1) := by decide +kernel
theorem dL_law_710 : decode cL_law 710 = .ok (.aload_n 0, 1) := by decide +kernel
theorem dL_law_711 : decode cL_law 711 = .ok (.iload_n 3, 1) := by decide +kernel
theorem dL_law_712 : decode cL_law 712 = .ok (.iconst 2, 1) := by decide +kernel
theorem dL_law_713 : decode cL_law 713 = .ok (.iadd, 1) := by decide +kernel
theorem dL_law_714 : decode cL_law 714 = .ok (.iaload, 1) := by decide +kernel
theorem dL_law_715 : decode cL_law 715 = .ok (.invokevirtual 81, 3) := by decide +kernel
theorem dL_law_718 : decode cL_law 718 = .ok (.aload_n 2, 1) := by decide +kernel
theorem dL_law_719 : decode cL_law 719 = .ok (.aload_n 0, 1) := by decide +kernel
theorem dL_law_720 : decode cL_law 720 = .ok (.iload_n 3, 1) := by decide +kernel
theorem dL_law_721 : decode cL_law 721 = .ok (.iconst 1, 1) := by decide +kernel
theorem dL_law_722 : decode cL_law 722 = .ok (.iadd, 1) := by decide +kernel
theorem dL_law_723 : decode cL_law 723 = .ok (.iaload, 1) := by decide +kernel
theorem dL_law_724 : decode cL_law 724 = .ok (.aload_n 0, 1) := by decide +kernel
theorem dL_law_725 : decode cL_law 725 = .ok (.iload_n 3, 1) := by decide +kernel
theorem dL_law_726 : decode cL_law 726 = .ok (.iconst 2, 1) := by decide +kernel
theorem dL_law_727 : decode cL_law 727 = .ok (.iadd, 1) := by decide +kernel
theorem dL_law_728 : decode cL_law 728 = .ok (.iaload, 1) := by decide +kernel
theorem dL_law_729 : decode cL_law 729 = .ok (.invokevirtual 84, 3) := by decide +kernel
theorem dL_law_732 : decode cL_law 732 = .ok (.if_icmp .eq 962, 3) := by decide +kernel
theorem dL_law_735 : decode cL_law 735 = .ok (.iconst 0, 1) := by decide +kernel
theorem dL_law_736 : decode cL_law 736 = .ok (.ireturn, 1) := by decide +kernel
theorem dL_law_737 : decode cL_law 737 = .ok (.aload_n 1, 1) := by decide +kernel
theorem dL_law_738 : decode cL_law 738 = .ok (.aload_n 0, 1) := by decide +kernel
theorem dL_law_739 : decode cL_law 739 = .ok (.iload_n 3, 1) := by decide +kernel
theorem dL_law_740 : decode cL_law 740 = .ok (.iconst 1, 1) := by decide +kernel
theorem dL_law_741 : decode cL_law 741 = .ok (.iadd, 1) := by decide +kernel
theorem dL_law_742 : decode cL_law 742 = .ok (.iaload, 1) := by decide +kernel
theorem dL_law_743 : decode cL_law 743 = .ok (.invokevirtual 85, 3) := by decide +kernel
theorem dL_law_746 : decode cL_law 746 = .ok (.aload_n 2, 1) := by decide +kernel
theorem dL_law_747 : decode cL_law 747 = .ok (.aload_n 0, 1) := by decide +kernel
theorem dL_law_748 : decode cL_law 748 = .ok (.iload_n 3, 1) := by decide +kernel
theorem dL_law_749 : decode cL_law 749 = .ok (.iconst 1, 1) := by decide +kernel
theorem dL_law_750 : decode cL_law 750 = .ok (.iadd, 1) := by decide +kernel
theorem dL_law_751 : decode cL_law 751 = .ok (.iaload, 1) := by decide +kernel
theorem dL_law_752 : decode cL_law 752 = .ok (.invokevirtual 88, 3) := by decide +kernel
theorem dL_law_755 : decode cL_law 755 = .ok (.if_icmp .eq 939, 3) := by decide +kernel
theorem dL_law_758 : decode cL_law 758 = .ok (.iconst 0, 1) := by decide +kernel
theorem dL_law_759 : decode cL_law 759 = .ok (.ireturn, 1) := by decide +kernel
theorem dL_law_760 : decode cL_law 760 = .ok (.aload_n 1, 1) := by decide +kernel
theorem dL_law_761 : decode cL_law 761 = .ok (.aload_n 0, 1) := by decide +kernel
theorem dL_law_762 : decode cL_law 762 = .ok (.iload_n 3, 1) := by decide +kernel
theorem dL_law_763 : decode cL_law 763 = .ok (.iconst 1, 1) := by decide +kernel
theorem dL_law_764 : decode cL_law 764 = .ok (.iadd, 1) := by decide +kernel
theorem dL_law_765 : decode cL_law 765 = .ok (.iaload, 1) := by decide +kernel
theorem dL_law_766 : decode cL_law 766 = .ok (.invokevirtual 89, 3) := by decide +kernel
theorem dL_law_769 : decode cL_law 769 = .ok (.aload_n 2, 1) := by decide +kernel
theorem dL_law_770 : decode cL_law 770 = .ok (.aload_n 0, 1) := by decide +kernel
theorem dL_law_771 : decode cL_law 771 = .ok (.iload_n 3, 1) := by decide +kernel
theorem dL_law_772 : decode cL_law 772 = .ok (.iconst 1, 1) := by decide +kernel
theorem dL_law_773 : decode cL_law 773 = .ok (.iadd, 1) := by decide +kernel
theorem dL_law_774 : decode cL_law 774 = .ok (.iaload, 1) := by decide +kernel
theorem dL_law_775 : decode cL_law 775 = .ok (.invokevirtual 92, 3) := by decide +kernel
theorem dL_law_778 : decode cL_law 778 = .ok (.if_icmp .eq 916, 3) := by decide +kernel
theorem dL_law_781 : decode cL_law 781 = .ok (.iconst 0, 1) := by decide +kernel
theorem dL_law_782 : decode cL_law 782 = .ok (.ireturn, 1) := by decide +kernel
theorem dL_law_783 : decode cL_law 783 = .ok (.aload_n 1, 1) := by decide +kernel
theorem dL_law_784 : decode cL_law 784 = .ok (.aload_n 0, 1) := by decide +kernel
theorem dL_law_785 : decode cL_law 785 = .ok (.iload_n 3, 1) := by decide +kernel
theorem dL_law_786 : decode cL_law 786 = .ok (.iconst 1, 1) := by decide +kernel
theorem dL_law_787 : decode cL_law 787 = .ok (.iadd, 1) := by decide +kernel
theorem dL_law_788 : decode cL_law 788 = .ok (.iaload, 1) := by decide +kernel
theorem dL_law_789 : decode cL_law 789 = .ok (.aload_n 0, 1) := by decide +kernel
theorem dL_law_790 : decode cL_law 790 = .ok (.iload_n 3, 1) := by decide +kernel
theorem dL_law_791 : decode cL_law 791 = .ok (.iconst 2, 1) := by decide +kernel
theorem dL_law_792 : decode cL_law 792 = .ok (.iadd, 1) := by decide +kernel
theorem dL_law_793 : decode cL_law 793 = .ok (.iaload, 1) := by decide +kernel
theorem dL_law_794 : decode cL_law 794 = .ok (.invokevirtual 93, 3) := by decide +kernel
theorem dL_law_797 : decode cL_law 797 = .ok (.aload_n 2, 1) := by decide +kernel
theorem dL_law_798 : decode cL_law 798 = .ok (.aload_n 0, 1) := by decide +kernel
theorem dL_law_799 : decode cL_law 799 = .ok (.iload_n 3, 1) := by decide +kernel
theorem dL_law_800 : decode cL_law 800 = .ok (.iconst 1, 1) := by decide +kernel
theorem dL_law_801 : decode cL_law 801 = .ok (.iadd, 1) := by decide +kernel
theorem dL_law_802 : decode cL_law 802 = .ok (.iaload, 1) := by decide +kernel
theorem dL_law_803 : decode cL_law 803 = .ok (.aload_n 0, 1) := by decide +kernel
theorem dL_law_804 : decode cL_law 804 = .ok (.iload_n 3, 1) := by decide +kernel
theorem dL_law_805 : decode cL_law 805 = .ok (.iconst 2, 1) := by decide +kernel
theorem dL_law_806 : decode cL_law 806 = .ok (.iadd, 1) := by decide +kernel
theorem dL_law_807 : decode cL_law 807 = .ok (.iaload, 1) := by decide +kernel
theorem dL_law_808 : decode cL_law 808 = .ok (.invokevirtual 97, 3) := by decide +kernel
theorem dL_law_811 : decode cL_law 811 = .ok (.lcmp, 1) := by decide +kernel
theorem dL_law_812 : decode cL_law 812 = .ok (.ifCond .eq 882, 3) := by decide +kernel
theorem dL_law_815 : decode cL_law 815 = .ok (.iconst 0, 1) := by decide +kernel
theorem dL_law_816 : decode cL_law 816 = .ok (.ireturn, 1) := by decide +kernel
theorem dL_law_817 : decode cL_law 817 = .ok (.aload_n 1, 1) := by decide +kernel
theorem dL_law_818 : decode cL_law 818 = .ok (.aload_n 0, 1) := by decide +kernel
theorem dL_law_819 : decode cL_law 819 = .ok (.iload_n 3, 1) := by decide +kernel
theorem dL_law_820 : decode cL_law 820 = .ok (.iconst 1, 1) := by decide +kernel
theorem dL_law_821 : decode cL_law 821 = .ok (.iadd, 1) := by decide +kernel
theorem dL_law_822 : decode cL_law 822 = .ok (.iaload, 1) := by decide +kernel
theorem dL_law_823 : decode cL_law 823 = .ok (.invokevirtual 98, 3) := by decide +kernel
theorem dL_law_826 : decode cL_law 826 = .ok (.aload_n 2, 1) := by decide +kernel
theorem dL_law_827 : decode cL_law 827 = .ok (.aload_n 0, 1) := by decide +kernel
theorem dL_law_828 : decode cL_law 828 = .ok (.iload_n 3, 1) := by decide +kernel
theorem dL_law_829 : decode cL_law 829 = .ok (.iconst 1, 1) := by decide +kernel
theorem dL_law_830 : decode cL_law 830 = .ok (.iadd, 1) := by decide +kernel
theorem dL_law_831 : decode cL_law 831 = .ok (.iaload, 1) := by decide +kernel
theorem dL_law_832 : decode cL_law 832 = .ok (.invokevirtual 101, 3) := by decide +kernel
theorem dL_law_835 : decode cL_law 835 = .ok (.if_icmp .eq 859, 3) := by decide +kernel
theorem dL_law_838 : decode cL_law 838 = .ok (.iconst 0, 1) := by decide +kernel
theorem dL_law_839 : decode cL_law 839 = .ok (.ireturn, 1) := by decide +kernel
theorem dL_law_840 : decode cL_law 840 = .ok (.aload_n 1, 1) := by decide +kernel
theorem dL_law_841 : decode cL_law 841 = .ok (.aload_n 0, 1) := by decide +kernel
theorem dL_law_842 : decode cL_law 842 = .ok (.iload_n 3, 1) := by decide +kernel
theorem dL_law_843 : decode cL_law 843 = .ok (.iconst 1, 1) := by decide +kernel
theorem dL_law_844 : decode cL_law 844 = .ok (.iadd, 1) := by decide +kernel
theorem dL_law_845 : decode cL_law 845 = .ok (.iaload, 1) := by decide +kernel
theorem dL_law_846 : decode cL_law 846 = .ok (.invokevirtual 102, 3) := by decide +kernel
theorem dL_law_849 : decode cL_law 849 = .ok (.aload_n 2, 1) := by decide +kernel
theorem dL_law_850 : decode cL_law 850 = .ok (.aload_n 0, 1) := by decide +kernel
theorem dL_law_851 : decode cL_law 851 = .ok (.iload_n 3, 1) := by decide +kernel
theorem dL_law_852 : decode cL_law 852 = .ok (.iconst 1, 1) := by decide +kernel
theorem dL_law_853 : decode cL_law 853 = .ok (.iadd, 1) := by decide +kernel
theorem dL_law_854 : decode cL_law 854 = .ok (.iaload, 1) := by decide +kernel
theorem dL_law_855 : decode cL_law 855 = .ok (.invokevirtual 105, 3) := by decide +kernel
theorem dL_law_858 : decode cL_law 858 = .ok (.if_icmp .eq 836, 3) := by decide +kernel
theorem dL_law_861 : decode cL_law 861 = .ok (.iconst 0, 1) := by decide +kernel
theorem dL_law_862 : decode cL_law 862 = .ok (.ireturn, 1) := by decide +kernel
theorem dL_law_863 : decode cL_law 863 = .ok (.aload_n 1, 1) := by decide +kernel
theorem dL_law_864 : decode cL_law 864 = .ok (.aload_n 0, 1) := by decide +kernel
theorem dL_law_865 : decode cL_law 865 = .ok (.iload_n 3, 1) := by decide +kernel
theorem dL_law_866 : decode cL_law 866 = .ok (.iconst 1, 1) := by decide +kernel
theorem dL_law_867 : decode cL_law 867 = .ok (.iadd, 1) := by decide +kernel
theorem dL_law_868 : decode cL_law 868 = .ok (.iaload, 1) := by decide +kernel
theorem dL_law_869 : decode cL_law 869 = .ok (.invokevirtual 106, 3) := by decide +kernel
theorem dL_law_872 : decode cL_law 872 = .ok (.aload_n 2, 1) := by decide +kernel
theorem dL_law_873 : decode cL_law 873 = .ok (.aload_n 0, 1) := by decide +kernel
theorem dL_law_874 : decode cL_law 874 = .ok (.iload_n 3, 1) := by decide +kernel
theorem dL_law_875 : decode cL_law 875 = .ok (.iconst 1, 1) := by decide +kernel
theorem dL_law_876 : decode cL_law 876 = .ok (.iadd, 1) := by decide +kernel
theorem dL_law_877 : decode cL_law 877 = .ok (.iaload, 1) := by decide +kernel
theorem dL_law_878 : decode cL_law 878 = .ok (.invokevirtual 109, 3) := by decide +kernel
theorem dL_law_881 : decode cL_law 881 = .ok (.if_icmp .eq 813, 3) := by decide +kernel
theorem dL_law_884 : decode cL_law 884 = .ok (.iconst 0, 1) := by decide +kernel
theorem dL_law_885 : decode cL_law 885 = .ok (.ireturn, 1) := by decide +kernel
theorem dL_law_886 : decode cL_law 886 = .ok (.aload_n 1, 1) := by decide +kernel
theorem dL_law_887 : decode cL_law 887 = .ok (.aload_n 0, 1) := by decide +kernel
theorem dL_law_888 : decode cL_law 888 = .ok (.iload_n 3, 1) := by decide +kernel
theorem dL_law_889 : decode cL_law 889 = .ok (.iconst 1, 1) := by decide +kernel
theorem dL_law_890 : decode cL_law 890 = .ok (.iadd, 1) := by decide +kernel
theorem dL_law_891 : decode cL_law 891 = .ok (.iaload, 1) := by decide +kernel
theorem dL_law_892 : decode cL_law 892 = .ok (.invokevirtual 110, 3) := by decide +kernel
theorem dL_law_895 : decode cL_law 895 = .ok (.aload_n 2, 1) := by decide +kernel
theorem dL_law_896 : decode cL_law 896 = .ok (.aload_n 0, 1) := by decide +kernel
theorem dL_law_897 : decode cL_law 897 = .ok (.iload_n 3, 1) := by decide +kernel
theorem dL_law_898 : decode cL_law 898 = .ok (.iconst 1, 1) := by decide +kernel
theorem dL_law_899 : decode cL_law 899 = .ok (.iadd, 1) := by decide +kernel
theorem dL_law_900 : decode cL_law 900 = .ok (.iaload, 1) := by decide +kernel
theorem dL_law_901 : decode cL_law 901 = .ok (.invokevirtual 113, 3) := by decide +kernel
theorem dL_law_904 : decode cL_law 904 = .ok (.if_icmp .eq 790, 3) := by decide +kernel
theorem dL_law_907 : decode cL_law 907 = .ok (.iconst 0, 1) := by decide +kernel
theorem dL_law_908 : decode cL_law 908 = .ok (.ireturn, 1) := by decide +kernel
theorem dL_law_909 : decode cL_law 909 = .ok (.aload_n 1, 1) := by decide +kernel
theorem dL_law_910 : decode cL_law 910 = .ok (.aload_n 0, 1) := by decide +kernel
theorem dL_law_911 : decode cL_law 911 = .ok (.iload_n 3, 1) := by decide +kernel
theorem dL_law_912 : decode cL_law 912 = .ok (.iconst 1, 1) := by decide +kernel
theorem dL_law_913 : decode cL_law 913 = .ok (.iadd, 1) := by decide +kernel
theorem dL_law_914 : decode cL_law 914 = .ok (.iaload, 1) := by decide +kernel
theorem dL_law_915 : decode cL_law 915 = .ok (.invokevirtual 114, 3) := by decide +kernel
theorem dL_law_918 : decode cL_law 918 = .ok (.aload_n 2, 1) := by decide +kernel
theorem dL_law_919 : decode cL_law 919 = .ok (.aload_n 0, 1) := by decide +kernel
theorem dL_law_920 : decode cL_law 920 = .ok (.iload_n 3, 1) := by decide +kernel
theorem dL_law_921 : decode cL_law 921 = .ok (.iconst 1, 1) := by decide +kernel
theorem dL_law_922 : decode cL_law 922 = .ok (.iadd, 1) := by decide +kernel
theorem dL_law_923 : decode cL_law 923 = .ok (.iaload, 1) := by decide +kernel
theorem dL_law_924 : decode cL_law 924 = .ok (.invokevirtual 117, 3) := by decide +kernel
theorem dL_law_927 : decode cL_law 927 = .ok (.if_icmp .eq 767, 3) := by decide +kernel
theorem dL_law_930 : decode cL_law 930 = .ok (.iconst 0, 1) := by decide +kernel
theorem dL_law_931 : decode cL_law 931 = .ok (.ireturn, 1) := by decide +kernel
theorem dL_law_932 : decode cL_law 932 = .ok (.aload_n 1, 1) := by decide +kernel
theorem dL_law_933 : decode cL_law 933 = .ok (.aload_n 0, 1) := by decide +kernel
theorem dL_law_934 : decode cL_law 934 = .ok (.iload_n 3, 1) := by decide +kernel
theorem dL_law_935 : decode cL_law 935 = .ok (.iconst 1, 1) := by decide +kernel
theorem dL_law_936 : decode cL_law 936 = .ok (.iadd, 1) := by decide +kernel
theorem dL_law_937 : decode cL_law 937 = .ok (.iaload, 1) := by decide +kernel
theorem dL_law_938 : decode cL_law 938 = .ok (.invokevirtual 118, 3) := by decide +kernel
theorem dL_law_941 : decode cL_law 941 = .ok (.aload_n 2, 1) := by decide +kernel
theorem dL_law_942 : decode cL_law 942 = .ok (.aload_n 0, 1) := by decide +kernel
theorem dL_law_943 : decode cL_law 943 = .ok (.iload_n 3, 1) := by decide +kernel
theorem dL_law_944 : decode cL_law 944 = .ok (.iconst 1, 1) := by decide +kernel
theorem dL_law_945 : decode cL_law 945 = .ok (.iadd, 1) := by decide +kernel
theorem dL_law_946 : decode cL_law 946 = .ok (.iaload, 1) := by decide +kernel
theorem dL_law_947 : decode cL_law 947 = .ok (.invokevirtual 121, 3) := by decide +kernel
theorem dL_law_950 : decode cL_law 950 = .ok (.if_icmp .eq 744, 3) := by decide +kernel
theorem dL_law_953 : decode cL_law 953 = .ok (.iconst 0, 1) := by decide +kernel
theorem dL_law_954 : decode cL_law 954 = .ok (.ireturn, 1) := by decide +kernel
theorem dL_law_955 : decode cL_law 955 = .ok (.aload_n 1, 1) := by decide +kernel
theorem dL_law_956 : decode cL_law 956 = .ok (.aload_n 0, 1) := by decide +kernel
theorem dL_law_957 : decode cL_law 957 = .ok (.iload_n 3, 1) := by decide +kernel
theorem dL_law_958 : decode cL_law 958 = .ok (.iconst 1, 1) := by decide +kernel
theorem dL_law_959 : decode cL_law 959 = .ok (.iadd, 1) := by decide +kernel
theorem dL_law_960 : decode cL_law 960 = .ok (.iaload, 1) := by decide +kernel
theorem dL_law_961 : decode cL_law 961 = .ok (.aload_n 0, 1) := by decide +kernel
theorem dL_law_962 : decode cL_law 962 = .ok (.iload_n 3, 1) := by decide +kernel
theorem dL_law_963 : decode cL_law 963 = .ok (.iconst 2, 1) := by decide +kernel
theorem dL_law_964 : decode cL_law 964 = .ok (.iadd, 1) := by decide +kernel
theorem dL_law_965 : decode cL_law 965 = .ok (.iaload, 1) := by decide +kernel
theorem dL_law_966 : decode cL_law 966 = .ok (.aload_n 0, 1) := by decide +kernel
theorem dL_law_967 : decode cL_law 967 = .ok (.iload_n 3, 1) := by decide +kernel
theorem dL_law_968 : decode cL_law 968 = .ok (.iconst 3, 1) := by decide +kernel
theorem dL_law_969 : decode cL_law 969 = .ok (.iadd, 1) := by decide +kernel
theorem dL_law_970 : decode cL_law 970 = .ok (.iaload, 1) := by decide +kernel
theorem dL_law_971 : decode cL_law 971 = .ok (.invokevirtual 122, 3) := by decide +kernel
theorem dL_law_974 : decode cL_law 974 = .ok (.aload_n 2, 1) := by decide +kernel
theorem dL_law_975 : decode cL_law 975 = .ok (.aload_n 0, 1) := by decide +kernel
theorem dL_law_976 : decode cL_law 976 = .ok (.iload_n 3, 1) := by decide +kernel
theorem dL_law_977 : decode cL_law 977 = .ok (.iconst 1, 1) := by decide +kernel
theorem dL_law_978 : decode cL_law 978 = .ok (.iadd, 1) := by decide +kernel
theorem dL_law_979 : decode cL_law 979 = .ok (.iaload, 1) := by decide +kernel
theorem dL_law_980 : decode cL_law 980 = .ok (.aload_n 0, 1) := by decide +kernel
theorem dL_law_981 : decode cL_law 981 = .ok (.iload_n 3, 1) := by decide +kernel
theorem dL_law_982 : decode cL_law 982 = .ok (.iconst 2, 1) := by decide +kernel
theorem dL_law_983 : decode cL_law 983 = .ok (.iadd, 1) := by decide +kernel
theorem dL_law_984 : decode cL_law 984 = .ok (.iaload, 1) := by decide +kernel
theorem dL_law_985 : decode cL_law 985 = .ok (.aload_n 0, 1) := by decide +kernel
theorem dL_law_986 : decode cL_law 986 = .ok (.iload_n 3, 1) := by decide +kernel
theorem dL_law_987 : decode cL_law 987 = .ok (.iconst 3, 1) := by decide +kernel
theorem dL_law_988 : decode cL_law 988 = .ok (.iadd, 1) := by decide +kernel
theorem dL_law_989 : decode cL_law 989 = .ok (.iaload, 1) := by decide +kernel
theorem dL_law_990 : decode cL_law 990 = .ok (.invokevirtual 125, 3) := by decide +kernel
theorem dL_law_993 : decode cL_law 993 = .ok (.if_icmp .eq 701, 3) := by decide +kernel
end
section
theorem dL_law_996 : decode cL_law 996 = .ok (.iconst 0, 1) := by decide +kernel
theorem dL_law_997 : decode cL_law 997 = .ok (.ireturn, 1) := by decide +kernel
theorem dL_law_998 : decode cL_law 998 = .ok (.aload_n 1, 1) := by decide +kernel
theorem dL_law_999 : decode cL_law 999 = .ok (.aload_n 0, 1) := by decide +kernel
theorem dL_law_1000 : decode cL_law 1000 = .ok (.iload_n 3, 1) := by decide +kernel
theorem dL_law_1001 : decode cL_law 1001 = .ok (.iconst 1, 1) := by decide +kernel
theorem dL_law_1002 : decode cL_law 1002 = .ok (.iadd, 1) := by decide +kernel
theorem dL_law_1003 : decode cL_law 1003 = .ok (.iaload, 1) := by decide +kernel
theorem dL_law_1004 : decode cL_law 1004 = .ok (.aload_n 0, 1) := by decide +kernel
theorem dL_law_1005 : decode cL_law 1005 = .ok (.iload_n 3, 1) := by decide +kernel
theorem dL_law_1006 : decode cL_law 1006 = .ok (.iconst 2, 1) := by decide +kernel
theorem dL_law_1007 : decode cL_law 1007 = .ok (.iadd, 1) := by decide +kernel
theorem dL_law_1008 : decode cL_law 1008 = .ok (.iaload, 1) := by decide +kernel
theorem dL_law_1009 : decode cL_law 1009 = .ok (.invokevirtual 126, 3) := by decide +kernel
theorem dL_law_1012 : decode cL_law 1012 = .ok (.aload_n 2, 1) := by decide +kernel
theorem dL_law_1013 : decode cL_law 1013 = .ok (.aload_n 0, 1) := by decide +kernel
theorem dL_law_1014 : decode cL_law 1014 = .ok (.iload_n 3, 1) := by decide +kernel
theorem dL_law_1015 : decode cL_law 1015 = .ok (.iconst 1, 1) := by decide +kernel
theorem dL_law_1016 : decode cL_law 1016 = .ok (.iadd, 1) := by decide +kernel
theorem dL_law_1017 : decode cL_law 1017 = .ok (.iaload, 1) := by decide +kernel
theorem dL_law_1018 : decode cL_law 1018 = .ok (.aload_n 0, 1) := by decide +kernel
theorem dL_law_1019 : decode cL_law 1019 = .ok (.iload_n 3, 1) := by decide +kernel
theorem dL_law_1020 : decode cL_law 1020 = .ok (.iconst 2, 1) := by decide +kernel
theorem dL_law_1021 : decode cL_law 1021 = .ok (.iadd, 1) := by decide +kernel
theorem dL_law_1022 : decode cL_law 1022 = .ok (.iaload, 1) := by decide +kernel
theorem dL_law_1023 : decode cL_law 1023 = .ok (.invokevirtual 129, 3) := by decide +kernel
theorem dL_law_1026 : decode cL_law 1026 = .ok (.if_icmp .eq 668, 3) := by decide +kernel
theorem dL_law_1029 : decode cL_law 1029 = .ok (.iconst 0, 1) := by decide +kernel
theorem dL_law_1030 : decode cL_law 1030 = .ok (.ireturn, 1) := by decide +kernel
theorem dL_law_1031 : decode cL_law 1031 = .ok (.aload_n 1, 1) := by decide +kernel
theorem dL_law_1032 : decode cL_law 1032 = .ok (.aload_n 0, 1) := by decide +kernel
theorem dL_law_1033 : decode cL_law 1033 = .ok (.iload_n 3, 1) := by decide +kernel
theorem dL_law_1034 : decode cL_law 1034 = .ok (.iconst 1, 1) := by decide +kernel
theorem dL_law_1035 : decode cL_law 1035 = .ok (.iadd, 1) := by decide +kernel
theorem dL_law_1036 : decode cL_law 1036 = .ok (.iaload, 1) := by decide +kernel
theorem dL_law_1037 : decode cL_law 1037 = .ok (.invokevirtual 130, 3) := by decide +kernel
theorem dL_law_1040 : decode cL_law 1040 = .ok (.aload_n 2, 1) := by decide +kernel
theorem dL_law_1041 : decode cL_law 1041 = .ok (.aload_n 0, 1) := by decide +kernel
theorem dL_law_1042 : decode cL_law 1042 = .ok (.iload_n 3, 1) := by decide +kernel
theorem dL_law_1043 : decode cL_law 1043 = .ok (.iconst 1, 1) := by decide +kernel
theorem dL_law_1044 : decode cL_law 1044 = .ok (.iadd, 1) := by decide +kernel
theorem dL_law_1045 : decode cL_law 1045 = .ok (.iaload, 1) := by decide +kernel
theorem dL_law_1046 : decode cL_law 1046 = .ok (.invokevirtual 133, 3) := by decide +kernel
theorem dL_law_1049 : decode cL_law 1049 = .ok (.if_icmp .eq 645, 3) := by decide +kernel
theorem dL_law_1052 : decode cL_law 1052 = .ok (.iconst 0, 1) := by decide +kernel
theorem dL_law_1053 : decode cL_law 1053 = .ok (.ireturn, 1) := by decide +kernel
theorem dL_law_1054 : decode cL_law 1054 = .ok (.aload_n 1, 1) := by decide +kernel
theorem dL_law_1055 : decode cL_law 1055 = .ok (.aload_n 0, 1) := by decide +kernel
theorem dL_law_1056 : decode cL_law 1056 = .ok (.iload_n 3, 1) := by decide +kernel
theorem dL_law_1057 : decode cL_law 1057 = .ok (.iconst 1, 1) := by decide +kernel
theorem dL_law_1058 : decode cL_law 1058 = .ok (.iadd, 1) := by decide +kernel
theorem dL_law_1059 : decode cL_law 1059 = .ok (.iaload, 1) := by decide +kernel
theorem dL_law_1060 : decode cL_law 1060 = .ok (.aload_n 0, 1) := by decide +kernel
theorem dL_law_1061 : decode cL_law 1061 = .ok (.iload_n 3, 1) := by decide +kernel
theorem dL_law_1062 : decode cL_law 1062 = .ok (.iconst 2, 1) := by decide +kernel
theorem dL_law_1063 : decode cL_law 1063 = .ok (.iadd, 1) := by decide +kernel
theorem dL_law_1064 : decode cL_law 1064 = .ok (.iaload, 1) := by decide +kernel
theorem dL_law_1065 : decode cL_law 1065 = .ok (.invokevirtual 134, 3) := by decide +kernel
theorem dL_law_1068 : decode cL_law 1068 = .ok (.aload_n 2, 1) := by decide +kernel
theorem dL_law_1069 : decode cL_law 1069 = .ok (.aload_n 0, 1) := by decide +kernel
theorem dL_law_1070 : decode cL_law 1070 = .ok (.iload_n 3, 1) := by decide +kernel
theorem dL_law_1071 : decode cL_law 1071 = .ok (.iconst 1, 1) := by decide +kernel
theorem dL_law_1072 : decode cL_law 1072 = .ok (.iadd, 1) := by decide +kernel
theorem dL_law_1073 : decode cL_law 1073 = .ok (.iaload, 1) := by decide +kernel
theorem dL_law_1074 : decode cL_law 1074 = .ok (.aload_n 0, 1) := by decide +kernel
theorem dL_law_1075 : decode cL_law 1075 = .ok (.iload_n 3, 1) := by decide +kernel
theorem dL_law_1076 : decode cL_law 1076 = .ok (.iconst 2, 1) := by decide +kernel
theorem dL_law_1077 : decode cL_law 1077 = .ok (.iadd, 1) := by decide +kernel
theorem dL_law_1078 : decode cL_law 1078 = .ok (.iaload, 1) := by decide +kernel
theorem dL_law_1079 : decode cL_law 1079 = .ok (.invokevirtual 137, 3) := by decide +kernel
theorem dL_law_1082 : decode cL_law 1082 = .ok (.if_icmp .eq 612, 3) := by decide +kernel
theorem dL_law_1085 : decode cL_law 1085 = .ok (.iconst 0, 1) := by decide +kernel
theorem dL_law_1086 : decode cL_law 1086 = .ok (.ireturn, 1) := by decide +kernel
theorem dL_law_1087 : decode cL_law 1087 = .ok (.aload_n 1, 1) := by decide +kernel
theorem dL_law_1088 : decode cL_law 1088 = .ok (.aload_n 0, 1) := by decide +kernel
theorem dL_law_1089 : decode cL_law 1089 = .ok (.iload_n 3, 1) := by decide +kernel
theorem dL_law_1090 : decode cL_law 1090 = .ok (.iconst 1, 1) := by decide +kernel
theorem dL_law_1091 : decode cL_law 1091 = .ok (.iadd, 1) := by decide +kernel
theorem dL_law_1092 : decode cL_law 1092 = .ok (.iaload, 1) := by decide +kernel
theorem dL_law_1093 : decode cL_law 1093 = .ok (.aload_n 0, 1) := by decide +kernel
theorem dL_law_1094 : decode cL_law 1094 = .ok (.iload_n 3, 1) := by decide +kernel
theorem dL_law_1095 : decode cL_law 1095 = .ok (.iconst 2, 1) := by decide +kernel
theorem dL_law_1096 : decode cL_law 1096 = .ok (.iadd, 1) := by decide +kernel
theorem dL_law_1097 : decode cL_law 1097 = .ok (.iaload, 1) := by decide +kernel
theorem dL_law_1098 : decode cL_law 1098 = .ok (.invokevirtual 138, 3) := by decide +kernel
theorem dL_law_1101 : decode cL_law 1101 = .ok (.aload_n 2, 1) := by decide +kernel
theorem dL_law_1102 : decode cL_law 1102 = .ok (.aload_n 0, 1) := by decide +kernel
theorem dL_law_1103 : decode cL_law 1103 = .ok (.iload_n 3, 1) := by decide +kernel
theorem dL_law_1104 : decode cL_law 1104 = .ok (.iconst 1, 1) := by decide +kernel
theorem dL_law_1105 : decode cL_law 1105 = .ok (.iadd, 1) := by decide +kernel
theorem dL_law_1106 : decode cL_law 1106 = .ok (.iaload, 1) := by decide +kernel
theorem dL_law_1107 : decode cL_law 1107 = .ok (.aload_n 0, 1) := by decide +kernel
theorem dL_law_1108 : decode cL_law 1108 = .ok (.iload_n 3, 1) := by decide +kernel
theorem dL_law_1109 : decode cL_law 1109 = .ok (.iconst 2, 1) := by decide +kernel
theorem dL_law_1110 : decode cL_law 1110 = .ok (.iadd, 1) := by decide +kernel
theorem dL_law_1111 : decode cL_law 1111 = .ok (.iaload, 1) := by decide +kernel
theorem dL_law_1112 : decode cL_law 1112 = .ok (.invokevirtual 141, 3) := by decide +kernel
theorem dL_law_1115 : decode cL_law 1115 = .ok (.if_icmp .eq 579, 3) := by decide +kernel
theorem dL_law_1118 : decode cL_law 1118 = .ok (.iconst 0, 1) := by decide +kernel
theorem dL_law_1119 : decode cL_law 1119 = .ok (.ireturn, 1) := by decide +kernel
theorem dL_law_1120 : decode cL_law 1120 = .ok (.aload_n 1, 1) := by decide +kernel
theorem dL_law_1121 : decode cL_law 1121 = .ok (.aload_n 0, 1) := by decide +kernel
theorem dL_law_1122 : decode cL_law 1122 = .ok (.iload_n 3, 1) := by decide +kernel
theorem dL_law_1123 : decode cL_law 1123 = .ok (.iconst 1, 1) := by decide +kernel
theorem dL_law_1124 : decode cL_law 1124 = .ok (.iadd, 1) := by decide +kernel
theorem dL_law_1125 : decode cL_law 1125 = .ok (.iaload, 1) := by decide +kernel
theorem dL_law_1126 : decode cL_law 1126 = .ok (.aload_n 0, 1) := by decide +kernel
theorem dL_law_1127 : decode cL_law 1127 = .ok (.iload_n 3, 1) := by decide +kernel
theorem dL_law_1128 : decode cL_law 1128 = .ok (.iconst 2, 1) := by decide +kernel
theorem dL_law_1129 : decode cL_law 1129 = .ok (.iadd, 1) := by decide +kernel
theorem dL_law_1130 : decode cL_law 1130 = .ok (.iaload, 1) := by decide +kernel
theorem dL_law_1131 : decode cL_law 1131 = .ok (.invokevirtual 142, 3) := by decide +kernel
theorem dL_law_1134 : decode cL_law 1134 = .ok (.aload_n 2, 1) := by decide +kernel
theorem dL_law_1135 : decode cL_law 1135 = .ok (.aload_n 0, 1) := by decide +kernel
theorem dL_law_1136 : decode cL_law 1136 = .ok (.iload_n 3, 1) := by decide +kernel
theorem dL_law_1137 : decode cL_law 1137 = .ok (.iconst 1, 1) := by decide +kernel
theorem dL_law_1138 : decode cL_law 1138 = .ok (.iadd, 1) := by decide +kernel
theorem dL_law_1139 : decode cL_law 1139 = .ok (.iaload, 1) := by decide +kernel
theorem dL_law_1140 : decode cL_law 1140 = .ok (.aload_n 0, 1) := by decide +kernel
theorem dL_law_1141 : decode cL_law 1141 = .ok (.iload_n 3, 1) := by decide +kernel
theorem dL_law_1142 : decode cL_law 1142 = .ok (.iconst 2, 1) := by decide +kernel
theorem dL_law_1143 : decode cL_law 1143 = .ok (.iadd, 1) := by decide +kernel
theorem dL_law_1144 : decode cL_law 1144 = .ok (.iaload, 1) := by decide +kernel
theorem dL_law_1145 : decode cL_law 1145 = .ok (.invokevirtual 145, 3) := by decide +kernel
theorem dL_law_1148 : decode cL_law 1148 = .ok (.if_icmp .eq 546, 3) := by decide +kernel
theorem dL_law_1151 : decode cL_law 1151 = .ok (.iconst 0, 1) := by decide +kernel
theorem dL_law_1152 : decode cL_law 1152 = .ok (.ireturn, 1) := by decide +kernel
theorem dL_law_1153 : decode cL_law 1153 = .ok (.aload_n 1, 1) := by decide +kernel
theorem dL_law_1154 : decode cL_law 1154 = .ok (.aload_n 0, 1) := by decide +kernel
theorem dL_law_1155 : decode cL_law 1155 = .ok (.iload_n 3, 1) := by decide +kernel
theorem dL_law_1156 : decode cL_law 1156 = .ok (.iconst 1, 1) := by decide +kernel
theorem dL_law_1157 : decode cL_law 1157 = .ok (.iadd, 1) := by decide +kernel
theorem dL_law_1158 : decode cL_law 1158 = .ok (.iaload, 1) := by decide +kernel
theorem dL_law_1159 : decode cL_law 1159 = .ok (.aload_n 0, 1) := by decide +kernel
theorem dL_law_1160 : decode cL_law 1160 = .ok (.iload_n 3, 1) := by decide +kernel
theorem dL_law_1161 : decode cL_law 1161 = .ok (.iconst 2, 1) := by decide +kernel
theorem dL_law_1162 : decode cL_law 1162 = .ok (.iadd, 1) := by decide +kernel
theorem dL_law_1163 : decode cL_law 1163 = .ok (.iaload, 1) := by decide +kernel
theorem dL_law_1164 : decode cL_law 1164 = .ok (.invokevirtual 146, 3) := by decide +kernel
theorem dL_law_1167 : decode cL_law 1167 = .ok (.aload_n 2, 1) := by decide +kernel
theorem dL_law_1168 : decode cL_law 1168 = .ok (.aload_n 0, 1) := by decide +kernel
theorem dL_law_1169 : decode cL_law 1169 = .ok (.iload_n 3, 1) := by decide +kernel
theorem dL_law_1170 : decode cL_law 1170 = .ok (.iconst 1, 1) := by decide +kernel
theorem dL_law_1171 : decode cL_law 1171 = .ok (.iadd, 1) := by decide +kernel
theorem dL_law_1172 : decode cL_law 1172 = .ok (.iaload, 1) := by decide +kernel
theorem dL_law_1173 : decode cL_law 1173 = .ok (.aload_n 0, 1) := by decide +kernel
theorem dL_law_1174 : decode cL_law 1174 = .ok (.iload_n 3, 1) := by decide +kernel
theorem dL_law_1175 : decode cL_law 1175 = .ok (.iconst 2, 1) := by decide +kernel
theorem dL_law_1176 : decode cL_law 1176 = .ok (.iadd, 1) := by decide +kernel
theorem dL_law_1177 : decode cL_law 1177 = .ok (.iaload, 1) := by decide +kernel
theorem dL_law_1178 : decode cL_law 1178 = .ok (.invokevirtual 149, 3) := by decide +kernel
theorem dL_law_1181 : decode cL_law 1181 = .ok (.if_icmp .eq 513, 3) := by decide +kernel
theorem dL_law_1184 : decode cL_law 1184 = .ok (.iconst 0, 1) := by decide +kernel
theorem dL_law_1185 : decode cL_law 1185 = .ok (.ireturn, 1) := by decide +kernel
theorem dL_law_1186 : decode cL_law 1186 = .ok (.aload_n 1, 1) := by decide +kernel
theorem dL_law_1187 : decode cL_law 1187 = .ok (.aload_n 0, 1) := by decide +kernel
theorem dL_law_1188 : decode cL_law 1188 = .ok (.iload_n 3, 1) := by decide +kernel
theorem dL_law_1189 : decode cL_law 1189 = .ok (.iconst 1, 1) := by decide +kernel
theorem dL_law_1190 : decode cL_law 1190 = .ok (.iadd, 1) := by decide +kernel
theorem dL_law_1191 : decode cL_law 1191 = .ok (.iaload, 1) := by decide +kernel
theorem dL_law_1192 : decode cL_law 1192 = .ok (.invokevirtual 150, 3) := by decide +kernel
theorem dL_law_1195 : decode cL_law 1195 = .ok (.aload_n 2, 1) := by decide +kernel
theorem dL_law_1196 : decode cL_law 1196 = .ok (.aload_n 0, 1) := by decide +kernel
theorem dL_law_1197 : decode cL_law 1197 = .ok (.iload_n 3, 1) := by decide +kernel
theorem dL_law_1198 : decode cL_law 1198 = .ok (.iconst 1, 1) := by decide +kernel
theorem dL_law_1199 : decode cL_law 1199 = .ok (.iadd, 1) := by decide +kernel
theorem dL_law_1200 : decode cL_law 1200 = .ok (.iaload, 1) := by decide +kernel
theorem dL_law_1201 : decode cL_law 1201 = .ok (.invokevirtual 153, 3) := by decide +kernel
theorem dL_law_1204 : decode cL_law 1204 = .ok (.if_icmp .eq 490, 3) := by decide +kernel
theorem dL_law_1207 : decode cL_law 1207 = .ok (.iconst 0, 1) := by decide +kernel
theorem dL_law_1208 : decode cL_law 1208 = .ok (.ireturn, 1) := by decide +kernel
theorem dL_law_1209 : decode cL_law 1209 = .ok (.aload_n 1, 1) := by decide +kernel
theorem dL_law_1210 : decode cL_law 1210 = .ok (.aload_n 0, 1) := by decide +kernel
theorem dL_law_1211 : decode cL_law 1211 = .ok (.iload_n 3, 1) := by decide +kernel
theorem dL_law_1212 : decode cL_law 1212 = .ok (.iconst 1, 1) := by decide +kernel
theorem dL_law_1213 : decode cL_law 1213 = .ok (.iadd, 1) := by decide +kernel
theorem dL_law_1214 : decode cL_law 1214 = .ok (.iaload, 1) := by decide +kernel
theorem dL_law_1215 : decode cL_law 1215 = .ok (.aload_n 0, 1) := by decide +kernel
theorem dL_law_1216 : decode cL_law 1216 = .ok (.iload_n 3, 1) := by decide +kernel
theorem dL_law_1217 : decode cL_law 1217 = .ok (.iconst 2, 1) := by decide +kernel
theorem dL_law_1218 : decode cL_law 1218 = .ok (.iadd, 1) := by decide +kernel
theorem dL_law_1219 : decode cL_law 1219 = .ok (.iaload, 1) := by decide +kernel
theorem dL_law_1220 : decode cL_law 1220 = .ok (.invokevirtual 154, 3) := by decide +kernel
theorem dL_law_1223 : decode cL_law 1223 = .ok (.aload_n 2, 1) := by decide +kernel
theorem dL_law_1224 : decode cL_law 1224 = .ok (.aload_n 0, 1) := by decide +kernel
theorem dL_law_1225 : decode cL_law 1225 = .ok (.iload_n 3, 1) := by decide +kernel
theorem dL_law_1226 : decode cL_law 1226 = .ok (.iconst 1, 1) := by decide +kernel
theorem dL_law_1227 : decode cL_law 1227 = .ok (.iadd, 1) := by decide +kernel
theorem dL_law_1228 : decode cL_law 1228 = .ok (.iaload, 1) := by decide +kernel
theorem dL_law_1229 : decode cL_law 1229 = .ok (.aload_n 0, 1) := by decide +kernel
theorem dL_law_1230 : decode cL_law 1230 = .ok (.iload_n 3, 1) := by decide +kernel
theorem dL_law_1231 : decode cL_law 1231 = .ok (.iconst 2, 1) := by decide +kernel
theorem dL_law_1232 : decode cL_law 1232 = .ok (.iadd, 1) := by decide +kernel
theorem dL_law_1233 : decode cL_law 1233 = .ok (.iaload, 1) := by decide +kernel
theorem dL_law_1234 : decode cL_law 1234 = .ok (.invokevirtual 157, 3) := by decide +kernel
theorem dL_law_1237 : decode cL_law 1237 = .ok (.if_icmp .eq 457, 3) := by decide +kernel
theorem dL_law_1240 : decode cL_law 1240 = .ok (.iconst 0, 1) := by decide +kernel
theorem dL_law_1241 : decode cL_law 1241 = .ok (.ireturn, 1) := by decide +kernel
theorem dL_law_1242 : decode cL_law 1242 = .ok (.aload_n 1, 1) := by decide +kernel
theorem dL_law_1243 : decode cL_law 1243 = .ok (.aload_n 0, 1) := by decide +kernel
theorem dL_law_1244 : decode cL_law 1244 = .ok (.iload_n 3, 1) := by decide +kernel
theorem dL_law_1245 : decode cL_law 1245 = .ok (.iconst 1, 1) := by decide +kernel
theorem dL_law_1246 : decode cL_law 1246 = .ok (.iadd, 1) := by decide +kernel
theorem dL_law_1247 : decode cL_law 1247 = .ok (.iaload, 1) := by decide +kernel
theorem dL_law_1248 : decode cL_law 1248 = .ok (.invokevirtual 158, 3) := by decide +kernel
theorem dL_law_1251 : decode cL_law 1251 = .ok (.aload_n 2, 1) := by decide +kernel
theorem dL_law_1252 : decode cL_law 1252 = .ok (.aload_n 0, 1) := by decide +kernel
theorem dL_law_1253 : decode cL_law 1253 = .ok (.iload_n 3, 1) := by decide +kernel
theorem dL_law_1254 : decode cL_law 1254 = .ok (.iconst 1, 1) := by decide +kernel
theorem dL_law_1255 : decode cL_law 1255 = .ok (.iadd, 1) := by decide +kernel
theorem dL_law_1256 : decode cL_law 1256 = .ok (.iaload, 1) := by decide +kernel
theorem dL_law_1257 : decode cL_law 1257 = .ok (.invokevirtual 162, 3) := by decide +kernel
theorem dL_law_1260 : decode cL_law 1260 = .ok (.lcmp, 1) := by decide +kernel
theorem dL_law_1261 : decode cL_law 1261 = .ok (.ifCond .eq 433, 3) := by decide +kernel
theorem dL_law_1264 : decode cL_law 1264 = .ok (.iconst 0, 1) := by decide +kernel
theorem dL_law_1265 : decode cL_law 1265 = .ok (.ireturn, 1) := by decide +kernel
theorem dL_law_1266 : decode cL_law 1266 = .ok (.aload_n 1, 1) := by decide +kernel
theorem dL_law_1267 : decode cL_law 1267 = .ok (.aload_n 0, 1) := by decide +kernel
theorem dL_law_1268 : decode cL_law 1268 = .ok (.iload_n 3, 1) := by decide +kernel
theorem dL_law_1269 : decode cL_law 1269 = .ok (.iconst 1, 1) := by decide +kernel
theorem dL_law_1270 : decode cL_law 1270 = .ok (.iadd, 1) := by decide +kernel
theorem dL_law_1271 : decode cL_law 1271 = .ok (.iaload, 1) := by decide +kernel
theorem dL_law_1272 : decode cL_law 1272 = .ok (.invokevirtual 163, 3) := by decide +kernel
theorem dL_law_1275 : decode cL_law 1275 = .ok (.aload_n 2, 1) := by decide +kernel
theorem dL_law_1276 : decode cL_law 1276 = .ok (.aload_n 0, 1) := by decide +kernel
theorem dL_law_1277 : decode cL_law 1277 = .ok (.iload_n 3, 1) := by decide +kernel
theorem dL_law_1278 : decode cL_law 1278 = .ok (.iconst 1, 1) := by decide +kernel
theorem dL_law_1279 : decode cL_law 1279 = .ok (.iadd, 1) := by decide +kernel
theorem dL_law_1280 : decode cL_law 1280 = .ok (.iaload, 1) := by decide +kernel
theorem dL_law_1281 : decode cL_law 1281 = .ok (.invokevirtual 166, 3) := by decide +kernel
theorem dL_law_1284 : decode cL_law 1284 = .ok (.if_icmp .eq 410, 3) := by decide +kernel
theorem dL_law_1287 : decode cL_law 1287 = .ok (.iconst 0, 1) := by decide +kernel
theorem dL_law_1288 : decode cL_law 1288 = .ok (.ireturn, 1) := by decide +kernel
theorem dL_law_1289 : decode cL_law 1289 = .ok (.aload_n 1, 1) := by decide +kernel
theorem dL_law_1290 : decode cL_law 1290 = .ok (.aload_n 0, 1) := by decide +kernel
theorem dL_law_1291 : decode cL_law 1291 = .ok (.iload_n 3, 1) := by decide +kernel
theorem dL_law_1292 : decode cL_law 1292 = .ok (.iconst 1, 1) := by decide +kernel
theorem dL_law_1293 : decode cL_law 1293 = .ok (.iadd, 1) := by decide +kernel
theorem dL_law_1294 : decode cL_law 1294 = .ok (.iaload, 1) := by decide +kernel
theorem dL_law_1295 : decode cL_law 1295 = .ok (.aload_n 0, 1) := by decide +kernel
theorem dL_law_1296 : decode cL_law 1296 = .ok (.iload_n 3, 1) := by decide +kernel
theorem dL_law_1297 : decode cL_law 1297 = .ok (.iconst 2, 1) := by decide +kernel
theorem dL_law_1298 : decode cL_law 1298 = .ok (.iadd, 1) := by decide +kernel
theorem dL_law_1299 : decode cL_law 1299 = .ok (.iaload, 1) := by decide +kernel
theorem dL_law_1300 : decode cL_law 1300 = .ok (.invokevirtual 167, 3) := by decide +kernel
theorem dL_law_1303 : decode cL_law 1303 = .ok (.aload_n 2, 1) := by decide +kernel
theorem dL_law_1304 : decode cL_law 1304 = .ok (.aload_n 0, 1) := by decide +kernel
theorem dL_law_1305 : decode cL_law 1305 = .ok (.iload_n 3, 1) := by decide +kernel
theorem dL_law_1306 : decode cL_law 1306 = .ok (.iconst 1, 1) := by decide +kernel
theorem dL_law_1307 : decode cL_law 1307 = .ok (.iadd, 1) := by decide +kernel
theorem dL_law_1308 : decode cL_law 1308 = .ok (.iaload, 1) := by decide +kernel
theorem dL_law_1309 : decode cL_law 1309 = .ok (.aload_n 0, 1) := by decide +kernel
theorem dL_law_1310 : decode cL_law 1310 = .ok (.iload_n 3, 1) := by decide +kernel
theorem dL_law_1311 : decode cL_law 1311 = .ok (.iconst 2, 1) := by decide +kernel
theorem dL_law_1312 : decode cL_law 1312 = .ok (.iadd, 1) := by decide +kernel
theorem dL_law_1313 : decode cL_law 1313 = .ok (.iaload, 1) := by decide +kernel
theorem dL_law_1314 : decode cL_law 1314 = .ok (.invokevirtual 170, 3) := by decide +kernel
theorem dL_law_1317 : decode cL_law 1317 = .ok (.if_icmp .eq 377, 3) := by decide +kernel
theorem dL_law_1320 : decode cL_law 1320 = .ok (.iconst 0, 1) := by decide +kernel
theorem dL_law_1321 : decode cL_law 1321 = .ok (.ireturn, 1) := by decide +kernel
theorem dL_law_1322 : decode cL_law 1322 = .ok (.aload_n 1, 1) := by decide +kernel
theorem dL_law_1323 : decode cL_law 1323 = .ok (.invokevirtual 171, 3) := by decide +kernel
theorem dL_law_1326 : decode cL_law 1326 = .ok (.aload_n 2, 1) := by decide +kernel
theorem dL_law_1327 : decode cL_law 1327 = .ok (.invokevirtual 174, 3) := by decide +kernel
theorem dL_law_1330 : decode cL_law 1330 = .ok (.if_icmp .eq 364, 3) := by decide +kernel
theorem dL_law_1333 : decode cL_law 1333 = .ok (.iconst 0, 1) := by decide +kernel
theorem dL_law_1334 : decode cL_law 1334 = .ok (.ireturn, 1) := by decide +kernel
theorem dL_law_1335 : decode cL_law 1335 = .ok (.aload_n 1, 1) := by decide +kernel
theorem dL_law_1336 : decode cL_law 1336 = .ok (.invokevirtual 175, 3) := by decide +kernel
theorem dL_law_1339 : decode cL_law 1339 = .ok (.aload_n 2, 1) := by decide +kernel
theorem dL_law_1340 : decode cL_law 1340 = .ok (.invokevirtual 178, 3) := by decide +kernel
theorem dL_law_1343 : decode cL_law 1343 = .ok (.if_icmp .eq 351, 3) := by decide +kernel
theorem dL_law_1346 : decode cL_law 1346 = .ok (.iconst 0, 1) := by decide +kernel
theorem dL_law_1347 : decode cL_law 1347 = .ok (.ireturn, 1) := by decide +kernel
theorem dL_law_1348 : decode cL_law 1348 = .ok (.aload_n 1, 1) := by decide +kernel
theorem dL_law_1349 : decode cL_law 1349 = .ok (.aload_n 0, 1) := by decide +kernel
theorem dL_law_1350 : decode cL_law 1350 = .ok (.iload_n 3, 1) := by decide +kernel
theorem dL_law_1351 : decode cL_law 1351 = .ok (.iconst 1, 1) := by decide +kernel
theorem dL_law_1352 : decode cL_law 1352 = .ok (.iadd, 1) := by decide +kernel
theorem dL_law_1353 : decode cL_law 1353 = .ok (.iaload, 1) := by decide +kernel
theorem dL_law_1354 : decode cL_law 1354 = .ok (.aload_n 0, 1) := by decide +kernel
theorem dL_law_1355 : decode cL_law 1355 = .ok (.iload_n 3, 1) := by decide +kernel
theorem dL_law_1356 : decode cL_law 1356 = .ok (.iconst 2, 1) := by decide +kernel
theorem dL_law_1357 : decode cL_law 1357 = .ok (.iadd, 1) := by decide +kernel
theorem dL_law_1358 : decode cL_law 1358 = .ok (.iaload, 1) := by decide +kernel
theorem dL_law_1359 : decode cL_law 1359 = .ok (.invokevirtual 179, 3) := by decide +kernel
theorem dL_law_1362 : decode cL_law 1362 = .ok (.aload_n 2, 1) := by decide +kernel
theorem dL_law_1363 : decode cL_law 1363 = .ok (.aload_n 0, 1) := by decide +kernel
theorem dL_law_1364 : decode cL_law 1364 = .ok (.iload_n 3, 1) := by decide +kernel
theorem dL_law_1365 : decode cL_law 1365 = .ok (.iconst 1, 1) := by decide +kernel
theorem dL_law_1366 : decode cL_law 1366 = .ok (.iadd, 1) := by decide +kernel
theorem dL_law_1367 : decode cL_law 1367 = .ok (.iaload, 1) := by decide +kernel
theorem dL_law_1368 : decode cL_law 1368 = .ok (.aload_n 0, 1) := by decide +kernel
theorem dL_law_1369 : decode cL_law 1369 = .ok (.iload_n 3, 1) := by decide +kernel
theorem dL_law_1370 : decode cL_law 1370 = .ok (.iconst 2, 1) := by decide +kernel
theorem dL_law_1371 : decode cL_law 1371 = .ok (.iadd, 1) := by decide +kernel
theorem dL_law_1372 : decode cL_law 1372 = .ok (.iaload, 1) := by decide +kernel
theorem dL_law_1373 : decode cL_law 1373 = .ok (.invokevirtual 182, 3) := by decide +kernel
theorem dL_law_1376 : decode cL_law 1376 = .ok (.if_icmp .eq 318, 3) := by decide +kernel
theorem dL_law_1379 : decode cL_law 1379 = .ok (.iconst 0, 1) := by decide +kernel
theorem dL_law_1380 : decode cL_law 1380 = .ok (.ireturn, 1) := by decide +kernel
theorem dL_law_1381 : decode cL_law 1381 = .ok (.aload_n 1, 1) := by decide +kernel
theorem dL_law_1382 : decode cL_law 1382 = .ok (.aload_n 0, 1) := by decide +kernel
theorem dL_law_1383 : decode cL_law 1383 = .ok (.iload_n 3, 1) := by decide +kernel
theorem dL_law_1384 : decode cL_law 1384 = .ok (.iconst 1, 1) := by decide +kernel
theorem dL_law_1385 : decode cL_law 1385 = .ok (.iadd, 1) := by decide +kernel
theorem dL_law_1386 : decode cL_law 1386 = .ok (.iaload, 1) := by decide +kernel
theorem dL_law_1387 : decode cL_law 1387 = .ok (.aload_n 0, 1) := by decide +kernel
theorem dL_law_1388 : decode cL_law 1388 = .ok (.iload_n 3, 1) := by decide +kernel
theorem dL_law_1389 : decode cL_law 1389 = .ok (.iconst 2, 1) := by decide +kernel
theorem dL_law_1390 : decode cL_law 1390 = .ok (.iadd, 1) := by decide +kernel
theorem dL_law_1391 : decode cL_law 1391 = .ok (.iaload, 1) := by decide +kernel
theorem dL_law_1392 : decode cL_law 1392 = .ok (.invokevirtual 183, 3) := by decide +kernel
theorem dL_law_1395 : decode cL_law 1395 = .ok (.aload_n 2, 1) := by decide +kernel
theorem dL_law_1396 : decode cL_law 1396 = .ok (.aload_n 0, 1) := by decide +kernel
theorem dL_law_1397 : decode cL_law 1397 = .ok (.iload_n 3, 1) := by decide +kernel
theorem dL_law_1398 : decode cL_law 1398 = .ok (.iconst 1, 1) := by decide +kernel
theorem dL_law_1399 : decode cL_law 1399 = .ok (.iadd, 1) := by decide +kernel
theorem dL_law_1400 : decode cL_law 1400 = .ok (.iaload, 1) := by decide +kernel
theorem dL_law_1401 : decode cL_law 1401 = .ok (.aload_n 0, 1) := by decide +kernel
theorem dL_law_1402 : decode cL_law 1402 = .ok (.iload_n 3, 1) := by decide +kernel
theorem dL_law_1403 : decode cL_law 1403 = .ok (.iconst 2, 1) := by decide +kernel
theorem dL_law_1404 : decode cL_law 1404 = .ok (.iadd, 1) := by decide +kernel
theorem dL_law_1405 : decode cL_law 1405 = .ok (.iaload, 1) := by decide +kernel
theorem dL_law_1406 : decode cL_law 1406 = .ok (.invokevirtual 186, 3) := by decide +kernel
theorem dL_law_1409 : decode cL_law 1409 = .ok (.if_icmp .eq 285, 3) := by decide +kernel
theorem dL_law_1412 : decode cL_law 1412 = .ok (.iconst 0, 1) := by decide +kernel
theorem dL_law_1413 : decode cL_law 1413 = .ok (.ireturn, 1) := by decide +kernel
theorem dL_law_1414 : decode cL_law 1414 = .ok (.aload_n 1, 1) := by decide +kernel
theorem dL_law_1415 : decode cL_law 1415 = .ok (.aload_n 0, 1) := by decide +kernel
theorem dL_law_1416 : decode cL_law 1416 = .ok (.iload_n 3, 1) := by decide +kernel
theorem dL_law_1417 : decode cL_law 1417 = .ok (.iconst 1, 1) := by decide +kernel
theorem dL_law_1418 : decode cL_law 1418 = .ok (.iadd, 1) := by decide +kernel
theorem dL_law_1419 : decode cL_law 1419 = .ok (.iaload, 1) := by decide +kernel
theorem dL_law_1420 : decode cL_law 1420 = .ok (.aload_n 0, 1) := by decide +kernel
theorem dL_law_1421 : decode cL_law 1421 = .ok (.iload_n 3, 1) := by decide +kernel
theorem dL_law_1422 : decode cL_law 1422 = .ok (.iconst 2, 1) := by decide +kernel
theorem dL_law_1423 : decode cL_law 1423 = .ok (.iadd, 1) := by decide +kernel
theorem dL_law_1424 : decode cL_law 1424 = .ok (.iaload, 1) := by decide +kernel
theorem dL_law_1425 : decode cL_law 1425 = .ok (.aload_n 0, 1) := by decide +kernel
theorem dL_law_1426 : decode cL_law 1426 = .ok (.iload_n 3, 1) := by decide +kernel
theorem dL_law_1427 : decode cL_law 1427 = .ok (.iconst 3, 1) := by decide +kernel
theorem dL_law_1428 : decode cL_law 1428 = .ok (.iadd, 1) := by decide +kernel
theorem dL_law_1429 : decode cL_law 1429 = .ok (.iaload, 1) := by decide +kernel
theorem dL_law_1430 : decode cL_law 1430 = .ok (.invokevirtual 187, 3) := by decide +kernel
theorem dL_law_1433 : decode cL_law 1433 = .ok (.aload_n 2, 1) := by decide +kernel
theorem dL_law_1434 : decode cL_law 1434 = .ok (.aload_n 0, 1) := by decide +kernel
theorem dL_law_1435 : decode cL_law 1435 = .ok (.iload_n 3, 1) := by decide +kernel
theorem dL_law_1436 : decode cL_law 1436 = .ok (.iconst 1, 1) := by decide +kernel
theorem dL_law_1437 : decode cL_law 1437 = .ok (.iadd, 1) := by decide +kernel
theorem dL_law_1438 : decode cL_law 1438 = .ok (.iaload, 1) := by decide +kernel
theorem dL_law_1439 : decode cL_law 1439 = .ok (.aload_n 0, 1) := by decide +kernel
theorem dL_law_1440 : decode cL_law 1440 = .ok (.iload_n 3, 1) := by decide +kernel
theorem dL_law_1441 : decode cL_law 1441 = .ok (.iconst 2, 1) := by decide +kernel
theorem dL_law_1442 : decode cL_law 1442 = .ok (.iadd, 1) := by decide +kernel
theorem dL_law_1443 : decode cL_law 1443 = .ok (.iaload, 1) := by decide +kernel
theorem dL_law_1444 : decode cL_law 1444 = .ok (.aload_n 0, 1) := by decide +kernel
theorem dL_law_1445 : decode cL_law 1445 = .ok (.iload_n 3, 1) := by decide +kernel
theorem dL_law_1446 : decode cL_law 1446 = .ok (.iconst 3, 1) := by decide +kernel
theorem dL_law_1447 : decode cL_law 1447 = .ok (.iadd, 1) := by decide +kernel
theorem dL_law_1448 : decode cL_law 1448 = .ok (.iaload, 1) := by decide +kernel
theorem dL_law_1449 : decode cL_law 1449 = .ok (.invokevirtual 190, 3) := by decide +kernel
theorem dL_law_1452 : decode cL_law 1452 = .ok (.if_icmp .eq 242, 3) := by decide +kernel
theorem dL_law_1455 : decode cL_law 1455 = .ok (.iconst 0, 1) := by decide +kernel
theorem dL_law_1456 : decode cL_law 1456 = .ok (.ireturn, 1) := by decide +kernel
theorem dL_law_1457 : decode cL_law 1457 = .ok (.aload_n 1, 1) := by decide +kernel
theorem dL_law_1458 : decode cL_law 1458 = .ok (.aload_n 0, 1) := by decide +kernel
theorem dL_law_1459 : decode cL_law 1459 = .ok (.iload_n 3, 1) := by decide +kernel
theorem dL_law_1460 : decode cL_law 1460 = .ok (.iconst 1, 1) := by decide +kernel
theorem dL_law_1461 : decode cL_law 1461 = .ok (.iadd, 1) := by decide +kernel
theorem dL_law_1462 : decode cL_law 1462 = .ok (.iaload, 1) := by decide +kernel
theorem dL_law_1463 : decode cL_law 1463 = .ok (.aload_n 0, 1) := by decide +kernel
theorem dL_law_1464 : decode cL_law 1464 = .ok (.iload_n 3, 1) := by decide +kernel
theorem dL_law_1465 : decode cL_law 1465 = .ok (.iconst 2, 1) := by decide +kernel
theorem dL_law_1466 : decode cL_law 1466 = .ok (.iadd, 1) := by decide +kernel
theorem dL_law_1467 : decode cL_law 1467 = .ok (.iaload, 1) := by decide +kernel
theorem dL_law_1468 : decode cL_law 1468 = .ok (.aload_n 0, 1) := by decide +kernel
theorem dL_law_1469 : decode cL_law 1469 = .ok (.iload_n 3, 1) := by decide +kernel
theorem dL_law_1470 : decode cL_law 1470 = .ok (.iconst 3, 1) := by decide +kernel
theorem dL_law_1471 : decode cL_law 1471 = .ok (.iadd, 1) := by decide +kernel
theorem dL_law_1472 : decode cL_law 1472 = .ok (.iaload, 1) := by decide +kernel
theorem dL_law_1473 : decode cL_law 1473 = .ok (.invokevirtual 191, 3) := by decide +kernel
theorem dL_law_1476 : decode cL_law 1476 = .ok (.aload_n 2, 1) := by decide +kernel
theorem dL_law_1477 : decode cL_law 1477 = .ok (.aload_n 0, 1) := by decide +kernel
theorem dL_law_1478 : decode cL_law 1478 = .ok (.iload_n 3, 1) := by decide +kernel
theorem dL_law_1479 : decode cL_law 1479 = .ok (.iconst 1, 1) := by decide +kernel
theorem dL_law_1480 : decode cL_law 1480 = .ok (.iadd, 1) := by decide +kernel
theorem dL_law_1481 : decode cL_law 1481 = .ok (.iaload, 1) := by decide +kernel
theorem dL_law_1482 : decode cL_law 1482 = .ok (.aload_n 0, 1) := by decide +kernel
theorem dL_law_1483 : decode cL_law 1483 = .ok (.iload_n 3, 1) := by decide +kernel
theorem dL_law_1484 : decode cL_law 1484 = .ok (.iconst 2, 1) := by decide +kernel
theorem dL_law_1485 : decode cL_law 1485 = .ok (.iadd, 1) := by decide +kernel
theorem dL_law_1486 : decode cL_law 1486 = .ok (.iaload, 1) := by decide +kernel
theorem dL_law_1487 : decode cL_law 1487 = .ok (.aload_n 0, 1) := by decide +kernel
theorem dL_law_1488 : decode cL_law 1488 = .ok (.iload_n 3, 1) := by decide +kernel
theorem dL_law_1489 : decode cL_law 1489 = .ok (.iconst 3, 1) := by decide +kernel
theorem dL_law_1490 : decode cL_law 1490 = .ok (.iadd, 1) := by decide +kernel
theorem dL_law_1491 : decode cL_law 1491 = .ok (.iaload, 1) := by decide +kernel
theorem dL_law_1492 : decode cL_law 1492 = .ok (.invokevirtual 194, 3) := by decide +kernel
theorem dL_law_1495 : decode cL_law 1495 = .ok (.if_icmp .eq 199, 3) := by decide +kernel
theorem dL_law_1498 : decode cL_law 1498 = .ok (.iconst 0, 1) := by decide +kernel
theorem dL_law_1499 : decode cL_law 1499 = .ok (.ireturn, 1) := by decide +kernel
theorem dL_law_1500 : decode cL_law 1500 = .ok (.aload_n 1, 1) := by decide +kernel
theorem dL_law_1501 : decode cL_law 1501 = .ok (.aload_n 0, 1) := by decide +kernel
theorem dL_law_1502 : decode cL_law 1502 = .ok (.iload_n 3, 1) := by decide +kernel
theorem dL_law_1503 : decode cL_law 1503 = .ok (.iconst 1, 1) := by decide +kernel
theorem dL_law_1504 : decode cL_law 1504 = .ok (.iadd, 1) := by decide +kernel
theorem dL_law_1505 : decode cL_law 1505 = .ok (.iaload, 1) := by decide +kernel
theorem dL_law_1506 : decode cL_law 1506 = .ok (.aload_n 0, 1) := by decide +kernel
theorem dL_law_1507 : decode cL_law 1507 = .ok (.iload_n 3, 1) := by decide +kernel
theorem dL_law_1508 : decode cL_law 1508 = .ok (.iconst 2, 1) := by decide +kernel
theorem dL_law_1509 : decode cL_law 1509 = .ok (.iadd, 1) := by decide +kernel
theorem dL_law_1510 : decode cL_law 1510 = .ok (.iaload, 1) := by decide +kernel
theorem dL_law_1511 : decode cL_law 1511 = .ok (.aload_n 0, 1) := by decide +kernel
theorem dL_law_1512 : decode cL_law 1512 = .ok (.iload_n 3, 1) := by decide +kernel
theorem dL_law_1513 : decode cL_law 1513 = .ok (.iconst 3, 1) := by decide +kernel
theorem dL_law_1514 : decode cL_law 1514 = .ok (.iadd, 1) := by decide +kernel
theorem dL_law_1515 : decode cL_law 1515 = .ok (.iaload, 1) := by decide +kernel
theorem dL_law_1516 : decode cL_law 1516 = .ok (.aload_n 0, 1) := by decide +kernel
theorem dL_law_1517 : decode cL_law 1517 = .ok (.iload_n 3, 1) := by decide +kernel
theorem dL_law_1518 : decode cL_law 1518 = .ok (.iconst 4, 1) := by decide +kernel
theorem dL_law_1519 : decode cL_law 1519 = .ok (.iadd, 1) := by decide +kernel
theorem dL_law_1520 : decode cL_law 1520 = .ok (.iaload, 1) := by decide +kernel
theorem dL_law_1521 : decode cL_law 1521 = .ok (.aload_n 0, 1) := by decide +kernel
theorem dL_law_1522 : decode cL_law 1522 = .ok (.iload_n 3, 1) := by decide +kernel
theorem dL_law_1523 : decode cL_law 1523 = .ok (.iconst 5, 1) := by decide +kernel
theorem dL_law_1524 : decode cL_law 1524 = .ok (.iadd, 1) := by decide +kernel
theorem dL_law_1525 : decode cL_law 1525 = .ok (.iaload, 1) := by decide +kernel
theorem dL_law_1526 : decode cL_law 1526 = .ok (.invokevirtual 195, 3) := by decide +kernel
theorem dL_law_1529 : decode cL_law 1529 = .ok (.aload_n 2, 1) := by decide +kernel
theorem dL_law_1530 : decode cL_law 1530 = .ok (.aload_n 0, 1) := by decide +kernel
theorem dL_law_1531 : decode cL_law 1531 = .ok (.iload_n 3, 1) := by decide +kernel
theorem dL_law_1532 : decode cL_law 1532 = .ok (.iconst 1, 1) := by decide +kernel
theorem dL_law_1533 : decode cL_law 1533 = .ok (.iadd, 1) := by decide +kernel
theorem dL_law_1534 : decode cL_law 1534 = .ok (.iaload, 1) := by decide +kernel
theorem dL_law_1535 : decode cL_law 1535 = .ok (.aload_n 0, 1) := by decide +kernel
theorem dL_law_1536 : decode cL_law 1536 = .ok (.iload_n 3, 1) := by decide +kernel
theorem dL_law_1537 : decode cL_law 1537 = .ok (.iconst 2, 1) := by decide +kernel
theorem dL_law_1538 : decode cL_law 1538 = .ok (.iadd, 1) := by decide +kernel
theorem dL_law_1539 : decode cL_law 1539 = .ok (.iaload, 1) := by decide +kernel
theorem dL_law_1540 : decode cL_law 1540 = .ok (.aload_n 0, 1) := by decide +kernel
theorem dL_law_1541 : decode cL_law 1541 = .ok (.iload_n 3, 1) := by decide +kernel
theorem dL_law_1542 : decode cL_law 1542 = .ok (.iconst 3, 1) := by decide +kernel
theorem dL_law_1543 : decode cL_law 1543 = .ok (.iadd, 1) := by decide +kernel
theorem dL_law_1544 : decode cL_law 1544 = .ok (.iaload, 1) := by decide +kernel
theorem dL_law_1545 : decode cL_law 1545 = .ok (.aload_n 0, 1) := by decide +kernel
theorem dL_law_1546 : decode cL_law 1546 = .ok (.iload_n 3, 1) := by decide +kernel
theorem dL_law_1547 : decode cL_law 1547 = .ok (.iconst 4, 1) := by decide +kernel
theorem dL_law_1548 : decode cL_law 1548 = .ok (.iadd, 1) := by decide +kernel
theorem dL_law_1549 : decode cL_law 1549 = .ok (.iaload, 1) := by decide +kernel
theorem dL_law_1550 : decode cL_law 1550 = .ok (.aload_n 0, 1) := by decide +kernel
theorem dL_law_1551 : decode cL_law 1551 = .ok (.iload_n 3, 1) := by decide +kernel
theorem dL_law_1552 : decode cL_law 1552 = .ok (.iconst 5, 1) := by decide +kernel
theorem dL_law_1553 : decode cL_law 1553 = .ok (.iadd, 1) := by decide +kernel
theorem dL_law_1554 : decode cL_law 1554 = .ok (.iaload, 1) := by decide +kernel
theorem dL_law_1555 : decode cL_law 1555 = .ok (.invokevirtual 199, 3) := by decide +kernel
theorem dL_law_1558 : decode cL_law 1558 = .ok (.if_icmp .eq 136, 3) := by decide +kernel
theorem dL_law_1561 : decode cL_law 1561 = .ok (.iconst 0, 1) := by decide +kernel
theorem dL_law_1562 : decode cL_law 1562 = .ok (.ireturn, 1) := by decide +kernel
theorem dL_law_1563 : decode cL_law 1563 = .ok (.aload_n 1, 1) := by decide +kernel
theorem dL_law_1564 : decode cL_law 1564 = .ok (.aload_n 0, 1) := by decide +kernel
theorem dL_law_1565 : decode cL_law 1565 = .ok (.iload_n 3, 1) := by decide +kernel
theorem dL_law_1566 : decode cL_law 1566 = .ok (.iconst 1, 1) := by decide +kernel
theorem dL_law_1567 : decode cL_law 1567 = .ok (.iadd, 1) := by decide +kernel
theorem dL_law_1568 : decode cL_law 1568 = .ok (.iaload, 1) := by decide +kernel
theorem dL_law_1569 : decode cL_law 1569 = .ok (.invokevirtual 200, 3) := by decide +kernel
theorem dL_law_1572 : decode cL_law 1572 = .ok (.aload_n 2, 1) := by decide +kernel
theorem dL_law_1573 : decode cL_law 1573 = .ok (.aload_n 0, 1) := by decide +kernel
theorem dL_law_1574 : decode cL_law 1574 = .ok (.iload_n 3, 1) := by decide +kernel
theorem dL_law_1575 : decode cL_law 1575 = .ok (.iconst 1, 1) := by decide +kernel
theorem dL_law_1576 : decode cL_law 1576 = .ok (.iadd, 1) := by decide +kernel
theorem dL_law_1577 : decode cL_law 1577 = .ok (.iaload, 1) := by decide +kernel
theorem dL_law_1578 : decode cL_law 1578 = .ok (.invokevirtual 203, 3) := by decide +kernel
theorem dL_law_1581 : decode cL_law 1581 = .ok (.if_icmp .eq 113, 3) := by decide +kernel
theorem dL_law_1584 : decode cL_law 1584 = .ok (.iconst 0, 1) := by decide +kernel
theorem dL_law_1585 : decode cL_law 1585 = .ok (.ireturn, 1) := by decide +kernel
theorem dL_law_1586 : decode cL_law 1586 = .ok (.aload_n 1, 1) := by decide +kernel
theorem dL_law_1587 : decode cL_law 1587 = .ok (.aload_n 0, 1) := by decide +kernel
theorem dL_law_1588 : decode cL_law 1588 = .ok (.iload_n 3, 1) := by decide +kernel
theorem dL_law_1589 : decode cL_law 1589 = .ok (.iconst 1, 1) := by decide +kernel
theorem dL_law_1590 : decode cL_law 1590 = .ok (.iadd, 1) := by decide +kernel
theorem dL_law_1591 : decode cL_law 1591 = .ok (.iaload, 1) := by decide +kernel
theorem dL_law_1592 : decode cL_law 1592 = .ok (.invokevirtual 204, 3) := by decide +kernel
theorem dL_law_1595 : decode cL_law 1595 = .ok (.aload_n 2, 1) := by decide +kernel
theorem dL_law_1596 : decode cL_law 1596 = .ok (.aload_n 0, 1) := by decide +kernel
theorem dL_law_1597 : decode cL_law 1597 = .ok (.iload_n 3, 1) := by decide +kernel
theorem dL_law_1598 : decode cL_law 1598 = .ok (.iconst 1, 1) := by decide +kernel
theorem dL_law_1599 : decode cL_law 1599 = .ok (.iadd, 1) := by decide +kernel
theorem dL_law_1600 : decode cL_law 1600 = .ok (.iaload, 1) := by decide +kernel
theorem dL_law_1601 : decode cL_law 1601 = .ok (.invokevirtual 207, 3) := by decide +kernel
theorem dL_law_1604 : decode cL_law 1604 = .ok (.if_icmp .eq 90, 3) := by decide +kernel
theorem dL_law_1607 : decode cL_law 1607 = .ok (.iconst 0, 1) := by decide +kernel
theorem dL_law_1608 : decode cL_law 1608 = .ok (.ireturn, 1) := by decide +kernel
theorem dL_law_1609 : decode cL_law 1609 = .ok (.aload_n 1, 1) := by decide +kernel
theorem dL_law_1610 : decode cL_law 1610 = .ok (.invokevirtual 208, 3) := by decide +kernel
theorem dL_law_1613 : decode cL_law 1613 = .ok (.aload_n 2, 1) := by decide +kernel
theorem dL_law_1614 : decode cL_law 1614 = .ok (.invokevirtual 211, 3) := by decide +kernel
theorem dL_law_1617 : decode cL_law 1617 = .ok (.if_icmp .eq 77, 3) := by decide +kernel
theorem dL_law_1620 : decode cL_law 1620 = .ok (.iconst 0, 1) := by decide +kernel
theorem dL_law_1621 : decode cL_law 1621 = .ok (.ireturn, 1) := by decide +kernel
theorem dL_law_1622 : decode cL_law 1622 = .ok (.aload_n 1, 1) := by decide +kernel
theorem dL_law_1623 : decode cL_law 1623 = .ok (.invokevirtual 212, 3) := by decide +kernel
theorem dL_law_1626 : decode cL_law 1626 = .ok (.aload_n 2, 1) := by decide +kernel
theorem dL_law_1627 : decode cL_law 1627 = .ok (.invokevirtual 215, 3) := by decide +kernel
theorem dL_law_1630 : decode cL_law 1630 = .ok (.if_icmp .eq 64, 3) := by decide +kernel
theorem dL_law_1633 : decode cL_law 1633 = .ok (.iconst 0, 1) := by decide +kernel
theorem dL_law_1634 : decode cL_law 1634 = .ok (.ireturn, 1) := by decide +kernel
theorem dL_law_1635 : decode cL_law 1635 = .ok (.aload_n 1, 1) := by decide +kernel
theorem dL_law_1636 : decode cL_law 1636 = .ok (.invokevirtual 216, 3) := by decide +kernel
theorem dL_law_1639 : decode cL_law 1639 = .ok (.aload_n 2, 1) := by decide +kernel
theorem dL_law_1640 : decode cL_law 1640 = .ok (.invokevirtual 219, 3) := by decide +kernel
theorem dL_law_1643 : decode cL_law 1643 = .ok (.if_icmp .eq 51, 3) := by decide +kernel
theorem dL_law_1646 : decode cL_law 1646 = .ok (.iconst 0, 1) := by decide +kernel
theorem dL_law_1647 : decode cL_law 1647 = .ok (.ireturn, 1) := by decide +kernel
theorem dL_law_1648 : decode cL_law 1648 = .ok (.aload_n 1, 1) := by decide +kernel
theorem dL_law_1649 : decode cL_law 1649 = .ok (.aload_n 0, 1) := by decide +kernel
theorem dL_law_1650 : decode cL_law 1650 = .ok (.iload_n 3, 1) := by decide +kernel
theorem dL_law_1651 : decode cL_law 1651 = .ok (.iconst 1, 1) := by decide +kernel
theorem dL_law_1652 : decode cL_law 1652 = .ok (.iadd, 1) := by decide +kernel
theorem dL_law_1653 : decode cL_law 1653 = .ok (.iaload, 1) := by decide +kernel
theorem dL_law_1654 : decode cL_law 1654 = .ok (.invokevirtual 220, 3) := by decide +kernel
theorem dL_law_1657 : decode cL_law 1657 = .ok (.aload_n 2, 1) := by decide +kernel
theorem dL_law_1658 : decode cL_law 1658 = .ok (.aload_n 0, 1) := by decide +kernel
theorem dL_law_1659 : decode cL_law 1659 = .ok (.iload_n 3, 1) := by decide +kernel
theorem dL_law_1660 : decode cL_law 1660 = .ok (.iconst 1, 1) := by decide +kernel
theorem dL_law_1661 : decode cL_law 1661 = .ok (.iadd, 1) := by decide +kernel
theorem dL_law_1662 : decode cL_law 1662 = .ok (.iaload, 1) := by decide +kernel
theorem dL_law_1663 : decode cL_law 1663 = .ok (.invokevirtual 223, 3) := by decide +kernel
theorem dL_law_1666 : decode cL_law 1666 = .ok (.if_icmp .eq 28, 3) := by decide +kernel
theorem dL_law_1669 : decode cL_law 1669 = .ok (.iconst 0, 1) := by decide +kernel
theorem dL_law_1670 : decode cL_law 1670 = .ok (.ireturn, 1) := by decide +kernel
theorem dL_law_1671 : decode cL_law 1671 = .ok (.aload_n 1, 1) := by decide +kernel
theorem dL_law_1672 : decode cL_law 1672 = .ok (.aload_n 0, 1) := by decide +kernel
theorem dL_law_1673 : decode cL_law 1673 = .ok (.iload_n 3, 1) := by decide +kernel
theorem dL_law_1674 : decode cL_law 1674 = .ok (.iconst 1, 1) := by decide +kernel
theorem dL_law_1675 : decode cL_law 1675 = .ok (.iadd, 1) := by decide +kernel
theorem dL_law_1676 : decode cL_law 1676 = .ok (.iaload, 1) := by decide +kernel
theorem dL_law_1677 : decode cL_law 1677 = .ok (.invokevirtual 224, 3) := by decide +kernel
theorem dL_law_1680 : decode cL_law 1680 = .ok (.aload_n 2, 1) := by decide +kernel
theorem dL_law_1681 : decode cL_law 1681 = .ok (.aload_n 0, 1) := by decide +kernel
theorem dL_law_1682 : decode cL_law 1682 = .ok (.iload_n 3, 1) := by decide +kernel
theorem dL_law_1683 : decode cL_law 1683 = .ok (.iconst 1, 1) := by decide +kernel
theorem dL_law_1684 : decode cL_law 1684 = .ok (.iadd, 1) := by decide +kernel
theorem dL_law_1685 : decode cL_law 1685 = .ok (.iaload, 1) := by decide +kernel
theorem dL_law_1686 : decode cL_law 1686 = .ok (.invokevirtual 227, 3) := by decide +kernel
theorem dL_law_1689 : decode cL_law 1689 = .ok (.if_icmp .eq 5, 3) := by decide +kernel
theorem dL_law_1692 : decode cL_law 1692 = .ok (.iconst 0, 1) := by decide +kernel
theorem dL_law_1693 : decode cL_law 1693 = .ok (.ireturn, 1) := by decide +kernel
theorem dL_law_1694 : decode cL_law 1694 = .ok (.iinc 3 6, 3) := by decide +kernel
theorem dL_law_1697 : decode cL_law 1697 = .ok (.goto (-1679), 3) := by decide +kernel
theorem dL_law_1700 : decode cL_law 1700 = .ok (.iconst 1, 1) := by decide +kernel
theorem dL_law_1701 : decode cL_law 1701 = .ok (.ireturn, 1) := by decide +kernel
end
section
theorem zz_dummy : True := trivial
end
