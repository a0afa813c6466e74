-- ===== PART A: goes FIRST, ahead of the names: the tables' words, and 'selects' of the private methods out of them =====
/-- a private method of a class that the tables say can be made, by its rows of tables_1 -/
def lw_okq (q : MethodName × Nat) : Prop := (q.1.cls ≠ "java/lang/invoke/MethodHandle" ∧ q.1.cls ≠ "java/lang/invoke/VarHandle") ∧ Cond.instantiable q.1.cls q.2 ∈ tables_1 ∧ Cond.privateMethod q.1 ∈ tables_1 ∧ Cond.instanceMethod q.1 ∈ tables_1
theorem lw_p0 : lw_okq (⟨"CarriedHome", "refuse", "(I)I"⟩, 10) := ⟨⟨by decide +kernel, by decide +kernel⟩, List.mem_of_getElem? (i := 13) (by decide +kernel), List.mem_of_getElem? (i := 182) (by decide +kernel), List.mem_of_getElem? (i := 183) (by decide +kernel)⟩
theorem lw_p1 : lw_okq (⟨"CarriedHome", "obeys", "(I)Z"⟩, 10) := ⟨⟨by decide +kernel, by decide +kernel⟩, List.mem_of_getElem? (i := 13) (by decide +kernel), List.mem_of_getElem? (i := 226) (by decide +kernel), List.mem_of_getElem? (i := 227) (by decide +kernel)⟩
theorem lw_p2 : lw_okq (⟨"CarriedHomeModel", "refuse", "(I)I"⟩, 33) := ⟨⟨by decide +kernel, by decide +kernel⟩, List.mem_of_getElem? (i := 715) (by decide +kernel), List.mem_of_getElem? (i := 825) (by decide +kernel), List.mem_of_getElem? (i := 826) (by decide +kernel)⟩
theorem lw_p3 : lw_okq (⟨"CarriedHomeModel", "readStatement", "()V"⟩, 33) := ⟨⟨by decide +kernel, by decide +kernel⟩, List.mem_of_getElem? (i := 715) (by decide +kernel), List.mem_of_getElem? (i := 833) (by decide +kernel), List.mem_of_getElem? (i := 834) (by decide +kernel)⟩
theorem lw_p4 : lw_okq (⟨"CarriedHomeModel", "here", "()I"⟩, 33) := ⟨⟨by decide +kernel, by decide +kernel⟩, List.mem_of_getElem? (i := 715) (by decide +kernel), List.mem_of_getElem? (i := 837) (by decide +kernel), List.mem_of_getElem? (i := 838) (by decide +kernel)⟩
theorem lw_p5 : lw_okq (⟨"CarriedHomeModel", "readNumbers", "(II)V"⟩, 33) := ⟨⟨by decide +kernel, by decide +kernel⟩, List.mem_of_getElem? (i := 715) (by decide +kernel), List.mem_of_getElem? (i := 844) (by decide +kernel), List.mem_of_getElem? (i := 845) (by decide +kernel)⟩
theorem lw_p6 : lw_okq (⟨"CarriedHomeModel", "readDigits", "(I)I"⟩, 33) := ⟨⟨by decide +kernel, by decide +kernel⟩, List.mem_of_getElem? (i := 715) (by decide +kernel), List.mem_of_getElem? (i := 848) (by decide +kernel), List.mem_of_getElem? (i := 849) (by decide +kernel)⟩
theorem lw_p7 : lw_okq (⟨"CarriedHomeModel", "think", "()V"⟩, 33) := ⟨⟨by decide +kernel, by decide +kernel⟩, List.mem_of_getElem? (i := 715) (by decide +kernel), List.mem_of_getElem? (i := 857) (by decide +kernel), List.mem_of_getElem? (i := 858) (by decide +kernel)⟩
theorem lw_p8 : lw_okq (⟨"CarriedHomeModel", "carryAll", "([IZ)V"⟩, 33) := ⟨⟨by decide +kernel, by decide +kernel⟩, List.mem_of_getElem? (i := 715) (by decide +kernel), List.mem_of_getElem? (i := 861) (by decide +kernel), List.mem_of_getElem? (i := 862) (by decide +kernel)⟩
theorem lw_p9 : lw_okq (⟨"CarriedHomeModel", "carry", "(I)I"⟩, 33) := ⟨⟨by decide +kernel, by decide +kernel⟩, List.mem_of_getElem? (i := 715) (by decide +kernel), List.mem_of_getElem? (i := 865) (by decide +kernel), List.mem_of_getElem? (i := 866) (by decide +kernel)⟩
theorem lw_p10 : lw_okq (⟨"CarriedHomeModel", "comesTold", "(I)Z"⟩, 33) := ⟨⟨by decide +kernel, by decide +kernel⟩, List.mem_of_getElem? (i := 715) (by decide +kernel), List.mem_of_getElem? (i := 869) (by decide +kernel), List.mem_of_getElem? (i := 870) (by decide +kernel)⟩
theorem lw_p11 : lw_okq (⟨"CarriedHomeModel", "manComes", "(II)Z"⟩, 33) := ⟨⟨by decide +kernel, by decide +kernel⟩, List.mem_of_getElem? (i := 715) (by decide +kernel), List.mem_of_getElem? (i := 873) (by decide +kernel), List.mem_of_getElem? (i := 874) (by decide +kernel)⟩
theorem lw_p12 : lw_okq (⟨"CarriedHomeModel", "pardonTold", "(I)Z"⟩, 33) := ⟨⟨by decide +kernel, by decide +kernel⟩, List.mem_of_getElem? (i := 715) (by decide +kernel), List.mem_of_getElem? (i := 877) (by decide +kernel), List.mem_of_getElem? (i := 878) (by decide +kernel)⟩
theorem lw_p13 : lw_okq (⟨"CarriedHomeModel", "isMan", "(I)Z"⟩, 33) := ⟨⟨by decide +kernel, by decide +kernel⟩, List.mem_of_getElem? (i := 715) (by decide +kernel), List.mem_of_getElem? (i := 881) (by decide +kernel), List.mem_of_getElem? (i := 882) (by decide +kernel)⟩
theorem lw_p14 : lw_okq (⟨"CarriedHomeModel", "daysTold", "(I)Z"⟩, 33) := ⟨⟨by decide +kernel, by decide +kernel⟩, List.mem_of_getElem? (i := 715) (by decide +kernel), List.mem_of_getElem? (i := 886) (by decide +kernel), List.mem_of_getElem? (i := 887) (by decide +kernel)⟩
theorem lw_p15 : lw_okq (⟨"CarriedHomeModel", "goDays", "(I)V"⟩, 33) := ⟨⟨by decide +kernel, by decide +kernel⟩, List.mem_of_getElem? (i := 715) (by decide +kernel), List.mem_of_getElem? (i := 890) (by decide +kernel), List.mem_of_getElem? (i := 891) (by decide +kernel)⟩
def lw_privs_1 : List (MethodName × Nat) := [(⟨"CarriedHome", "refuse", "(I)I"⟩, 10), (⟨"CarriedHome", "obeys", "(I)Z"⟩, 10), (⟨"CarriedHomeModel", "refuse", "(I)I"⟩, 33), (⟨"CarriedHomeModel", "readStatement", "()V"⟩, 33), (⟨"CarriedHomeModel", "here", "()I"⟩, 33), (⟨"CarriedHomeModel", "readNumbers", "(II)V"⟩, 33), (⟨"CarriedHomeModel", "readDigits", "(I)I"⟩, 33), (⟨"CarriedHomeModel", "think", "()V"⟩, 33), (⟨"CarriedHomeModel", "carryAll", "([IZ)V"⟩, 33), (⟨"CarriedHomeModel", "carry", "(I)I"⟩, 33), (⟨"CarriedHomeModel", "comesTold", "(I)Z"⟩, 33), (⟨"CarriedHomeModel", "manComes", "(II)Z"⟩, 33), (⟨"CarriedHomeModel", "pardonTold", "(I)Z"⟩, 33), (⟨"CarriedHomeModel", "isMan", "(I)Z"⟩, 33), (⟨"CarriedHomeModel", "daysTold", "(I)Z"⟩, 33), (⟨"CarriedHomeModel", "goDays", "(I)V"⟩, 33)]
theorem lw_r1 : ∀ q ∈ lw_privs_1, lw_okq q := List.forall_mem_cons.mpr ⟨lw_p0, List.forall_mem_cons.mpr ⟨lw_p1, List.forall_mem_cons.mpr ⟨lw_p2, List.forall_mem_cons.mpr ⟨lw_p3, List.forall_mem_cons.mpr ⟨lw_p4, List.forall_mem_cons.mpr ⟨lw_p5, List.forall_mem_cons.mpr ⟨lw_p6, List.forall_mem_cons.mpr ⟨lw_p7, List.forall_mem_cons.mpr ⟨lw_p8, List.forall_mem_cons.mpr ⟨lw_p9, List.forall_mem_cons.mpr ⟨lw_p10, List.forall_mem_cons.mpr ⟨lw_p11, List.forall_mem_cons.mpr ⟨lw_p12, List.forall_mem_cons.mpr ⟨lw_p13, List.forall_mem_cons.mpr ⟨lw_p14, List.forall_mem_cons.mpr ⟨lw_p15, fun _ h => absurd h List.not_mem_nil⟩⟩⟩⟩⟩⟩⟩⟩⟩⟩⟩⟩⟩⟩⟩⟩
theorem lw_p16 : lw_okq (⟨"CarriedHomeModel", "dayOn", "()V"⟩, 33) := ⟨⟨by decide +kernel, by decide +kernel⟩, List.mem_of_getElem? (i := 715) (by decide +kernel), List.mem_of_getElem? (i := 894) (by decide +kernel), List.mem_of_getElem? (i := 895) (by decide +kernel)⟩
theorem lw_p17 : lw_okq (⟨"CarriedHomeModel", "bearersNow", "()I"⟩, 33) := ⟨⟨by decide +kernel, by decide +kernel⟩, List.mem_of_getElem? (i := 715) (by decide +kernel), List.mem_of_getElem? (i := 898) (by decide +kernel), List.mem_of_getElem? (i := 899) (by decide +kernel)⟩
theorem lw_p18 : lw_okq (⟨"CarriedHomeModel", "strongestBut", "(I)I"⟩, 33) := ⟨⟨by decide +kernel, by decide +kernel⟩, List.mem_of_getElem? (i := 715) (by decide +kernel), List.mem_of_getElem? (i := 902) (by decide +kernel), List.mem_of_getElem? (i := 903) (by decide +kernel)⟩
theorem lw_p19 : lw_okq (⟨"CarriedHomeModel", "bearsOf", "(I)I"⟩, 33) := ⟨⟨by decide +kernel, by decide +kernel⟩, List.mem_of_getElem? (i := 715) (by decide +kernel), List.mem_of_getElem? (i := 909) (by decide +kernel), List.mem_of_getElem? (i := 910) (by decide +kernel)⟩
theorem lw_p20 : lw_okq (⟨"CarriedHomeModel", "neededHere", "()I"⟩, 33) := ⟨⟨by decide +kernel, by decide +kernel⟩, List.mem_of_getElem? (i := 715) (by decide +kernel), List.mem_of_getElem? (i := 913) (by decide +kernel), List.mem_of_getElem? (i := 914) (by decide +kernel)⟩
theorem lw_p21 : lw_okq (⟨"CarriedHomeModel", "wearsOf", "(III)I"⟩, 33) := ⟨⟨by decide +kernel, by decide +kernel⟩, List.mem_of_getElem? (i := 715) (by decide +kernel), List.mem_of_getElem? (i := 917) (by decide +kernel), List.mem_of_getElem? (i := 918) (by decide +kernel)⟩
theorem lw_p22 : lw_okq (⟨"CarriedHomeModel", "feudingIn", "(I)I"⟩, 33) := ⟨⟨by decide +kernel, by decide +kernel⟩, List.mem_of_getElem? (i := 715) (by decide +kernel), List.mem_of_getElem? (i := 921) (by decide +kernel), List.mem_of_getElem? (i := 922) (by decide +kernel)⟩
theorem lw_p23 : lw_okq (⟨"CarriedHomeModel", "isFeuding", "(I)Z"⟩, 33) := ⟨⟨by decide +kernel, by decide +kernel⟩, List.mem_of_getElem? (i := 715) (by decide +kernel), List.mem_of_getElem? (i := 925) (by decide +kernel), List.mem_of_getElem? (i := 926) (by decide +kernel)⟩
theorem lw_p24 : lw_okq (⟨"CarriedHomeModel", "lastsOf", "(I)I"⟩, 33) := ⟨⟨by decide +kernel, by decide +kernel⟩, List.mem_of_getElem? (i := 715) (by decide +kernel), List.mem_of_getElem? (i := 932) (by decide +kernel), List.mem_of_getElem? (i := 933) (by decide +kernel)⟩
theorem lw_p25 : lw_okq (⟨"CarriedHomeModel", "again", "()V"⟩, 33) := ⟨⟨by decide +kernel, by decide +kernel⟩, List.mem_of_getElem? (i := 715) (by decide +kernel), List.mem_of_getElem? (i := 936) (by decide +kernel), List.mem_of_getElem? (i := 937) (by decide +kernel)⟩
theorem lw_p26 : lw_okq (⟨"CarriedHomeModel", "keepTurn", "()V"⟩, 33) := ⟨⟨by decide +kernel, by decide +kernel⟩, List.mem_of_getElem? (i := 715) (by decide +kernel), List.mem_of_getElem? (i := 973) (by decide +kernel), List.mem_of_getElem? (i := 974) (by decide +kernel)⟩
theorem lw_p27 : lw_okq (⟨"CarriedHomeModel", "waitsIn", "(I)I"⟩, 33) := ⟨⟨by decide +kernel, by decide +kernel⟩, List.mem_of_getElem? (i := 715) (by decide +kernel), List.mem_of_getElem? (i := 1000) (by decide +kernel), List.mem_of_getElem? (i := 1001) (by decide +kernel)⟩
theorem lw_p28 : lw_okq (⟨"CarriedHomeModel", "bitsOf", "(I)I"⟩, 33) := ⟨⟨by decide +kernel, by decide +kernel⟩, List.mem_of_getElem? (i := 715) (by decide +kernel), List.mem_of_getElem? (i := 1004) (by decide +kernel), List.mem_of_getElem? (i := 1005) (by decide +kernel)⟩
theorem lw_p29 : lw_okq (⟨"CarriedHomeModel", "homeIn", "()I"⟩, 33) := ⟨⟨by decide +kernel, by decide +kernel⟩, List.mem_of_getElem? (i := 715) (by decide +kernel), List.mem_of_getElem? (i := 1016) (by decide +kernel), List.mem_of_getElem? (i := 1017) (by decide +kernel)⟩
theorem lw_p30 : lw_okq (⟨"CarriedHomeModel", "diesIn", "(I)I"⟩, 33) := ⟨⟨by decide +kernel, by decide +kernel⟩, List.mem_of_getElem? (i := 715) (by decide +kernel), List.mem_of_getElem? (i := 1025) (by decide +kernel), List.mem_of_getElem? (i := 1026) (by decide +kernel)⟩
theorem lw_p31 : lw_okq (⟨"CarriedHomeModel", "kingThen", "(I)I"⟩, 33) := ⟨⟨by decide +kernel, by decide +kernel⟩, List.mem_of_getElem? (i := 715) (by decide +kernel), List.mem_of_getElem? (i := 1033) (by decide +kernel), List.mem_of_getElem? (i := 1034) (by decide +kernel)⟩
def lw_privs_2 : List (MethodName × Nat) := [(⟨"CarriedHomeModel", "dayOn", "()V"⟩, 33), (⟨"CarriedHomeModel", "bearersNow", "()I"⟩, 33), (⟨"CarriedHomeModel", "strongestBut", "(I)I"⟩, 33), (⟨"CarriedHomeModel", "bearsOf", "(I)I"⟩, 33), (⟨"CarriedHomeModel", "neededHere", "()I"⟩, 33), (⟨"CarriedHomeModel", "wearsOf", "(III)I"⟩, 33), (⟨"CarriedHomeModel", "feudingIn", "(I)I"⟩, 33), (⟨"CarriedHomeModel", "isFeuding", "(I)Z"⟩, 33), (⟨"CarriedHomeModel", "lastsOf", "(I)I"⟩, 33), (⟨"CarriedHomeModel", "again", "()V"⟩, 33), (⟨"CarriedHomeModel", "keepTurn", "()V"⟩, 33), (⟨"CarriedHomeModel", "waitsIn", "(I)I"⟩, 33), (⟨"CarriedHomeModel", "bitsOf", "(I)I"⟩, 33), (⟨"CarriedHomeModel", "homeIn", "()I"⟩, 33), (⟨"CarriedHomeModel", "diesIn", "(I)I"⟩, 33), (⟨"CarriedHomeModel", "kingThen", "(I)I"⟩, 33)]
theorem lw_r2 : ∀ q ∈ lw_privs_2, lw_okq q := List.forall_mem_cons.mpr ⟨lw_p16, List.forall_mem_cons.mpr ⟨lw_p17, List.forall_mem_cons.mpr ⟨lw_p18, List.forall_mem_cons.mpr ⟨lw_p19, List.forall_mem_cons.mpr ⟨lw_p20, List.forall_mem_cons.mpr ⟨lw_p21, List.forall_mem_cons.mpr ⟨lw_p22, List.forall_mem_cons.mpr ⟨lw_p23, List.forall_mem_cons.mpr ⟨lw_p24, List.forall_mem_cons.mpr ⟨lw_p25, List.forall_mem_cons.mpr ⟨lw_p26, List.forall_mem_cons.mpr ⟨lw_p27, List.forall_mem_cons.mpr ⟨lw_p28, List.forall_mem_cons.mpr ⟨lw_p29, List.forall_mem_cons.mpr ⟨lw_p30, List.forall_mem_cons.mpr ⟨lw_p31, fun _ h => absurd h List.not_mem_nil⟩⟩⟩⟩⟩⟩⟩⟩⟩⟩⟩⟩⟩⟩⟩⟩
theorem lw_p32 : lw_okq (⟨"CarriedHomeModel", "pairsNow", "()I"⟩, 33) := ⟨⟨by decide +kernel, by decide +kernel⟩, List.mem_of_getElem? (i := 715) (by decide +kernel), List.mem_of_getElem? (i := 1060) (by decide +kernel), List.mem_of_getElem? (i := 1061) (by decide +kernel)⟩
theorem lw_p33 : lw_okq (⟨"CarriedHomeModel", "leastPoles", "()I"⟩, 33) := ⟨⟨by decide +kernel, by decide +kernel⟩, List.mem_of_getElem? (i := 715) (by decide +kernel), List.mem_of_getElem? (i := 1064) (by decide +kernel), List.mem_of_getElem? (i := 1065) (by decide +kernel)⟩
theorem lw_p34 : lw_okq (⟨"CarriedHomeModel", "bearIn", "(I)I"⟩, 33) := ⟨⟨by decide +kernel, by decide +kernel⟩, List.mem_of_getElem? (i := 715) (by decide +kernel), List.mem_of_getElem? (i := 1068) (by decide +kernel), List.mem_of_getElem? (i := 1069) (by decide +kernel)⟩
theorem lw_p35 : lw_okq (⟨"CarriedHomeModel", "owing", "()I"⟩, 33) := ⟨⟨by decide +kernel, by decide +kernel⟩, List.mem_of_getElem? (i := 715) (by decide +kernel), List.mem_of_getElem? (i := 1072) (by decide +kernel), List.mem_of_getElem? (i := 1073) (by decide +kernel)⟩
theorem lw_p36 : lw_okq (⟨"CarriedHomeModel", "allBear", "()I"⟩, 33) := ⟨⟨by decide +kernel, by decide +kernel⟩, List.mem_of_getElem? (i := 715) (by decide +kernel), List.mem_of_getElem? (i := 1076) (by decide +kernel), List.mem_of_getElem? (i := 1077) (by decide +kernel)⟩
theorem lw_p37 : lw_okq (⟨"CarriedHomeModel", "isRow", "(I)Z"⟩, 33) := ⟨⟨by decide +kernel, by decide +kernel⟩, List.mem_of_getElem? (i := 715) (by decide +kernel), List.mem_of_getElem? (i := 1085) (by decide +kernel), List.mem_of_getElem? (i := 1086) (by decide +kernel)⟩
theorem lw_p38 : lw_okq (⟨"CarriedHomeModel", "steepestStage", "()I"⟩, 33) := ⟨⟨by decide +kernel, by decide +kernel⟩, List.mem_of_getElem? (i := 715) (by decide +kernel), List.mem_of_getElem? (i := 1116) (by decide +kernel), List.mem_of_getElem? (i := 1117) (by decide +kernel)⟩
theorem lw_p39 : lw_okq (⟨"CarriedHomeModel", "slopesLeft", "()I"⟩, 33) := ⟨⟨by decide +kernel, by decide +kernel⟩, List.mem_of_getElem? (i := 715) (by decide +kernel), List.mem_of_getElem? (i := 1124) (by decide +kernel), List.mem_of_getElem? (i := 1125) (by decide +kernel)⟩
theorem lw_p40 : lw_okq (⟨"CarriedHomeModel", "stuckAt", "()I"⟩, 33) := ⟨⟨by decide +kernel, by decide +kernel⟩, List.mem_of_getElem? (i := 715) (by decide +kernel), List.mem_of_getElem? (i := 1136) (by decide +kernel), List.mem_of_getElem? (i := 1137) (by decide +kernel)⟩
theorem lw_p41 : lw_okq (⟨"CarriedHomeModel", "lameDays", "()I"⟩, 33) := ⟨⟨by decide +kernel, by decide +kernel⟩, List.mem_of_getElem? (i := 715) (by decide +kernel), List.mem_of_getElem? (i := 1140) (by decide +kernel), List.mem_of_getElem? (i := 1141) (by decide +kernel)⟩
theorem lw_p42 : lw_okq (⟨"CarriedHomeModel", "drawBelow", "(I)I"⟩, 33) := ⟨⟨by decide +kernel, by decide +kernel⟩, List.mem_of_getElem? (i := 715) (by decide +kernel), List.mem_of_getElem? (i := 1168) (by decide +kernel), List.mem_of_getElem? (i := 1169) (by decide +kernel)⟩
def lw_privs_3 : List (MethodName × Nat) := [(⟨"CarriedHomeModel", "pairsNow", "()I"⟩, 33), (⟨"CarriedHomeModel", "leastPoles", "()I"⟩, 33), (⟨"CarriedHomeModel", "bearIn", "(I)I"⟩, 33), (⟨"CarriedHomeModel", "owing", "()I"⟩, 33), (⟨"CarriedHomeModel", "allBear", "()I"⟩, 33), (⟨"CarriedHomeModel", "isRow", "(I)Z"⟩, 33), (⟨"CarriedHomeModel", "steepestStage", "()I"⟩, 33), (⟨"CarriedHomeModel", "slopesLeft", "()I"⟩, 33), (⟨"CarriedHomeModel", "stuckAt", "()I"⟩, 33), (⟨"CarriedHomeModel", "lameDays", "()I"⟩, 33), (⟨"CarriedHomeModel", "drawBelow", "(I)I"⟩, 33)]
theorem lw_r3 : ∀ q ∈ lw_privs_3, lw_okq q := List.forall_mem_cons.mpr ⟨lw_p32, List.forall_mem_cons.mpr ⟨lw_p33, List.forall_mem_cons.mpr ⟨lw_p34, List.forall_mem_cons.mpr ⟨lw_p35, List.forall_mem_cons.mpr ⟨lw_p36, List.forall_mem_cons.mpr ⟨lw_p37, List.forall_mem_cons.mpr ⟨lw_p38, List.forall_mem_cons.mpr ⟨lw_p39, List.forall_mem_cons.mpr ⟨lw_p40, List.forall_mem_cons.mpr ⟨lw_p41, List.forall_mem_cons.mpr ⟨lw_p42, fun _ h => absurd h List.not_mem_nil⟩⟩⟩⟩⟩⟩⟩⟩⟩⟩⟩
def lw_privs : List (MethodName × Nat) := lw_privs_1 ++ (lw_privs_2 ++ (lw_privs_3))
def lw_tbl : List Cond := k2_sels lw_privs ++ tables_1
theorem lw_privs_ok : ∀ q ∈ lw_privs, lw_okq q := by
  show ∀ q ∈ lw_privs_1 ++ (lw_privs_2 ++ (lw_privs_3)), lw_okq q
  exact List.forall_mem_append.mpr ⟨lw_r1, List.forall_mem_append.mpr ⟨lw_r2, lw_r3⟩⟩
def RX0 : String := "CarriedHome$Chances"
def TX0 : u_T := fun k => match k with
  | 0 => ("CarriedHome$Chances", "mind", "LCarriedHome$Realm;", true)
  | _ => ("CarriedHome$Chances", "seed", "I", false)
def tyX0 : Nat → FieldType := fun k => match k with
  | 0 => .object "CarriedHome$Realm"
  | _ => .int
abbrev wsX00 : List Cond := u_ws RX0 TX0 2
theorem nmX0 : ∀ a, a < 2 → ∀ b, b < 2 → a ≠ b → (TX0 a).2.1 ≠ (TX0 b).2.1 := by decide +kernel
theorem tyX0_ok : ∀ k, k < 2 → parseFieldDescriptor (TX0 k).2.2.1 = some (tyX0 k) := by decide +kernel
def RX1 : String := "CarriedHome$Counsel"
def TX1 : u_T := fun k => match k with
  | 0 => ("CarriedHome$Counsel", "mind", "LCarriedHome$Realm;", true)
  | 1 => ("CarriedHome$Counsel", "gainOfOne", "[I", true)
  | _ => ("CarriedHome$Counsel", "gainOfOther", "[I", true)
def tyX1 : Nat → FieldType := fun k => match k with
  | 0 => .object "CarriedHome$Realm"
  | 1 => .array .int
  | _ => .array .int
abbrev wsX10 : List Cond := u_ws RX1 TX1 3
theorem nmX1 : ∀ a, a < 3 → ∀ b, b < 3 → a ≠ b → (TX1 a).2.1 ≠ (TX1 b).2.1 := by decide +kernel
theorem tyX1_ok : ∀ k, k < 3 → parseFieldDescriptor (TX1 k).2.2.1 = some (tyX1 k) := by decide +kernel
def RX2 : String := "CarriedHome$Letters"
def TX2 : u_T := fun k => match k with
  | 0 => ("CarriedHome$Letters", "letter", "[I", true)
  | _ => ("CarriedHome$Letters", "size", "I", false)
def tyX2 : Nat → FieldType := fun k => match k with
  | 0 => .array .int
  | _ => .int
abbrev wsX20 : List Cond := u_ws RX2 TX2 2
theorem nmX2 : ∀ a, a < 2 → ∀ b, b < 2 → a ≠ b → (TX2 a).2.1 ≠ (TX2 b).2.1 := by decide +kernel
theorem tyX2_ok : ∀ k, k < 2 → parseFieldDescriptor (TX2 k).2.2.1 = some (tyX2 k) := by decide +kernel
def RX3 : String := "CarriedHome$Past"
def TX3 : u_T := fun k => match k with
  | 0 => ("CarriedHome$Past", "kept", "[LCarriedHome$Realm;", true)
  | _ => ("CarriedHome$Past", "size", "I", false)
def tyX3 : Nat → FieldType := fun k => match k with
  | 0 => .array (.object "CarriedHome$Realm")
  | _ => .int
abbrev wsX30 : List Cond := u_ws RX3 TX3 2
theorem nmX3 : ∀ a, a < 2 → ∀ b, b < 2 → a ≠ b → (TX3 a).2.1 ≠ (TX3 b).2.1 := by decide +kernel
theorem tyX3_ok : ∀ k, k < 2 → parseFieldDescriptor (TX3 k).2.2.1 = some (tyX3 k) := by decide +kernel
def RX4 : String := "CarriedHome$Realm"
def TX4 : u_T := fun k => match k with
  | 0 => ("CarriedHome$Realm", "slopeAt", "[I", true)
  | 1 => ("CarriedHome$Realm", "kind", "[I", true)
  | 2 => ("CarriedHome$Realm", "figure", "[I", true)
  | 3 => ("CarriedHome$Realm", "fate", "[I", true)
  | 4 => ("CarriedHome$Realm", "worn", "[I", true)
  | 5 => ("CarriedHome$Realm", "men", "I", false)
  | 6 => ("CarriedHome$Realm", "king", "I", false)
  | 7 => ("CarriedHome$Realm", "load", "I", false)
  | 8 => ("CarriedHome$Realm", "snow", "I", false)
  | _ => ("CarriedHome$Realm", "day", "I", false)
def tyX4 : Nat → FieldType := fun k => match k with
  | 0 => .array .int
  | 1 => .array .int
  | 2 => .array .int
  | 3 => .array .int
  | 4 => .array .int
  | 5 => .int
  | 6 => .int
  | 7 => .int
  | 8 => .int
  | _ => .int
abbrev wsX40 : List Cond := u_ws RX4 TX4 10
theorem nmX4 : ∀ a, a < 10 → ∀ b, b < 10 → a ≠ b → (TX4 a).2.1 ≠ (TX4 b).2.1 := by decide +kernel
theorem tyX4_ok : ∀ k, k < 10 → parseFieldDescriptor (TX4 k).2.2.1 = some (tyX4 k) := by decide +kernel
def RX5 : String := "CarriedHome$Row"
def TX5 : u_T := fun k => match k with
  | 0 => ("CarriedHome$Row", "number", "[I", true)
  | _ => ("CarriedHome$Row", "size", "I", false)
def tyX5 : Nat → FieldType := fun k => match k with
  | 0 => .array .int
  | _ => .int
abbrev wsX50 : List Cond := u_ws RX5 TX5 2
theorem nmX5 : ∀ a, a < 2 → ∀ b, b < 2 → a ≠ b → (TX5 a).2.1 ≠ (TX5 b).2.1 := by decide +kernel
theorem tyX5_ok : ∀ k, k < 2 → parseFieldDescriptor (TX5 k).2.2.1 = some (tyX5 k) := by decide +kernel
def RX6 : String := "CarriedHome"
def TX6 : u_T := fun k => match k with
  | 0 => ("CarriedHome", "now", "LCarriedHome$Realm;", true)
  | 1 => ("CarriedHome", "mind", "LCarriedHome$Realm;", true)
  | 2 => ("CarriedHome", "image", "LCarriedHome$Realm;", true)
  | 3 => ("CarriedHome", "past", "LCarriedHome$Past;", true)
  | 4 => ("CarriedHome", "letters", "LCarriedHome$Letters;", true)
  | 5 => ("CarriedHome", "told", "LCarriedHome$Row;", true)
  | 6 => ("CarriedHome", "counsel", "LCarriedHome$Counsel;", true)
  | 7 => ("CarriedHome", "chances", "LCarriedHome$Chances;", true)
  | 8 => ("CarriedHome", "refusals", "[I", true)
  | _ => ("CarriedHome", "imageIsTaken", "Z", false)
def tyX6 : Nat → FieldType := fun k => match k with
  | 0 => .object "CarriedHome$Realm"
  | 1 => .object "CarriedHome$Realm"
  | 2 => .object "CarriedHome$Realm"
  | 3 => .object "CarriedHome$Past"
  | 4 => .object "CarriedHome$Letters"
  | 5 => .object "CarriedHome$Row"
  | 6 => .object "CarriedHome$Counsel"
  | 7 => .object "CarriedHome$Chances"
  | 8 => .array .int
  | _ => .boolean
abbrev wsX60 : List Cond := u_ws RX6 TX6 10
theorem nmX6 : ∀ a, a < 10 → ∀ b, b < 10 → a ≠ b → (TX6 a).2.1 ≠ (TX6 b).2.1 := by decide +kernel
theorem tyX6_ok : ∀ k, k < 10 → parseFieldDescriptor (TX6 k).2.2.1 = some (tyX6 k) := by decide +kernel
def RX7 : String := "CarriedHomeModel"
def TX7 : u_T := fun k => match k with
  | 0 => ("CarriedHomeModel", "slopes0", "[I", true)
  | 1 => ("CarriedHomeModel", "king", "I", false)
  | 2 => ("CarriedHomeModel", "load0", "I", false)
  | 3 => ("CarriedHomeModel", "many", "I", false)
  | 4 => ("CarriedHomeModel", "kinds", "[I", true)
  | 5 => ("CarriedHomeModel", "figures", "[I", true)
  | 6 => ("CarriedHomeModel", "state", "[I", true)
  | 7 => ("CarriedHomeModel", "worn", "[I", true)
  | 8 => ("CarriedHomeModel", "snow", "I", false)
  | 9 => ("CarriedHomeModel", "today", "I", false)
  | 10 => ("CarriedHomeModel", "thrown", "I", false)
  | 11 => ("CarriedHomeModel", "refusals", "[I", true)
  | 12 => ("CarriedHomeModel", "letters", "[I", true)
  | 13 => ("CarriedHomeModel", "letterMany", "I", false)
  | 14 => ("CarriedHomeModel", "at0", "I", false)
  | 15 => ("CarriedHomeModel", "isBad", "Z", false)
  | 16 => ("CarriedHomeModel", "statements", "I", false)
  | 17 => ("CarriedHomeModel", "placeIn", "[I", true)
  | 18 => ("CarriedHomeModel", "letterOf", "[I", true)
  | 19 => ("CarriedHomeModel", "numbers", "[I", true)
  | 20 => ("CarriedHomeModel", "kept", "[I", true)
  | 21 => ("CarriedHomeModel", "imaged", "[I", true)
  | 22 => ("CarriedHomeModel", "hasImage", "Z", false)
  | 23 => ("CarriedHomeModel", "place0", "I", false)
  | 24 => ("CarriedHomeModel", "isTaking", "Z", false)
  | 25 => ("CarriedHomeModel", "keptIn", "[I", false)
  | 26 => ("CarriedHomeModel", "turns0", "[I", true)
  | 27 => ("CarriedHomeModel", "turnOf", "[I", true)
  | 28 => ("CarriedHomeModel", "turned", "I", false)
  | 29 => ("CarriedHomeModel", "row", "[I", true)
  | 30 => ("CarriedHomeModel", "rowMany", "I", false)
  | 31 => ("CarriedHomeModel", "gains", "[I", true)
  | _ => ("CarriedHomeModel", "seed", "I", false)
def tyX7 : Nat → FieldType := fun k => match k with
  | 0 => .array .int
  | 1 => .int
  | 2 => .int
  | 3 => .int
  | 4 => .array .int
  | 5 => .array .int
  | 6 => .array .int
  | 7 => .array .int
  | 8 => .int
  | 9 => .int
  | 10 => .int
  | 11 => .array .int
  | 12 => .array .int
  | 13 => .int
  | 14 => .int
  | 15 => .boolean
  | 16 => .int
  | 17 => .array .int
  | 18 => .array .int
  | 19 => .array .int
  | 20 => .array .int
  | 21 => .array .int
  | 22 => .boolean
  | 23 => .int
  | 24 => .boolean
  | 25 => .array .int
  | 26 => .array .int
  | 27 => .array .int
  | 28 => .int
  | 29 => .array .int
  | 30 => .int
  | 31 => .array .int
  | _ => .int
abbrev wsX70 : List Cond := u_ws RX7 TX7 33
theorem nmX7 : ∀ a, a < 33 → ∀ b, b < 33 → a ≠ b → (TX7 a).2.1 ≠ (TX7 b).2.1 := by decide +kernel
theorem tyX7_ok : ∀ k, k < 33 → parseFieldDescriptor (TX7 k).2.2.1 = some (tyX7 k) := by decide +kernel
abbrev vwCl : List vw_C := [(RX0, TX0, 2), (RX1, TX1, 3), (RX2, TX2, 2), (RX3, TX3, 2), (RX4, TX4, 10), (RX5, TX5, 2), (RX6, TX6, 10), (RX7, TX7, 33)]
def cnm : Nat → String
  | 0 => RX0
  | 1 => RX1
  | 2 => RX2
  | 3 => RX3
  | 4 => RX4
  | 5 => RX5
  | 6 => RX6
  | 7 => RX7
  | 8 => "java/lang/Integer"
  | _ => "java/lang/Math"
def M_X_init : MethodName × ByteArray × Nat × Option FieldType × Nat × Nat × Nat := (⟨RX6, "<init>", "()V"⟩, prog_1_method_1_code, 1, none, 6, 3, 0)
def M_X_feed : MethodName × ByteArray × Nat × Option FieldType × Nat × Nat × Nat := (⟨RX6, "feed", "(I)I"⟩, prog_1_method_2_code, 2, some .int, 6, 1, 1)
def M_X_reign : MethodName × ByteArray × Nat × Option FieldType × Nat × Nat × Nat := (⟨RX6, "reign", "()I"⟩, prog_1_method_3_code, 4, some .int, 6, 6, 0)
def M_X_obeys : MethodName × ByteArray × Nat × Option FieldType × Nat × Nat × Nat := (⟨RX6, "obeys", "(I)Z"⟩, prog_1_method_4_code, 4, some .boolean, 6, 5, 1)
def M_X_manOf : MethodName × ByteArray × Nat × Option FieldType × Nat × Nat × Nat := (⟨RX6, "manOf", "(II)I"⟩, prog_1_method_5_code, 3, some .int, 6, 2, 2)
def M_X_slope : MethodName × ByteArray × Nat × Option FieldType × Nat × Nat × Nat := (⟨RX6, "slope", "(I)I"⟩, prog_1_method_6_code, 2, some .int, 6, 1, 1)
def M_X_man : MethodName × ByteArray × Nat × Option FieldType × Nat × Nat × Nat := (⟨RX6, "man", "(II)I"⟩, prog_1_method_7_code, 3, some .int, 6, 2, 2)
def M_X_pardons : MethodName × ByteArray × Nat × Option FieldType × Nat × Nat × Nat := (⟨RX6, "pardons", "(I)I"⟩, prog_1_method_8_code, 2, some .int, 6, 3, 1)
def M_X_slopes : MethodName × ByteArray × Nat × Option FieldType × Nat × Nat × Nat := (⟨RX6, "slopes", "(II)I"⟩, prog_1_method_9_code, 5, some .int, 6, 3, 2)
def M_X_loads : MethodName × ByteArray × Nat × Option FieldType × Nat × Nat × Nat := (⟨RX6, "loads", "(I)I"⟩, prog_1_method_10_code, 4, some .int, 6, 3, 1)
def M_X_snows : MethodName × ByteArray × Nat × Option FieldType × Nat × Nat × Nat := (⟨RX6, "snows", "(I)I"⟩, prog_1_method_11_code, 4, some .int, 6, 1, 1)
def M_X_days : MethodName × ByteArray × Nat × Option FieldType × Nat × Nat × Nat := (⟨RX6, "days", "(I)I"⟩, prog_1_method_12_code, 3, some .int, 6, 5, 1)
def M_X_back : MethodName × ByteArray × Nat × Option FieldType × Nat × Nat × Nat := (⟨RX6, "back", "()I"⟩, prog_1_method_13_code, 1, some .int, 6, 3, 0)
def M_X_then : MethodName × ByteArray × Nat × Option FieldType × Nat × Nat × Nat := (⟨RX6, "then", "(II)I"⟩, prog_1_method_14_code, 5, some .int, 6, 5, 2)
def M_X_wornIn : MethodName × ByteArray × Nat × Option FieldType × Nat × Nat × Nat := (⟨RX6, "wornIn", "(II)I"⟩, prog_1_method_15_code, 4, some .int, 6, 5, 2)
def M_X_home : MethodName × ByteArray × Nat × Option FieldType × Nat × Nat × Nat := (⟨RX6, "home", "(I)I"⟩, prog_1_method_16_code, 2, some .int, 6, 5, 1)
def M_X_dies : MethodName × ByteArray × Nat × Option FieldType × Nat × Nat × Nat := (⟨RX6, "dies", "(I)I"⟩, prog_1_method_17_code, 2, some .int, 6, 5, 1)
def M_X_mercy : MethodName × ByteArray × Nat × Option FieldType × Nat × Nat × Nat := (⟨RX6, "mercy", "(I)I"⟩, prog_1_method_18_code, 3, some .int, 6, 6, 1)
def M_X_fewest : MethodName × ByteArray × Nat × Option FieldType × Nat × Nat × Nat := (⟨RX6, "fewest", "(I)I"⟩, prog_1_method_19_code, 3, some .int, 6, 6, 1)
def M_X_crown : MethodName × ByteArray × Nat × Option FieldType × Nat × Nat × Nat := (⟨RX6, "crown", "(I)I"⟩, prog_1_method_20_code, 3, some .int, 6, 6, 1)
def M_X_dig : MethodName × ByteArray × Nat × Option FieldType × Nat × Nat × Nat := (⟨RX6, "dig", "(I)I"⟩, prog_1_method_21_code, 3, some .int, 6, 6, 1)
def M_X_keep : MethodName × ByteArray × Nat × Option FieldType × Nat × Nat × Nat := (⟨RX6, "keep", "(II)I"⟩, prog_1_method_22_code, 4, some .int, 6, 6, 2)
def M_X_pairs : MethodName × ByteArray × Nat × Option FieldType × Nat × Nat × Nat := (⟨RX6, "pairs", "(I)I"⟩, prog_1_method_23_code, 2, some .int, 6, 3, 1)
def M_X_whoBore : MethodName × ByteArray × Nat × Option FieldType × Nat × Nat × Nat := (⟨RX6, "whoBore", "()I"⟩, prog_1_method_24_code, 1, some .int, 6, 6, 0)
def M_X_whatKind : MethodName × ByteArray × Nat × Option FieldType × Nat × Nat × Nat := (⟨RX6, "whatKind", "(II)I"⟩, prog_1_method_25_code, 3, some .int, 6, 6, 2)
def M_X_two : MethodName × ByteArray × Nat × Option FieldType × Nat × Nat × Nat := (⟨RX6, "two", "(III)I"⟩, prog_1_method_26_code, 5, some .int, 6, 6, 3)
def M_X_falls : MethodName × ByteArray × Nat × Option FieldType × Nat × Nat × Nat := (⟨RX6, "falls", "(IIII)J"⟩, prog_1_method_27_code, 5, some .long, 6, 5, 4)
def M_X_shares : MethodName × ByteArray × Nat × Option FieldType × Nat × Nat × Nat := (⟨RX6, "shares", "(II)I"⟩, prog_1_method_28_code, 3, some .int, 6, 2, 2)
def M_X_strongest : MethodName × ByteArray × Nat × Option FieldType × Nat × Nat × Nat := (⟨RX6, "strongest", "(I)I"⟩, prog_1_method_29_code, 2, some .int, 6, 2, 1)
def M_X_mean : MethodName × ByteArray × Nat × Option FieldType × Nat × Nat × Nat := (⟨RX6, "mean", "(I)J"⟩, prog_1_method_30_code, 2, some .long, 6, 2, 1)
def M_X_spare : MethodName × ByteArray × Nat × Option FieldType × Nat × Nat × Nat := (⟨RX6, "spare", "(I)I"⟩, prog_1_method_31_code, 2, some .int, 6, 2, 1)
def M_X_height : MethodName × ByteArray × Nat × Option FieldType × Nat × Nat × Nat := (⟨RX6, "height", "(I)I"⟩, prog_1_method_32_code, 2, some .int, 6, 5, 1)
def M_X_eased : MethodName × ByteArray × Nat × Option FieldType × Nat × Nat × Nat := (⟨RX6, "eased", "(I)I"⟩, prog_1_method_33_code, 3, some .int, 6, 6, 1)
def M_X_shoulders : MethodName × ByteArray × Nat × Option FieldType × Nat × Nat × Nat := (⟨RX6, "shoulders", "(I)I"⟩, prog_1_method_34_code, 2, some .int, 6, 1, 1)
def M_X_row : MethodName × ByteArray × Nat × Option FieldType × Nat × Nat × Nat := (⟨RX6, "row", "(I)I"⟩, prog_1_method_35_code, 3, some .int, 6, 1, 1)
def M_X_judge : MethodName × ByteArray × Nat × Option FieldType × Nat × Nat × Nat := (⟨RX6, "judge", "()I"⟩, prog_1_method_36_code, 3, some .int, 6, 2, 0)
def M_X_clear : MethodName × ByteArray × Nat × Option FieldType × Nat × Nat × Nat := (⟨RX6, "clear", "()I"⟩, prog_1_method_37_code, 2, some .int, 6, 1, 0)
def M_X_lots : MethodName × ByteArray × Nat × Option FieldType × Nat × Nat × Nat := (⟨RX6, "lots", "(III)I"⟩, prog_1_method_38_code, 5, some .int, 6, 6, 3)
def M_X_image : MethodName × ByteArray × Nat × Option FieldType × Nat × Nat × Nat := (⟨RX6, "image", "()I"⟩, prog_1_method_39_code, 1, some .int, 6, 2, 0)
def M_X_restore : MethodName × ByteArray × Nat × Option FieldType × Nat × Nat × Nat := (⟨RX6, "restore", "()I"⟩, prog_1_method_40_code, 1, some .int, 6, 2, 0)
def M_X_count : MethodName × ByteArray × Nat × Option FieldType × Nat × Nat × Nat := (⟨RX6, "count", "(I)I"⟩, prog_1_method_41_code, 2, some .int, 6, 1, 1)
def M_X_refuse : MethodName × ByteArray × Nat × Option FieldType × Nat × Nat × Nat := (⟨RX6, "refuse", "(I)I"⟩, prog_1_method_42_code, 3, some .int, 6, 0, 1)
def M_X_outside : MethodName × ByteArray × Nat × Option FieldType × Nat × Nat × Nat := (⟨RX6, "outside", "(III)I"⟩, prog_1_method_43_code, 3, some .int, 6, 0, 3)
def M_X_isStage : MethodName × ByteArray × Nat × Option FieldType × Nat × Nat × Nat := (⟨RX6, "isStage", "(I)Z"⟩, prog_1_method_44_code, 1, some .boolean, 6, 0, 1)
def M_X_isKind : MethodName × ByteArray × Nat × Option FieldType × Nat × Nat × Nat := (⟨RX6, "isKind", "(I)Z"⟩, prog_1_method_45_code, 1, some .boolean, 6, 0, 1)
def M_X_isOneOfTwo : MethodName × ByteArray × Nat × Option FieldType × Nat × Nat × Nat := (⟨RX6, "isOneOfTwo", "(I)Z"⟩, prog_1_method_46_code, 1, some .boolean, 6, 0, 1)
def M_X_power : MethodName × ByteArray × Nat × Option FieldType × Nat × Nat × Nat := (⟨RX6, "power", "(JI)J"⟩, prog_1_method_47_code, 6, some .long, 6, 0, 2)
def M_X_inLowestTerms : MethodName × ByteArray × Nat × Option FieldType × Nat × Nat × Nat := (⟨RX6, "inLowestTerms", "(JJI)J"⟩, prog_1_method_48_code, 7, some .long, 6, 1, 3)
def M_X_commonDivisor : MethodName × ByteArray × Nat × Option FieldType × Nat × Nat × Nat := (⟨RX6, "commonDivisor", "(JJ)J"⟩, prog_1_method_49_code, 11, some .long, 6, 0, 2)
def M_M_init : MethodName × ByteArray × Nat × Option FieldType × Nat × Nat × Nat := (⟨RX7, "<init>", "()V"⟩, prog_9_method_1_code, 2, none, 7, 1, 0)
def M_M_in : MethodName × ByteArray × Nat × Option FieldType × Nat × Nat × Nat := (⟨RX7, "in", "(JJJ)Z"⟩, prog_9_method_3_code, 6, some .boolean, 7, 0, 3)
def M_M_refuse : MethodName × ByteArray × Nat × Option FieldType × Nat × Nat × Nat := (⟨RX7, "refuse", "(I)I"⟩, prog_9_method_4_code, 2, some .int, 7, 0, 1)
def M_M_isMan : MethodName × ByteArray × Nat × Option FieldType × Nat × Nat × Nat := (⟨RX7, "isMan", "(I)Z"⟩, prog_9_method_5_code, 2, some .boolean, 7, 1, 1)
def M_M_wrongNumber : MethodName × ByteArray × Nat × Option FieldType × Nat × Nat × Nat := (⟨RX7, "wrongNumber", "(III)I"⟩, prog_9_method_6_code, 3, some .int, 7, 0, 3)
def M_M_wrongBit : MethodName × ByteArray × Nat × Option FieldType × Nat × Nat × Nat := (⟨RX7, "wrongBit", "(III)I"⟩, prog_9_method_7_code, 3, some .int, 7, 1, 3)
def M_M_hasBit : MethodName × ByteArray × Nat × Option FieldType × Nat × Nat × Nat := (⟨RX7, "hasBit", "(II)Z"⟩, prog_9_method_8_code, 2, some .boolean, 7, 0, 2)
def M_M_onesOf : MethodName × ByteArray × Nat × Option FieldType × Nat × Nat × Nat := (⟨RX7, "onesOf", "(I)I"⟩, prog_9_method_9_code, 3, some .int, 7, 0, 1)
def M_M_held : MethodName × ByteArray × Nat × Option FieldType × Nat × Nat × Nat := (⟨RX7, "held", "(II)I"⟩, prog_9_method_10_code, 2, some .int, 7, 0, 2)
def M_M_bearsOf : MethodName × ByteArray × Nat × Option FieldType × Nat × Nat × Nat := (⟨RX7, "bearsOf", "(I)I"⟩, prog_9_method_11_code, 4, some .int, 7, 0, 1)
def M_M_lastsOf : MethodName × ByteArray × Nat × Option FieldType × Nat × Nat × Nat := (⟨RX7, "lastsOf", "(I)I"⟩, prog_9_method_12_code, 2, some .int, 7, 0, 1)
def M_M_isFeuding : MethodName × ByteArray × Nat × Option FieldType × Nat × Nat × Nat := (⟨RX7, "isFeuding", "(I)Z"⟩, prog_9_method_13_code, 2, some .boolean, 7, 0, 1)
def M_M_feudingIn : MethodName × ByteArray × Nat × Option FieldType × Nat × Nat × Nat := (⟨RX7, "feudingIn", "(I)I"⟩, prog_9_method_14_code, 4, some .int, 7, 1, 1)
def M_M_wearsOf : MethodName × ByteArray × Nat × Option FieldType × Nat × Nat × Nat := (⟨RX7, "wearsOf", "(III)I"⟩, prog_9_method_15_code, 4, some .int, 7, 2, 3)
def M_M_neededHere : MethodName × ByteArray × Nat × Option FieldType × Nat × Nat × Nat := (⟨RX7, "neededHere", "()I"⟩, prog_9_method_16_code, 1, some .int, 7, 0, 0)
def M_M_strongestBut : MethodName × ByteArray × Nat × Option FieldType × Nat × Nat × Nat := (⟨RX7, "strongestBut", "(I)I"⟩, prog_9_method_17_code, 5, some .int, 7, 1, 1)
def M_M_bearersNow : MethodName × ByteArray × Nat × Option FieldType × Nat × Nat × Nat := (⟨RX7, "bearersNow", "()I"⟩, prog_9_method_18_code, 4, some .int, 7, 2, 0)
def M_M_dayOn : MethodName × ByteArray × Nat × Option FieldType × Nat × Nat × Nat := (⟨RX7, "dayOn", "()V"⟩, prog_9_method_19_code, 4, none, 7, 3, 0)
def M_M_goDays : MethodName × ByteArray × Nat × Option FieldType × Nat × Nat × Nat := (⟨RX7, "goDays", "(I)V"⟩, prog_9_method_20_code, 3, none, 7, 4, 1)
def M_M_bitsOf : MethodName × ByteArray × Nat × Option FieldType × Nat × Nat × Nat := (⟨RX7, "bitsOf", "(I)I"⟩, prog_9_method_21_code, 4, some .int, 7, 0, 1)
def M_M_allBear : MethodName × ByteArray × Nat × Option FieldType × Nat × Nat × Nat := (⟨RX7, "allBear", "()I"⟩, prog_9_method_22_code, 3, some .int, 7, 1, 0)
def M_M_manComes : MethodName × ByteArray × Nat × Option FieldType × Nat × Nat × Nat := (⟨RX7, "manComes", "(II)Z"⟩, prog_9_method_23_code, 4, some .boolean, 7, 0, 2)
def M_M_feed : MethodName × ByteArray × Nat × Option FieldType × Nat × Nat × Nat := (⟨RX7, "feed", "(I)I"⟩, prog_9_method_24_code, 2, some .int, 7, 1, 1)
def M_M_here : MethodName × ByteArray × Nat × Option FieldType × Nat × Nat × Nat := (⟨RX7, "here", "()I"⟩, prog_9_method_25_code, 1, some .int, 7, 0, 0)
def M_M_readDigits : MethodName × ByteArray × Nat × Option FieldType × Nat × Nat × Nat := (⟨RX7, "readDigits", "(I)I"⟩, prog_9_method_26_code, 4, some .int, 7, 1, 1)
def M_M_isLetter : MethodName × ByteArray × Nat × Option FieldType × Nat × Nat × Nat := (⟨RX7, "isLetter", "(I)Z"⟩, prog_9_method_27_code, 1, some .boolean, 7, 0, 1)
def M_M_readNumbers : MethodName × ByteArray × Nat × Option FieldType × Nat × Nat × Nat := (⟨RX7, "readNumbers", "(II)V"⟩, prog_9_method_28_code, 3, none, 7, 2, 2)
def M_M_readStatement : MethodName × ByteArray × Nat × Option FieldType × Nat × Nat × Nat := (⟨RX7, "readStatement", "()V"⟩, prog_9_method_29_code, 3, none, 7, 3, 0)
def M_M_pardonTold : MethodName × ByteArray × Nat × Option FieldType × Nat × Nat × Nat := (⟨RX7, "pardonTold", "(I)Z"⟩, prog_9_method_30_code, 3, some .boolean, 7, 2, 1)
def M_M_daysTold : MethodName × ByteArray × Nat × Option FieldType × Nat × Nat × Nat := (⟨RX7, "daysTold", "(I)Z"⟩, prog_9_method_31_code, 3, some .boolean, 7, 5, 1)
def M_M_comesTold : MethodName × ByteArray × Nat × Option FieldType × Nat × Nat × Nat := (⟨RX7, "comesTold", "(I)Z"⟩, prog_9_method_32_code, 5, some .boolean, 7, 6, 1)
def M_M_reign : MethodName × ByteArray × Nat × Option FieldType × Nat × Nat × Nat := (⟨RX7, "reign", "()I"⟩, prog_9_method_33_code, 2, some .int, 7, 7, 0)
def M_M_carry : MethodName × ByteArray × Nat × Option FieldType × Nat × Nat × Nat := (⟨RX7, "carry", "(I)I"⟩, prog_9_method_34_code, 2, some .int, 7, 0, 1)
def M_M_carryAll : MethodName × ByteArray × Nat × Option FieldType × Nat × Nat × Nat := (⟨RX7, "carryAll", "([IZ)V"⟩, prog_9_method_35_code, 4, none, 7, 1, 2)
def M_M_think : MethodName × ByteArray × Nat × Option FieldType × Nat × Nat × Nat := (⟨RX7, "think", "()V"⟩, prog_9_method_36_code, 1, none, 7, 2, 0)
def M_M_again : MethodName × ByteArray × Nat × Option FieldType × Nat × Nat × Nat := (⟨RX7, "again", "()V"⟩, prog_9_method_37_code, 1, none, 7, 2, 0)
def M_M_image : MethodName × ByteArray × Nat × Option FieldType × Nat × Nat × Nat := (⟨RX7, "image", "()I"⟩, prog_9_method_38_code, 1, some .int, 7, 2, 0)
def M_M_restore : MethodName × ByteArray × Nat × Option FieldType × Nat × Nat × Nat := (⟨RX7, "restore", "()I"⟩, prog_9_method_39_code, 1, some .int, 7, 2, 0)
def M_M_keepTurn : MethodName × ByteArray × Nat × Option FieldType × Nat × Nat × Nat := (⟨RX7, "keepTurn", "()V"⟩, prog_9_method_40_code, 2, none, 7, 2, 0)
def M_M_back : MethodName × ByteArray × Nat × Option FieldType × Nat × Nat × Nat := (⟨RX7, "back", "()I"⟩, prog_9_method_41_code, 2, some .int, 7, 2, 0)
def M_M_manOf : MethodName × ByteArray × Nat × Option FieldType × Nat × Nat × Nat := (⟨RX7, "manOf", "(II)I"⟩, prog_9_method_42_code, 3, some .int, 7, 2, 2)
def M_M_slope : MethodName × ByteArray × Nat × Option FieldType × Nat × Nat × Nat := (⟨RX7, "slope", "(I)I"⟩, prog_9_method_43_code, 2, some .int, 7, 1, 1)
def M_M_man : MethodName × ByteArray × Nat × Option FieldType × Nat × Nat × Nat := (⟨RX7, "man", "(II)I"⟩, prog_9_method_44_code, 4, some .int, 7, 1, 2)
def M_M_pardons : MethodName × ByteArray × Nat × Option FieldType × Nat × Nat × Nat := (⟨RX7, "pardons", "(I)I"⟩, prog_9_method_45_code, 2, some .int, 7, 3, 1)
def M_M_slopes : MethodName × ByteArray × Nat × Option FieldType × Nat × Nat × Nat := (⟨RX7, "slopes", "(II)I"⟩, prog_9_method_46_code, 5, some .int, 7, 3, 2)
def M_M_loads : MethodName × ByteArray × Nat × Option FieldType × Nat × Nat × Nat := (⟨RX7, "loads", "(I)I"⟩, prog_9_method_47_code, 4, some .int, 7, 3, 1)
def M_M_snows : MethodName × ByteArray × Nat × Option FieldType × Nat × Nat × Nat := (⟨RX7, "snows", "(I)I"⟩, prog_9_method_48_code, 4, some .int, 7, 1, 1)
def M_M_days : MethodName × ByteArray × Nat × Option FieldType × Nat × Nat × Nat := (⟨RX7, "days", "(I)I"⟩, prog_9_method_49_code, 3, some .int, 7, 5, 1)
def M_M_waitsIn : MethodName × ByteArray × Nat × Option FieldType × Nat × Nat × Nat := (⟨RX7, "waitsIn", "(I)I"⟩, prog_9_method_50_code, 5, some .int, 7, 4, 1)
def M_M_then : MethodName × ByteArray × Nat × Option FieldType × Nat × Nat × Nat := (⟨RX7, "then", "(II)I"⟩, prog_9_method_51_code, 6, some .int, 7, 5, 2)
def M_M_wornIn : MethodName × ByteArray × Nat × Option FieldType × Nat × Nat × Nat := (⟨RX7, "wornIn", "(II)I"⟩, prog_9_method_52_code, 5, some .int, 7, 5, 2)
def M_M_homeIn : MethodName × ByteArray × Nat × Option FieldType × Nat × Nat × Nat := (⟨RX7, "homeIn", "()I"⟩, prog_9_method_53_code, 3, some .int, 7, 4, 0)
def M_M_home : MethodName × ByteArray × Nat × Option FieldType × Nat × Nat × Nat := (⟨RX7, "home", "(I)I"⟩, prog_9_method_54_code, 2, some .int, 7, 5, 1)
def M_M_diesIn : MethodName × ByteArray × Nat × Option FieldType × Nat × Nat × Nat := (⟨RX7, "diesIn", "(I)I"⟩, prog_9_method_55_code, 4, some .int, 7, 4, 1)
def M_M_dies : MethodName × ByteArray × Nat × Option FieldType × Nat × Nat × Nat := (⟨RX7, "dies", "(I)I"⟩, prog_9_method_56_code, 6, some .int, 7, 5, 1)
def M_M_kingThen : MethodName × ByteArray × Nat × Option FieldType × Nat × Nat × Nat := (⟨RX7, "kingThen", "(I)I"⟩, prog_9_method_57_code, 3, some .int, 7, 5, 1)
def M_M_mercy : MethodName × ByteArray × Nat × Option FieldType × Nat × Nat × Nat := (⟨RX7, "mercy", "(I)I"⟩, prog_9_method_58_code, 7, some .int, 7, 6, 1)
def M_M_fewest : MethodName × ByteArray × Nat × Option FieldType × Nat × Nat × Nat := (⟨RX7, "fewest", "(I)I"⟩, prog_9_method_59_code, 7, some .int, 7, 6, 1)
def M_M_crown : MethodName × ByteArray × Nat × Option FieldType × Nat × Nat × Nat := (⟨RX7, "crown", "(I)I"⟩, prog_9_method_60_code, 5, some .int, 7, 6, 1)
def M_M_dig : MethodName × ByteArray × Nat × Option FieldType × Nat × Nat × Nat := (⟨RX7, "dig", "(I)I"⟩, prog_9_method_61_code, 7, some .int, 7, 6, 1)
def M_M_keep : MethodName × ByteArray × Nat × Option FieldType × Nat × Nat × Nat := (⟨RX7, "keep", "(II)I"⟩, prog_9_method_62_code, 8, some .int, 7, 6, 2)
def M_M_pairsNow : MethodName × ByteArray × Nat × Option FieldType × Nat × Nat × Nat := (⟨RX7, "pairsNow", "()I"⟩, prog_9_method_63_code, 6, some .int, 7, 1, 0)
def M_M_bearIn : MethodName × ByteArray × Nat × Option FieldType × Nat × Nat × Nat := (⟨RX7, "bearIn", "(I)I"⟩, prog_9_method_64_code, 4, some .int, 7, 1, 1)
def M_M_leastPoles : MethodName × ByteArray × Nat × Option FieldType × Nat × Nat × Nat := (⟨RX7, "leastPoles", "()I"⟩, prog_9_method_65_code, 4, some .int, 7, 2, 0)
def M_M_owing : MethodName × ByteArray × Nat × Option FieldType × Nat × Nat × Nat := (⟨RX7, "owing", "()I"⟩, prog_9_method_66_code, 3, some .int, 7, 0, 0)
def M_M_pairs : MethodName × ByteArray × Nat × Option FieldType × Nat × Nat × Nat := (⟨RX7, "pairs", "(I)I"⟩, prog_9_method_67_code, 2, some .int, 7, 3, 1)
def M_M_isRow : MethodName × ByteArray × Nat × Option FieldType × Nat × Nat × Nat := (⟨RX7, "isRow", "(I)Z"⟩, prog_9_method_68_code, 4, some .boolean, 7, 4, 1)
def M_M_whoBore : MethodName × ByteArray × Nat × Option FieldType × Nat × Nat × Nat := (⟨RX7, "whoBore", "()I"⟩, prog_9_method_69_code, 3, some .int, 7, 5, 0)
def M_M_whatKind : MethodName × ByteArray × Nat × Option FieldType × Nat × Nat × Nat := (⟨RX7, "whatKind", "(II)I"⟩, prog_9_method_70_code, 6, some .int, 7, 5, 2)
def M_M_two : MethodName × ByteArray × Nat × Option FieldType × Nat × Nat × Nat := (⟨RX7, "two", "(III)I"⟩, prog_9_method_71_code, 8, some .int, 7, 5, 3)
def M_M_divisor : MethodName × ByteArray × Nat × Option FieldType × Nat × Nat × Nat := (⟨RX7, "divisor", "(JJ)J"⟩, prog_9_method_72_code, 10, some .long, 7, 0, 2)
def M_M_partOf : MethodName × ByteArray × Nat × Option FieldType × Nat × Nat × Nat := (⟨RX7, "partOf", "(JJI)J"⟩, prog_9_method_73_code, 7, some .long, 7, 1, 3)
def M_M_falls : MethodName × ByteArray × Nat × Option FieldType × Nat × Nat × Nat := (⟨RX7, "falls", "(IIII)J"⟩, prog_9_method_74_code, 14, some .long, 7, 4, 4)
def M_M_shares : MethodName × ByteArray × Nat × Option FieldType × Nat × Nat × Nat := (⟨RX7, "shares", "(II)I"⟩, prog_9_method_75_code, 4, some .int, 7, 2, 2)
def M_M_steepestStage : MethodName × ByteArray × Nat × Option FieldType × Nat × Nat × Nat := (⟨RX7, "steepestStage", "()I"⟩, prog_9_method_76_code, 3, some .int, 7, 0, 0)
def M_M_strongest : MethodName × ByteArray × Nat × Option FieldType × Nat × Nat × Nat := (⟨RX7, "strongest", "(I)I"⟩, prog_9_method_77_code, 2, some .int, 7, 2, 1)
def M_M_slopesLeft : MethodName × ByteArray × Nat × Option FieldType × Nat × Nat × Nat := (⟨RX7, "slopesLeft", "()I"⟩, prog_9_method_78_code, 3, some .int, 7, 0, 0)
def M_M_mean : MethodName × ByteArray × Nat × Option FieldType × Nat × Nat × Nat := (⟨RX7, "mean", "(I)J"⟩, prog_9_method_79_code, 2, some .long, 7, 2, 1)
def M_M_spare : MethodName × ByteArray × Nat × Option FieldType × Nat × Nat × Nat := (⟨RX7, "spare", "(I)I"⟩, prog_9_method_80_code, 2, some .int, 7, 2, 1)
def M_M_stuckAt : MethodName × ByteArray × Nat × Option FieldType × Nat × Nat × Nat := (⟨RX7, "stuckAt", "()I"⟩, prog_9_method_81_code, 3, some .int, 7, 2, 0)
def M_M_lameDays : MethodName × ByteArray × Nat × Option FieldType × Nat × Nat × Nat := (⟨RX7, "lameDays", "()I"⟩, prog_9_method_82_code, 5, some .int, 7, 4, 0)
def M_M_height : MethodName × ByteArray × Nat × Option FieldType × Nat × Nat × Nat := (⟨RX7, "height", "(I)I"⟩, prog_9_method_83_code, 2, some .int, 7, 5, 1)
def M_M_eased : MethodName × ByteArray × Nat × Option FieldType × Nat × Nat × Nat := (⟨RX7, "eased", "(I)I"⟩, prog_9_method_84_code, 4, some .int, 7, 6, 1)
def M_M_shoulders : MethodName × ByteArray × Nat × Option FieldType × Nat × Nat × Nat := (⟨RX7, "shoulders", "(I)I"⟩, prog_9_method_85_code, 4, some .int, 7, 1, 1)
def M_M_row : MethodName × ByteArray × Nat × Option FieldType × Nat × Nat × Nat := (⟨RX7, "row", "(I)I"⟩, prog_9_method_86_code, 2, some .int, 7, 1, 1)
def M_M_judge : MethodName × ByteArray × Nat × Option FieldType × Nat × Nat × Nat := (⟨RX7, "judge", "()I"⟩, prog_9_method_87_code, 3, some .int, 7, 0, 0)
def M_M_clear : MethodName × ByteArray × Nat × Option FieldType × Nat × Nat × Nat := (⟨RX7, "clear", "()I"⟩, prog_9_method_88_code, 2, some .int, 7, 0, 0)
def M_M_drawBelow : MethodName × ByteArray × Nat × Option FieldType × Nat × Nat × Nat := (⟨RX7, "drawBelow", "(I)I"⟩, prog_9_method_89_code, 2, some .int, 7, 0, 1)
def M_M_lots : MethodName × ByteArray × Nat × Option FieldType × Nat × Nat × Nat := (⟨RX7, "lots", "(III)I"⟩, prog_9_method_90_code, 9, some .int, 7, 5, 3)
def M_M_count : MethodName × ByteArray × Nat × Option FieldType × Nat × Nat × Nat := (⟨RX7, "count", "(I)I"⟩, prog_9_method_91_code, 2, some .int, 7, 1, 1)
def M_Ch_init : MethodName × ByteArray × Nat × Option FieldType × Nat × Nat × Nat := (⟨RX0, "<init>", "()V"⟩, prog_2_method_1_code, 1, none, 0, 2, 0)
def M_Ch_waysToBeAt : MethodName × ByteArray × Nat × Option FieldType × Nat × Nat × Nat := (⟨RX0, "waysToBeAt", "(LCarriedHome$Realm;III)J"⟩, prog_2_method_2_code, 9, some .long, 0, 4, 4)
def M_Ch_reignsByLot : MethodName × ByteArray × Nat × Option FieldType × Nat × Nat × Nat := (⟨RX0, "reignsByLot", "(LCarriedHome$Realm;IIZ)I"⟩, prog_2_method_3_code, 9, some .int, 0, 5, 4)
def M_Ch_drawDigit : MethodName × ByteArray × Nat × Option FieldType × Nat × Nat × Nat := (⟨RX0, "drawDigit", "()I"⟩, prog_2_method_4_code, 1, some .int, 0, 0, 0)
def M_Co_init : MethodName × ByteArray × Nat × Option FieldType × Nat × Nat × Nat := (⟨RX1, "<init>", "()V"⟩, prog_3_method_1_code, 1, none, 1, 2, 0)
def M_Co_daysToHome : MethodName × ByteArray × Nat × Option FieldType × Nat × Nat × Nat := (⟨RX1, "daysToHome", "(LCarriedHome$Realm;)I"⟩, prog_3_method_2_code, 3, some .int, 1, 4, 1)
def M_Co_daysToDeath : MethodName × ByteArray × Nat × Option FieldType × Nat × Nat × Nat := (⟨RX1, "daysToDeath", "(LCarriedHome$Realm;I)I"⟩, prog_3_method_3_code, 4, some .int, 1, 4, 2)
def M_Co_firstToDie : MethodName × ByteArray × Nat × Option FieldType × Nat × Nat × Nat := (⟨RX1, "firstToDie", "(LCarriedHome$Realm;)I"⟩, prog_3_method_4_code, 4, some .int, 1, 4, 1)
def M_Co_whomToPardon : MethodName × ByteArray × Nat × Option FieldType × Nat × Nat × Nat := (⟨RX1, "whomToPardon", "(LCarriedHome$Realm;I)I"⟩, prog_3_method_5_code, 6, some .int, 1, 5, 2)
def M_Co_fewestToPardon : MethodName × ByteArray × Nat × Option FieldType × Nat × Nat × Nat := (⟨RX1, "fewestToPardon", "(LCarriedHome$Realm;I)I"⟩, prog_3_method_6_code, 6, some .int, 1, 5, 2)
def M_Co_pardonInMind : MethodName × ByteArray × Nat × Option FieldType × Nat × Nat × Nat := (⟨RX1, "pardonInMind", "(I)V"⟩, prog_3_method_7_code, 3, none, 1, 2, 1)
def M_Co_greatestLoad : MethodName × ByteArray × Nat × Option FieldType × Nat × Nat × Nat := (⟨RX1, "greatestLoad", "(LCarriedHome$Realm;I)I"⟩, prog_3_method_8_code, 4, some .int, 1, 5, 2)
def M_Co_whereToDig : MethodName × ByteArray × Nat × Option FieldType × Nat × Nat × Nat := (⟨RX1, "whereToDig", "(LCarriedHome$Realm;I)I"⟩, prog_3_method_9_code, 6, some .int, 1, 5, 2)
def M_Co_cheapestToCondemn : MethodName × ByteArray × Nat × Option FieldType × Nat × Nat × Nat := (⟨RX1, "cheapestToCondemn", "(LCarriedHome$Realm;IZ)I"⟩, prog_3_method_10_code, 7, some .int, 1, 5, 3)
def M_Co_fewestPoles : MethodName × ByteArray × Nat × Option FieldType × Nat × Nat × Nat := (⟨RX1, "fewestPoles", "(LCarriedHome$Realm;)I"⟩, prog_3_method_11_code, 5, some .int, 1, 2, 1)
def M_Co_whoFits : MethodName × ByteArray × Nat × Option FieldType × Nat × Nat × Nat := (⟨RX1, "whoFits", "(LCarriedHome$Realm;LCarriedHome$Row;)I"⟩, prog_3_method_12_code, 5, some .int, 1, 5, 2)
def M_Co_kingGoesAs : MethodName × ByteArray × Nat × Option FieldType × Nat × Nat × Nat := (⟨RX1, "kingGoesAs", "(LCarriedHome$Row;)Z"⟩, prog_3_method_13_code, 3, some .boolean, 1, 4, 1)
def M_Co_kindsThatFit : MethodName × ByteArray × Nat × Option FieldType × Nat × Nat × Nat := (⟨RX1, "kindsThatFit", "(LCarriedHome$Realm;LCarriedHome$Row;I)I"⟩, prog_3_method_14_code, 6, some .int, 1, 5, 3)
def M_Co_figuresThatFit : MethodName × ByteArray × Nat × Option FieldType × Nat × Nat × Nat := (⟨RX1, "figuresThatFit", "(LCarriedHome$Realm;LCarriedHome$Row;I)I"⟩, prog_3_method_15_code, 6, some .int, 1, 5, 3)
def M_Co_isWornAs : MethodName × ByteArray × Nat × Option FieldType × Nat × Nat × Nat := (⟨RX1, "isWornAs", "(LCarriedHome$Row;I)Z"⟩, prog_3_method_16_code, 4, some .boolean, 1, 4, 2)
def M_Co_choiceOfTwo : MethodName × ByteArray × Nat × Option FieldType × Nat × Nat × Nat := (⟨RX1, "choiceOfTwo", "(LCarriedHome$Realm;III)I"⟩, prog_3_method_17_code, 7, some .int, 1, 5, 4)
def M_Co_longestWait : MethodName × ByteArray × Nat × Option FieldType × Nat × Nat × Nat := (⟨RX1, "longestWait", "(LCarriedHome$Realm;)I"⟩, prog_3_method_18_code, 5, some .int, 1, 4, 1)
def M_Co_gainWithoutSnow : MethodName × ByteArray × Nat × Option FieldType × Nat × Nat × Nat := (⟨RX1, "gainWithoutSnow", "(LCarriedHome$Realm;I)I"⟩, prog_3_method_19_code, 4, some .int, 1, 5, 2)
def M_Le_init : MethodName × ByteArray × Nat × Option FieldType × Nat × Nat × Nat := (⟨RX2, "<init>", "()V"⟩, prog_4_method_1_code, 1, none, 2, 1, 0)
def M_Le_isFull : MethodName × ByteArray × Nat × Option FieldType × Nat × Nat × Nat := (⟨RX2, "isFull", "()Z"⟩, prog_4_method_2_code, 1, some .boolean, 2, 0, 0)
def M_Le_add : MethodName × ByteArray × Nat × Option FieldType × Nat × Nat × Nat := (⟨RX2, "add", "(I)V"⟩, prog_4_method_3_code, 2, none, 2, 0, 1)
def M_Le_forget : MethodName × ByteArray × Nat × Option FieldType × Nat × Nat × Nat := (⟨RX2, "forget", "()V"⟩, prog_4_method_4_code, 1, none, 2, 0, 0)
def M_Le_at : MethodName × ByteArray × Nat × Option FieldType × Nat × Nat × Nat := (⟨RX2, "at", "(I)I"⟩, prog_4_method_5_code, 2, some .int, 2, 0, 1)
def M_Le_isDigit : MethodName × ByteArray × Nat × Option FieldType × Nat × Nat × Nat := (⟨RX2, "isDigit", "(I)Z"⟩, prog_4_method_6_code, 2, some .boolean, 2, 1, 1)
def M_Le_digit : MethodName × ByteArray × Nat × Option FieldType × Nat × Nat × Nat := (⟨RX2, "digit", "(I)I"⟩, prog_4_method_7_code, 2, some .int, 2, 2, 1)
def M_Le_twoDigits : MethodName × ByteArray × Nat × Option FieldType × Nat × Nat × Nat := (⟨RX2, "twoDigits", "(I)I"⟩, prog_4_method_8_code, 2, some .int, 2, 3, 1)
def M_Le_digitsBehind : MethodName × ByteArray × Nat × Option FieldType × Nat × Nat × Nat := (⟨RX2, "digitsBehind", "(I)I"⟩, prog_4_method_9_code, 1, some .int, 2, 0, 1)
def M_Le_lengthOf : MethodName × ByteArray × Nat × Option FieldType × Nat × Nat × Nat := (⟨RX2, "lengthOf", "(I)I"⟩, prog_4_method_10_code, 1, some .int, 2, 1, 1)
def M_Le_faultOfForm : MethodName × ByteArray × Nat × Option FieldType × Nat × Nat × Nat := (⟨RX2, "faultOfForm", "()I"⟩, prog_4_method_11_code, 4, some .int, 2, 2, 0)
def M_Pa_init : MethodName × ByteArray × Nat × Option FieldType × Nat × Nat × Nat := (⟨RX3, "<init>", "()V"⟩, prog_5_method_1_code, 2, none, 3, 2, 0)
def M_Pa_remember : MethodName × ByteArray × Nat × Option FieldType × Nat × Nat × Nat := (⟨RX3, "remember", "(LCarriedHome$Realm;)V"⟩, prog_5_method_2_code, 2, none, 3, 2, 1)
def M_Pa_dropOldest : MethodName × ByteArray × Nat × Option FieldType × Nat × Nat × Nat := (⟨RX3, "dropOldest", "()V"⟩, prog_5_method_3_code, 3, none, 3, 0, 0)
def M_Pa_takeBack : MethodName × ByteArray × Nat × Option FieldType × Nat × Nat × Nat := (⟨RX3, "takeBack", "(LCarriedHome$Realm;)V"⟩, prog_5_method_4_code, 2, none, 3, 2, 1)
def M_Pa_forget : MethodName × ByteArray × Nat × Option FieldType × Nat × Nat × Nat := (⟨RX3, "forget", "()V"⟩, prog_5_method_5_code, 1, none, 3, 0, 0)
def M_Re_init : MethodName × ByteArray × Nat × Option FieldType × Nat × Nat × Nat := (⟨RX4, "<init>", "()V"⟩, prog_6_method_1_code, 2, none, 4, 1, 0)
def M_Re_become : MethodName × ByteArray × Nat × Option FieldType × Nat × Nat × Nat := (⟨RX4, "become", "(LCarriedHome$Realm;)V"⟩, prog_6_method_2_code, 2, none, 4, 1, 1)
def M_Re_has : MethodName × ByteArray × Nat × Option FieldType × Nat × Nat × Nat := (⟨RX4, "has", "(I)Z"⟩, prog_6_method_3_code, 2, some .boolean, 4, 0, 1)
def M_Re_kindOf : MethodName × ByteArray × Nat × Option FieldType × Nat × Nat × Nat := (⟨RX4, "kindOf", "(I)I"⟩, prog_6_method_4_code, 2, some .int, 4, 1, 1)
def M_Re_figureOf : MethodName × ByteArray × Nat × Option FieldType × Nat × Nat × Nat := (⟨RX4, "figureOf", "(I)I"⟩, prog_6_method_5_code, 2, some .int, 4, 1, 1)
def M_Re_fateOf : MethodName × ByteArray × Nat × Option FieldType × Nat × Nat × Nat := (⟨RX4, "fateOf", "(I)I"⟩, prog_6_method_6_code, 2, some .int, 4, 1, 1)
def M_Re_wornOf : MethodName × ByteArray × Nat × Option FieldType × Nat × Nat × Nat := (⟨RX4, "wornOf", "(I)I"⟩, prog_6_method_7_code, 2, some .int, 4, 1, 1)
def M_Re_slopeOf : MethodName × ByteArray × Nat × Option FieldType × Nat × Nat × Nat := (⟨RX4, "slopeOf", "(I)I"⟩, prog_6_method_8_code, 2, some .int, 4, 0, 1)
def M_Re_makeKind : MethodName × ByteArray × Nat × Option FieldType × Nat × Nat × Nat := (⟨RX4, "makeKind", "(II)V"⟩, prog_6_method_9_code, 3, none, 4, 1, 2)
def M_Re_makeFigure : MethodName × ByteArray × Nat × Option FieldType × Nat × Nat × Nat := (⟨RX4, "makeFigure", "(II)V"⟩, prog_6_method_10_code, 3, none, 4, 1, 2)
def M_Re_makeFate : MethodName × ByteArray × Nat × Option FieldType × Nat × Nat × Nat := (⟨RX4, "makeFate", "(II)V"⟩, prog_6_method_11_code, 3, none, 4, 1, 2)
def M_Re_isHome : MethodName × ByteArray × Nat × Option FieldType × Nat × Nat × Nat := (⟨RX4, "isHome", "()Z"⟩, prog_6_method_12_code, 1, some .boolean, 4, 0, 0)
def M_Re_takesIn : MethodName × ByteArray × Nat × Option FieldType × Nat × Nat × Nat := (⟨RX4, "takesIn", "(II)Z"⟩, prog_6_method_13_code, 3, some .boolean, 4, 1, 2)
def M_Re_turns : MethodName × ByteArray × Nat × Option FieldType × Nat × Nat × Nat := (⟨RX4, "turns", "(I)Z"⟩, prog_6_method_14_code, 2, some .boolean, 4, 1, 1)
def M_Re_levels : MethodName × ByteArray × Nat × Option FieldType × Nat × Nat × Nat := (⟨RX4, "levels", "(II)Z"⟩, prog_6_method_15_code, 3, some .boolean, 4, 1, 2)
def M_Re_menWhoAre : MethodName × ByteArray × Nat × Option FieldType × Nat × Nat × Nat := (⟨RX4, "menWhoAre", "(I)I"⟩, prog_6_method_16_code, 4, some .int, 4, 0, 1)
def M_Re_bears : MethodName × ByteArray × Nat × Option FieldType × Nat × Nat × Nat := (⟨RX4, "bears", "(I)I"⟩, prog_6_method_17_code, 4, some .int, 4, 0, 1)
def M_Re_wears : MethodName × ByteArray × Nat × Option FieldType × Nat × Nat × Nat := (⟨RX4, "wears", "(II)I"⟩, prog_6_method_18_code, 4, some .int, 4, 1, 2)
def M_Re_isFeudAmong : MethodName × ByteArray × Nat × Option FieldType × Nat × Nat × Nat := (⟨RX4, "isFeudAmong", "(I)Z"⟩, prog_6_method_19_code, 3, some .boolean, 4, 0, 1)
def M_Re_lasts : MethodName × ByteArray × Nat × Option FieldType × Nat × Nat × Nat := (⟨RX4, "lasts", "(I)I"⟩, prog_6_method_20_code, 2, some .int, 4, 0, 1)
def M_Re_needed : MethodName × ByteArray × Nat × Option FieldType × Nat × Nat × Nat := (⟨RX4, "needed", "()I"⟩, prog_6_method_21_code, 1, some .int, 4, 1, 0)
def M_Re_strengthOf : MethodName × ByteArray × Nat × Option FieldType × Nat × Nat × Nat := (⟨RX4, "strengthOf", "(I)I"⟩, prog_6_method_22_code, 4, some .int, 4, 1, 1)
def M_Re_strongestBut : MethodName × ByteArray × Nat × Option FieldType × Nat × Nat × Nat := (⟨RX4, "strongestBut", "(I)I"⟩, prog_6_method_23_code, 5, some .int, 4, 1, 1)
def M_Re_bearers : MethodName × ByteArray × Nat × Option FieldType × Nat × Nat × Nat := (⟨RX4, "bearers", "()I"⟩, prog_6_method_24_code, 5, some .int, 4, 2, 0)
def M_Re_waitsOneDay : MethodName × ByteArray × Nat × Option FieldType × Nat × Nat × Nat := (⟨RX4, "waitsOneDay", "()Z"⟩, prog_6_method_25_code, 2, some .boolean, 4, 3, 0)
def M_Re_passDays : MethodName × ByteArray × Nat × Option FieldType × Nat × Nat × Nat := (⟨RX4, "passDays", "(I)I"⟩, prog_6_method_26_code, 4, some .int, 4, 4, 1)
def M_Re_wearOut : MethodName × ByteArray × Nat × Option FieldType × Nat × Nat × Nat := (⟨RX4, "wearOut", "(I)V"⟩, prog_6_method_27_code, 3, none, 4, 2, 1)
def M_Re_buryTheWornOut : MethodName × ByteArray × Nat × Option FieldType × Nat × Nat × Nat := (⟨RX4, "buryTheWornOut", "()V"⟩, prog_6_method_28_code, 2, none, 4, 1, 0)
def M_Re_snowMore : MethodName × ByteArray × Nat × Option FieldType × Nat × Nat × Nat := (⟨RX4, "snowMore", "(I)V"⟩, prog_6_method_29_code, 2, none, 4, 1, 1)
def M_Re_slopesAhead : MethodName × ByteArray × Nat × Option FieldType × Nat × Nat × Nat := (⟨RX4, "slopesAhead", "()I"⟩, prog_6_method_30_code, 3, some .int, 4, 1, 0)
def M_Re_steepest : MethodName × ByteArray × Nat × Option FieldType × Nat × Nat × Nat := (⟨RX4, "steepest", "()I"⟩, prog_6_method_31_code, 3, some .int, 4, 1, 0)
def M_Re_firstTooSteep : MethodName × ByteArray × Nat × Option FieldType × Nat × Nat × Nat := (⟨RX4, "firstTooSteep", "()I"⟩, prog_6_method_32_code, 3, some .int, 4, 2, 0)
def M_Re_twosInStep : MethodName × ByteArray × Nat × Option FieldType × Nat × Nat × Nat := (⟨RX4, "twosInStep", "()I"⟩, prog_6_method_33_code, 5, some .int, 4, 2, 0)
def M_Re_oneWhoBears : MethodName × ByteArray × Nat × Option FieldType × Nat × Nat × Nat := (⟨RX4, "oneWhoBears", "(II)I"⟩, prog_6_method_34_code, 4, some .int, 4, 1, 2)
def M_Re_howManyOwe : MethodName × ByteArray × Nat × Option FieldType × Nat × Nat × Nat := (⟨RX4, "howManyOwe", "()I"⟩, prog_6_method_35_code, 3, some .int, 4, 0, 0)
def M_Re_pardonedOfKind : MethodName × ByteArray × Nat × Option FieldType × Nat × Nat × Nat := (⟨RX4, "pardonedOfKind", "(I)I"⟩, prog_6_method_36_code, 4, some .int, 4, 0, 1)
def M_Ro_init : MethodName × ByteArray × Nat × Option FieldType × Nat × Nat × Nat := (⟨RX5, "<init>", "()V"⟩, prog_7_method_1_code, 1, none, 5, 1, 0)
def M_Ro_isFull : MethodName × ByteArray × Nat × Option FieldType × Nat × Nat × Nat := (⟨RX5, "isFull", "()Z"⟩, prog_7_method_2_code, 1, some .boolean, 5, 0, 0)
def M_Ro_add : MethodName × ByteArray × Nat × Option FieldType × Nat × Nat × Nat := (⟨RX5, "add", "(I)V"⟩, prog_7_method_3_code, 2, none, 5, 0, 1)
def M_Ro_at : MethodName × ByteArray × Nat × Option FieldType × Nat × Nat × Nat := (⟨RX5, "at", "(I)I"⟩, prog_7_method_4_code, 2, some .int, 5, 0, 1)
def M_Ro_forget : MethodName × ByteArray × Nat × Option FieldType × Nat × Nat × Nat := (⟨RX5, "forget", "()V"⟩, prog_7_method_5_code, 1, none, 5, 0, 0)
def M_In_bitCount : MethodName × ByteArray × Nat × Option FieldType × Nat × Nat × Nat := (⟨"java/lang/Integer", "bitCount", "(I)I"⟩, prog_10_method_49_code, 1, some .int, 8, 0, 1)
