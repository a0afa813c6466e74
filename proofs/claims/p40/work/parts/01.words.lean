/-! words -/
section
-- ===== PART A: goes FIRST, ahead of the names: the tables' words, and 'selects' of the private methods out of them =====
/-- a private method of a class that the tables say can be made, by its rows of tables_1 -/
def lw_okq (q : MethodName × Nat) : Prop := (q.1.cls ≠ "java/lang/invoke/MethodHandle" ∧ q.1.cls ≠ "java/lang/invoke/VarHandle") ∧ Cond.instantiable q.1.cls q.2 ∈ tables_1 ∧ Cond.privateMethod q.1 ∈ tables_1 ∧ Cond.instanceMethod q.1 ∈ tables_1
theorem lw_p0 : lw_okq (⟨"CarriedHome", "refuse", "(I)I"⟩, 10) := ⟨⟨by decide +kernel, by decide +kernel⟩, List.mem_of_getElem? (i := 13) (by decide +kernel), List.mem_of_getElem? (i := 182) (by decide +kernel), List.mem_of_getElem? (i := 183) (by decide +kernel)⟩
theorem lw_p1 : lw_okq (⟨"CarriedHome", "obeys", "(I)Z"⟩, 10) := ⟨⟨by decide +kernel, by decide +kernel⟩, List.mem_of_getElem? (i := 13) (by decide +kernel), List.mem_of_getElem? (i := 226) (by decide +kernel), List.mem_of_getElem? (i := 227) (by decide +kernel)⟩
theorem lw_p2 : lw_okq (⟨"CarriedHomeModel", "refuse", "(I)I"⟩, 33) := ⟨⟨by decide +kernel, by decide +kernel⟩, List.mem_of_getElem? (i := 715) (by decide +kernel), List.mem_of_getElem? (i := 825) (by decide +kernel), List.mem_of_getElem? (i := 826) (by decide +kernel)⟩
theorem lw_p3 : lw_okq (⟨"CarriedHomeModel", "readStatement", "()V"⟩, 33) := ⟨⟨by decide +kernel, by decide +kernel⟩, List.mem_of_getElem? (i := 715) (by decide +kernel), List.mem_of_getElem? (i := 833) (by decide +kernel), List.mem_of_getElem? (i := 834) (by decide +kernel)⟩
theorem lw_p4 : lw_okq (⟨"CarriedHomeModel", "here", "()I"⟩, 33) := ⟨⟨by decide +kernel, by decide +kernel⟩, List.mem_of_getElem? (i := 715) (by decide +kernel), List.mem_of_getElem? (i := 837) (by decide +kernel), List.mem_of_getElem? (i := 838) (by decide +kernel)⟩
theorem lw_p5 : lw_okq (⟨"CarriedHomeModel", "readNumbers", "(II)V"⟩, 33) := ⟨⟨by decide +kernel, by decide +kernel⟩, List.mem_of_getElem? (i := 715) (by decide +kernel), List.mem_of_getElem? (i := 844) (by decide +kernel), List.mem_of_getElem? (i := 845) (by decide +kernel)⟩
theorem lw_p6 : lw_okq (⟨"CarriedHomeModel", "readDigits", "(I)I"⟩, 33) := ⟨⟨by decide +kernel, by decide +kernel⟩, List.mem_of_getElem? (i := 715) (by decide +kernel), List.mem_of_getElem? (i := 848) (by decide +kernel), List.mem_of_getElem? (i := 849) (by decide +kernel)⟩
theorem lw_p7 : lw_okq (⟨"CarriedHomeModel", "think", "()V"⟩, 33) := ⟨⟨by decide +kernel, by decide +kernel⟩, List.mem_of_getElem? (i := 715) (by decide +kernel), List.mem_of_getElem? (i := 857) (by decide +kernel), List.mem_of_getElem? (i := 858) (by decide +kernel)⟩
theorem lw_p8 : lw_okq (⟨"CarriedHomeModel", "carryAll", "([IZ)V"⟩, 33) := ⟨⟨by decide +kernel, by decide +kernel⟩, List.mem_of_getElem? (i := 715) (by decide +kernel), List.mem_of_getElem? (i := 861) (by decide +kernel), List.mem_of_getElem? (i := 862) (by decide +kernel)⟩
theorem lw_p9 : lw_okq (⟨"CarriedHomeModel", "carry", "(I)I"⟩, 33) := ⟨⟨by decide +kernel, by decide +kernel⟩, List.mem_of_getElem? (i := 715) (by decide +kernel), List.mem_of_getElem? (i := 865) (by decide +kernel), List.mem_of_getElem? (i := 866) (by decide +kernel)⟩
theorem lw_p10 : lw_okq (⟨"CarriedHomeModel", "comesTold", "(I)Z"⟩, 33) := ⟨⟨by decide +kernel, by decide +kernel⟩, List.mem_of_getElem? (i := 715) (by decide +kernel), List.mem_of_getElem? (i := 869) (by decide +kernel), List.mem_of_getElem? (i := 870) (by decide +kernel)⟩
theorem lw_p11 : lw_okq (⟨"CarriedHomeModel", "manComes", "(II)Z"⟩, 33) := ⟨⟨by decide +kernel, by decide +kernel⟩, List.mem_of_getElem? (i := 715) (by decide +kernel), List.mem_of_getElem? (i := 873) (by decide +kernel), List.mem_of_getElem? (i := 874) (by decide +kernel)⟩
theorem lw_p12 : lw_okq (⟨"CarriedHomeModel", "pardonTold", "(I)Z"⟩, 33) := ⟨⟨by decide +kernel, by decide +kernel⟩, List.mem_of_getElem? (i := 715) (by decide +kernel), List.mem_of_getElem? (i := 877) (by decide +kernel), List.mem_of_getElem? (i := 878) (by decide +kernel)⟩
theorem lw_p13 : lw_okq (⟨"CarriedHomeModel", "isMan", "(I)Z"⟩, 33) := ⟨⟨by decide +kernel, by decide +kernel⟩, List.mem_of_getElem? (i := 715) (by decide +kernel), List.mem_of_getElem? (i := 881) (by decide +kernel), List.mem_of_getElem? (i := 882) (by decide +kernel)⟩
theorem lw_p14 : lw_okq (⟨"CarriedHomeModel", "daysTold", "(I)Z"⟩, 33) := ⟨⟨by decide +kernel, by decide +kernel⟩, List.mem_of_getElem? (i := 715) (by decide +kernel), List.mem_of_getElem? (i := 886) (by decide +kernel), List.mem_of_getElem? (i := 887) (by decide +kernel)⟩
theorem lw_p15 : lw_okq (⟨"CarriedHomeModel", "goDays", "(I)V"⟩, 33) := ⟨⟨by decide +kernel, by decide +kernel⟩, List.mem_of_getElem? (i := 715) (by decide +kernel), List.mem_of_getElem? (i := 890) (by decide +kernel), List.mem_of_getElem? (i := 891) (by decide +kernel)⟩
def lw_privs_1 : List (MethodName × Nat) := [(⟨"CarriedHome", "refuse", "(I)I"⟩, 10), (⟨"CarriedHome", "obeys", "(I)Z"⟩, 10), (⟨"CarriedHomeModel", "refuse", "(I)I"⟩, 33), (⟨"CarriedHomeModel", "readStatement", "()V"⟩, 33), (⟨"CarriedHomeModel", "here", "()I"⟩, 33), (⟨"CarriedHomeModel", "readNumbers", "(II)V"⟩, 33), (⟨"CarriedHomeModel", "readDigits", "(I)I"⟩, 33), (⟨"CarriedHomeModel", "think", "()V"⟩, 33), (⟨"CarriedHomeModel", "carryAll", "([IZ)V"⟩, 33), (⟨"CarriedHomeModel", "carry", "(I)I"⟩, 33), (⟨"CarriedHomeModel", "comesTold", "(I)Z"⟩, 33), (⟨"CarriedHomeModel", "manComes", "(II)Z"⟩, 33), (⟨"CarriedHomeModel", "pardonTold", "(I)Z"⟩, 33), (⟨"CarriedHomeModel", "isMan", "(I)Z"⟩, 33), (⟨"CarriedHomeModel", "daysTold", "(I)Z"⟩, 33), (⟨"CarriedHomeModel", "goDays", "(I)V"⟩, 33)]
theorem lw_r1 : ∀ q ∈ lw_privs_1, lw_okq q := List.forall_mem_cons.mpr ⟨lw_p0, List.forall_mem_cons.mpr ⟨lw_p1, List.forall_mem_cons.mpr ⟨lw_p2, List.forall_mem_cons.mpr ⟨lw_p3, List.forall_mem_cons.mpr ⟨lw_p4, List.forall_mem_cons.mpr ⟨lw_p5, List.forall_mem_cons.mpr ⟨lw_p6, List.forall_mem_cons.mpr ⟨lw_p7, List.forall_mem_cons.mpr ⟨lw_p8, List.forall_mem_cons.mpr ⟨lw_p9, List.forall_mem_cons.mpr ⟨lw_p10, List.forall_mem_cons.mpr ⟨lw_p11, List.forall_mem_cons.mpr ⟨lw_p12, List.forall_mem_cons.mpr ⟨lw_p13, List.forall_mem_cons.mpr ⟨lw_p14, List.forall_mem_cons.mpr ⟨lw_p15, fun _ h => absurd h List.not_mem_nil⟩⟩⟩⟩⟩⟩⟩⟩⟩⟩⟩⟩⟩⟩⟩⟩
theorem lw_p16 : lw_okq (⟨"CarriedHomeModel", "dayOn", "()V"⟩, 33) := ⟨⟨by decide +kernel, by decide +kernel⟩, List.mem_of_getElem? (i := 715) (by decide +kernel), List.mem_of_getElem? (i := 894) (by decide +kernel), List.mem_of_getElem? (i := 895) (by decide +kernel)⟩
theorem lw_p17 : lw_okq (⟨"CarriedHomeModel", "bearersNow", "()I"⟩, 33) := ⟨⟨by decide +kernel, by decide +kernel⟩, List.mem_of_getElem? (i := 715) (by decide +kernel), List.mem_of_getElem? (i := 898) (by decide +kernel), List.mem_of_getElem? (i := 899) (by decide +kernel)⟩
theorem lw_p18 : lw_okq (⟨"CarriedHomeModel", "strongestBut", "(I)I"⟩, 33) := ⟨⟨by decide +kernel, by decide +kernel⟩, List.mem_of_getElem? (i := 715) (by decide +kernel), List.mem_of_getElem? (i := 902) (by decide +kernel), List.mem_of_getElem? (i := 903) (by decide +kernel)⟩
theorem lw_p19 : lw_okq (⟨"CarriedHomeModel", "bearsOf", "(I)I"⟩, 33) := ⟨⟨by decide +kernel, by decide +kernel⟩, List.mem_of_getElem? (i := 715) (by decide +kernel), List.mem_of_getElem? (i := 909) (by decide +kernel), List.mem_of_getElem? (i := 910) (by decide +kernel)⟩
theorem lw_p20 : lw_okq (⟨"CarriedHomeModel", "neededHere", "()I"⟩, 33) := ⟨⟨by decide +kernel, by decide +kernel⟩, List.mem_of_getElem? (i := 715) (by decide +kernel), List.mem_of_getElem? (i := 913) (by decide +kernel), List.mem_of_getElem? (i := 914) (by decide +kernel)⟩
theorem lw_p21 : lw_okq (⟨"CarriedHomeModel", "wearsOf", "(III)I"⟩, 33) := ⟨⟨by decide +kernel, by decide +kernel⟩, List.mem_of_getElem? (i := 715) (by decide +kernel), List.mem_of_getElem? (i := 917) (by decide +kernel), List.mem_of_getElem? (i := 918) (by decide +kernel)⟩
theorem lw_p22 : lw_okq (⟨"CarriedHomeModel", "feudingIn", "(I)I"⟩, 33) := ⟨⟨by decide +kernel, by decide +kernel⟩, List.mem_of_getElem? (i := 715) (by decide +kernel), List.mem_of_getElem? (i := 921) (by decide +kernel), List.mem_of_getElem? (i := 922) (by decide +kernel)⟩
theorem lw_p23 : lw_okq (⟨"CarriedHomeModel", "isFeuding", "(I)Z"⟩, 33) := ⟨⟨by decide +kernel, by decide +kernel⟩, List.mem_of_getElem? (i := 715) (by decide +kernel), List.mem_of_getElem? (i := 925) (by decide +kernel), List.mem_of_getElem? (i := 926) (by decide +kernel)⟩
theorem lw_p24 : lw_okq (⟨"CarriedHomeModel", "lastsOf", "(I)I"⟩, 33) := ⟨⟨by decide +kernel, by decide +kernel⟩, List.mem_of_getElem? (i := 715) (by decide +kernel), List.mem_of_getElem? (i := 932) (by decide +kernel), List.mem_of_getElem? (i := 933) (by decide +kernel)⟩
theorem lw_p25 : lw_okq (⟨"CarriedHomeModel", "again", "()V"⟩, 33) := ⟨⟨by decide +kernel, by decide +kernel⟩, List.mem_of_getElem? (i := 715) (by decide +kernel), List.mem_of_getElem? (i := 936) (by decide +kernel), List.mem_of_getElem? (i := 937) (by decide +kernel)⟩
theorem lw_p26 : lw_okq (⟨"CarriedHomeModel", "keepTurn", "()V"⟩, 33) := ⟨⟨by decide +kernel, by decide +kernel⟩, List.mem_of_getElem? (i := 715) (by decide +kernel), List.mem_of_getElem? (i := 973) (by decide +kernel), List.mem_of_getElem? (i := 974) (by decide +kernel)⟩
theorem lw_p27 : lw_okq (⟨"CarriedHomeModel", "waitsIn", "(I)I"⟩, 33) := ⟨⟨by decide +kernel, by decide +kernel⟩, List.mem_of_getElem? (i := 715) (by decide +kernel), List.mem_of_getElem? (i := 1000) (by decide +kernel), List.mem_of_getElem? (i := 1001) (by decide +kernel)⟩
theorem lw_p28 : lw_okq (⟨"CarriedHomeModel", "bitsOf", "(I)I"⟩, 33) := ⟨⟨by decide +kernel, by decide +kernel⟩, List.mem_of_getElem? (i := 715) (by decide +kernel), List.mem_of_getElem? (i := 1004) (by decide +kernel), List.mem_of_getElem? (i := 1005) (by decide +kernel)⟩
theorem lw_p29 : lw_okq (⟨"CarriedHomeModel", "homeIn", "()I"⟩, 33) := ⟨⟨by decide +kernel, by decide +kernel⟩, List.mem_of_getElem? (i := 715) (by decide +kernel), List.mem_of_getElem? (i := 1016) (by decide +kernel), List.mem_of_getElem? (i := 1017) (by decide +kernel)⟩
theorem lw_p30 : lw_okq (⟨"CarriedHomeModel", "diesIn", "(I)I"⟩, 33) := ⟨⟨by decide +kernel, by decide +kernel⟩, List.mem_of_getElem? (i := 715) (by decide +kernel), List.mem_of_getElem? (i := 1025) (by decide +kernel), List.mem_of_getElem? (i := 1026) (by decide +kernel)⟩
theorem lw_p31 : lw_okq (⟨"CarriedHomeModel", "kingThen", "(I)I"⟩, 33) := ⟨⟨by decide +kernel, by decide +kernel⟩, List.mem_of_getElem? (i := 715) (by decide +kernel), List.mem_of_getElem? (i := 1033) (by decide +kernel), List.mem_of_getElem? (i := 1034) (by decide +kernel)⟩
def lw_privs_2 : List (MethodName × Nat) := [(⟨"CarriedHomeModel", "dayOn", "()V"⟩, 33), (⟨"CarriedHomeModel", "bearersNow", "()I"⟩, 33), (⟨"CarriedHomeModel", "strongestBut", "(I)I"⟩, 33), (⟨"CarriedHomeModel", "bearsOf", "(I)I"⟩, 33), (⟨"CarriedHomeModel", "neededHere", "()I"⟩, 33), (⟨"CarriedHomeModel", "wearsOf", "(III)I"⟩, 33), (⟨"CarriedHomeModel", "feudingIn", "(I)I"⟩, 33), (⟨"CarriedHomeModel", "isFeuding", "(I)Z"⟩, 33), (⟨"CarriedHomeModel", "lastsOf", "(I)I"⟩, 33), (⟨"CarriedHomeModel", "again", "()V"⟩, 33), (⟨"CarriedHomeModel", "keepTurn", "()V"⟩, 33), (⟨"CarriedHomeModel", "waitsIn", "(I)I"⟩, 33), (⟨"CarriedHomeModel", "bitsOf", "(I)I"⟩, 33), (⟨"CarriedHomeModel", "homeIn", "()I"⟩, 33), (⟨"CarriedHomeModel", "diesIn", "(I)I"⟩, 33), (⟨"CarriedHomeModel", "kingThen", "(I)I"⟩, 33)]
theorem lw_r2 : ∀ q ∈ lw_privs_2, lw_okq q := List.forall_mem_cons.mpr ⟨lw_p16, List.forall_mem_cons.mpr ⟨lw_p17, List.forall_mem_cons.mpr ⟨lw_p18, List.forall_mem_cons.mpr ⟨lw_p19, List.forall_mem_cons.mpr ⟨lw_p20, List.forall_mem_cons.mpr ⟨lw_p21, List.forall_mem_cons.mpr ⟨lw_p22, List.forall_mem_cons.mpr ⟨lw_p23, List.forall_mem_cons.mpr ⟨lw_p24, List.forall_mem_cons.mpr ⟨lw_p25, List.forall_mem_cons.mpr ⟨lw_p26, List.forall_mem_cons.mpr ⟨lw_p27, List.forall_mem_cons.mpr ⟨lw_p28, List.forall_mem_cons.mpr ⟨lw_p29, List.forall_mem_cons.mpr ⟨lw_p30, List.forall_mem_cons.mpr ⟨lw_p31, fun _ h => absurd h List.not_mem_nil⟩⟩⟩⟩⟩⟩⟩⟩⟩⟩⟩⟩⟩⟩⟩⟩
theorem lw_p32 : lw_okq (⟨"CarriedHomeModel", "pairsNow", "()I"⟩, 33) := ⟨⟨by decide +kernel, by decide +kernel⟩, List.mem_of_getElem? (i := 715) (by decide +kernel), List.mem_of_getElem? (i := 1060) (by decide +kernel), List.mem_of_getElem? (i := 1061) (by decide +kernel)⟩
theorem lw_p33 : lw_okq (⟨"CarriedHomeModel", "leastPoles", "()I"⟩, 33) := ⟨⟨by decide +kernel, by decide +kernel⟩, List.mem_of_getElem? (i := 715) (by decide +kernel), List.mem_of_getElem? (i := 1064) (by decide +kernel), List.mem_of_getElem? (i := 1065) (by decide +kernel)⟩
theorem lw_p34 : lw_okq (⟨"CarriedHomeModel", "bearIn", "(I)I"⟩, 33) := ⟨⟨by decide +kernel, by decide +kernel⟩, List.mem_of_getElem? (i := 715) (by decide +kernel), List.mem_of_getElem? (i := 1068) (by decide +kernel), List.mem_of_getElem? (i := 1069) (by decide +kernel)⟩
theorem lw_p35 : lw_okq (⟨"CarriedHomeModel", "owing", "()I"⟩, 33) := ⟨⟨by decide +kernel, by decide +kernel⟩, List.mem_of_getElem? (i := 715) (by decide +kernel), List.mem_of_getElem? (i := 1072) (by decide +kernel), List.mem_of_getElem? (i := 1073) (by decide +kernel)⟩
theorem lw_p36 : lw_okq (⟨"CarriedHomeModel", "allBear", "()I"⟩, 33) := ⟨⟨by decide +kernel, by decide +kernel⟩, List.mem_of_getElem? (i := 715) (by decide +kernel), List.mem_of_getElem? (i := 1076) (by decide +kernel), List.mem_of_getElem? (i := 1077) (by decide +kernel)⟩
theorem lw_p37 : lw_okq (⟨"CarriedHomeModel", "isRow", "(I)Z"⟩, 33) := ⟨⟨by decide +kernel, by decide +kernel⟩, List.mem_of_getElem? (i := 715) (by decide +kernel), List.mem_of_getElem? (i := 1085) (by decide +kernel), List.mem_of_getElem? (i := 1086) (by decide +kernel)⟩
theorem lw_p38 : lw_okq (⟨"CarriedHomeModel", "steepestStage", "()I"⟩, 33) := ⟨⟨by decide +kernel, by decide +kernel⟩, List.mem_of_getElem? (i := 715) (by decide +kernel), List.mem_of_getElem? (i := 1116) (by decide +kernel), List.mem_of_getElem? (i := 1117) (by decide +kernel)⟩
theorem lw_p39 : lw_okq (⟨"CarriedHomeModel", "slopesLeft", "()I"⟩, 33) := ⟨⟨by decide +kernel, by decide +kernel⟩, List.mem_of_getElem? (i := 715) (by decide +kernel), List.mem_of_getElem? (i := 1124) (by decide +kernel), List.mem_of_getElem? (i := 1125) (by decide +kernel)⟩
theorem lw_p40 : lw_okq (⟨"CarriedHomeModel", "stuckAt", "()I"⟩, 33) := ⟨⟨by decide +kernel, by decide +kernel⟩, List.mem_of_getElem? (i := 715) (by decide +kernel), List.mem_of_getElem? (i := 1136) (by decide +kernel), List.mem_of_getElem? (i := 1137) (by decide +kernel)⟩
theorem lw_p41 : lw_okq (⟨"CarriedHomeModel", "lameDays", "()I"⟩, 33) := ⟨⟨by decide +kernel, by decide +kernel⟩, List.mem_of_getElem? (i := 715) (by decide +kernel), List.mem_of_getElem? (i := 1140) (by decide +kernel), List.mem_of_getElem? (i := 1141) (by decide +kernel)⟩
theorem lw_p42 : lw_okq (⟨"CarriedHomeModel", "drawBelow", "(I)I"⟩, 33) := ⟨⟨by decide +kernel, by decide +kernel⟩, List.mem_of_getElem? (i := 715) (by decide +kernel), List.mem_of_getElem? (i := 1168) (by decide +kernel), List.mem_of_getElem? (i := 1169) (by decide +kernel)⟩
def lw_privs_3 : List (MethodName × Nat) := [(⟨"CarriedHomeModel", "pairsNow", "()I"⟩, 33), (⟨"CarriedHomeModel", "leastPoles", "()I"⟩, 33), (⟨"CarriedHomeModel", "bearIn", "(I)I"⟩, 33), (⟨"CarriedHomeModel", "owing", "()I"⟩, 33), (⟨"CarriedHomeModel", "allBear", "()I"⟩, 33), (⟨"CarriedHomeModel", "isRow", "(I)Z"⟩, 33), (⟨"CarriedHomeModel", "steepestStage", "()I"⟩, 33), (⟨"CarriedHomeModel", "slopesLeft", "()I"⟩, 33), (⟨"CarriedHomeModel", "stuckAt", "()I"⟩, 33), (⟨"CarriedHomeModel", "lameDays", "()I"⟩, 33), (⟨"CarriedHomeModel", "drawBelow", "(I)I"⟩, 33)]
theorem lw_r3 : ∀ q ∈ lw_privs_3, lw_okq q := List.forall_mem_cons.mpr ⟨lw_p32, List.forall_mem_cons.mpr ⟨lw_p33, List.forall_mem_cons.mpr ⟨lw_p34, List.forall_mem_cons.mpr ⟨lw_p35, List.forall_mem_cons.mpr ⟨lw_p36, List.forall_mem_cons.mpr ⟨lw_p37, List.forall_mem_cons.mpr ⟨lw_p38, List.forall_mem_cons.mpr ⟨lw_p39, List.forall_mem_cons.mpr ⟨lw_p40, List.forall_mem_cons.mpr ⟨lw_p41, List.forall_mem_cons.mpr ⟨lw_p42, fun _ h => absurd h List.not_mem_nil⟩⟩⟩⟩⟩⟩⟩⟩⟩⟩⟩
def lw_privs : List (MethodName × Nat) := lw_privs_1 ++ (lw_privs_2 ++ (lw_privs_3))
def lw_tbl : List Cond := k2_sels lw_privs ++ tables_1
theorem lw_privs_ok : ∀ q ∈ lw_privs, lw_okq q := by
  show ∀ q ∈ lw_privs_1 ++ (lw_privs_2 ++ (lw_privs_3)), lw_okq q
  exact List.forall_mem_append.mpr ⟨lw_r1, List.forall_mem_append.mpr ⟨lw_r2, lw_r3⟩⟩
def RX0 : String := "CarriedHome$Chances"
def TX0 : u_T := fun k => match k with
  | 0 => ("CarriedHome$Chances", "mind", "LCarriedHome$Realm;", true)
  | _ => ("CarriedHome$Chances", "seed", "I", false)
def tyX0 : Nat → FieldType := fun k => match k with
  | 0 => .object "CarriedHome$Realm"
  | _ => .int
abbrev wsX00 : List Cond := u_ws RX0 TX0 2
theorem nmX0 : ∀ a, a < 2 → ∀ b, b < 2 → a ≠ b → (TX0 a).2.1 ≠ (TX0 b).2.1 := by decide +kernel
theorem tyX0_ok : ∀ k, k < 2 → parseFieldDescriptor (TX0 k).2.2.1 = some (tyX0 k) := by decide +kernel
def RX1 : String := "CarriedHome$Counsel"
def TX1 : u_T := fun k => match k with
  | 0 => ("CarriedHome$Counsel", "mind", "LCarriedHome$Realm;", true)
  | 1 => ("CarriedHome$Counsel", "gainOfOne", "[I", true)
  | _ => ("CarriedHome$Counsel", "gainOfOther", "[I", true)
def tyX1 : Nat → FieldType := fun k => match k with
  | 0 => .object "CarriedHome$Realm"
  | 1 => .array .int
  | _ => .array .int
abbrev wsX10 : List Cond := u_ws RX1 TX1 3
theorem nmX1 : ∀ a, a < 3 → ∀ b, b < 3 → a ≠ b → (TX1 a).2.1 ≠ (TX1 b).2.1 := by decide +kernel
theorem tyX1_ok : ∀ k, k < 3 → parseFieldDescriptor (TX1 k).2.2.1 = some (tyX1 k) := by decide +kernel
def RX2 : String := "CarriedHome$Letters"
def TX2 : u_T := fun k => match k with
  | 0 => ("CarriedHome$Letters", "letter", "[I", true)
  | _ => ("CarriedHome$Letters", "size", "I", false)
def tyX2 : Nat → FieldType := fun k => match k with
  | 0 => .array .int
  | _ => .int
abbrev wsX20 : List Cond := u_ws RX2 TX2 2
theorem nmX2 : ∀ a, a < 2 → ∀ b, b < 2 → a ≠ b → (TX2 a).2.1 ≠ (TX2 b).2.1 := by decide +kernel
theorem tyX2_ok : ∀ k, k < 2 → parseFieldDescriptor (TX2 k).2.2.1 = some (tyX2 k) := by decide +kernel
def RX3 : String := "CarriedHome$Past"
def TX3 : u_T := fun k => match k with
  | 0 => ("CarriedHome$Past", "kept", "[LCarriedHome$Realm;", true)
  | _ => ("CarriedHome$Past", "size", "I", false)
def tyX3 : Nat → FieldType := fun k => match k with
  | 0 => .array (.object "CarriedHome$Realm")
  | _ => .int
abbrev wsX30 : List Cond := u_ws RX3 TX3 2
theorem nmX3 : ∀ a, a < 2 → ∀ b, b < 2 → a ≠ b → (TX3 a).2.1 ≠ (TX3 b).2.1 := by decide +kernel
theorem tyX3_ok : ∀ k, k < 2 → parseFieldDescriptor (TX3 k).2.2.1 = some (tyX3 k) := by decide +kernel
def RX4 : String := "CarriedHome$Realm"
def TX4 : u_T := fun k => match k with
  | 0 => ("CarriedHome$Realm", "slopeAt", "[I", true)
  | 1 => ("CarriedHome$Realm", "kind", "[I", true)
  | 2 => ("CarriedHome$Realm", "figure", "[I", true)
  | 3 => ("CarriedHome$Realm", "fate", "[I", true)
  | 4 => ("CarriedHome$Realm", "worn", "[I", true)
  | 5 => ("CarriedHome$Realm", "men", "I", false)
  | 6 => ("CarriedHome$Realm", "king", "I", false)
  | 7 => ("CarriedHome$Realm", "load", "I", false)
  | 8 => ("CarriedHome$Realm", "snow", "I", false)
  | _ => ("CarriedHome$Realm", "day", "I", false)
def tyX4 : Nat → FieldType := fun k => match k with
  | 0 => .array .int
  | 1 => .array .int
  | 2 => .array .int
  | 3 => .array .int
  | 4 => .array .int
  | 5 => .int
  | 6 => .int
  | 7 => .int
  | 8 => .int
  | _ => .int
abbrev wsX40 : List Cond := u_ws RX4 TX4 10
theorem nmX4 : ∀ a, a < 10 → ∀ b, b < 10 → a ≠ b → (TX4 a).2.1 ≠ (TX4 b).2.1 := by decide +kernel
theorem tyX4_ok : ∀ k, k < 10 → parseFieldDescriptor (TX4 k).2.2.1 = some (tyX4 k) := by decide +kernel
def RX5 : String := "CarriedHome$Row"
def TX5 : u_T := fun k => match k with
  | 0 => ("CarriedHome$Row", "number", "[I", true)
  | _ => ("CarriedHome$Row", "size", "I", false)
def tyX5 : Nat → FieldType := fun k => match k with
  | 0 => .array .int
  | _ => .int
abbrev wsX50 : List Cond := u_ws RX5 TX5 2
theorem nmX5 : ∀ a, a < 2 → ∀ b, b < 2 → a ≠ b → (TX5 a).2.1 ≠ (TX5 b).2.1 := by decide +kernel
theorem tyX5_ok : ∀ k, k < 2 → parseFieldDescriptor (TX5 k).2.2.1 = some (tyX5 k) := by decide +kernel
def RX6 : String := "CarriedHome"
def TX6 : u_T := fun k => match k with
  | 0 => ("CarriedHome", "now", "LCarriedHome$Realm;", true)
  | 1 => ("CarriedHome", "mind", "LCarriedHome$Realm;", true)
  | 2 => ("CarriedHome", "image", "LCarriedHome$Realm;", true)
  | 3 => ("CarriedHome", "past", "LCarriedHome$Past;", true)
  | 4 => ("CarriedHome", "letters", "LCarriedHome$Letters;", true)
  | 5 => ("CarriedHome", "told", "LCarriedHome$Row;", true)
  | 6 => ("CarriedHome", "counsel", "LCarriedHome$Counsel;", true)
  | 7 => ("CarriedHome", "chances", "LCarriedHome$Chances;", true)
  | 8 => ("CarriedHome", "refusals", "[I", true)
  | _ => ("CarriedHome", "imageIsTaken", "Z", false)
def tyX6 : Nat → FieldType := fun k => match k with
  | 0 => .object "CarriedHome$Realm"
  | 1 => .object "CarriedHome$Realm"
  | 2 => .object "CarriedHome$Realm"
  | 3 => .object "CarriedHome$Past"
  | 4 => .object "CarriedHome$Letters"
  | 5 => .object "CarriedHome$Row"
  | 6 => .object "CarriedHome$Counsel"
  | 7 => .object "CarriedHome$Chances"
  | 8 => .array .int
  | _ => .boolean
abbrev wsX60 : List Cond := u_ws RX6 TX6 10
theorem nmX6 : ∀ a, a < 10 → ∀ b, b < 10 → a ≠ b → (TX6 a).2.1 ≠ (TX6 b).2.1 := by decide +kernel
theorem tyX6_ok : ∀ k, k < 10 → parseFieldDescriptor (TX6 k).2.2.1 = some (tyX6 k) := by decide +kernel
def RX7 : String := "CarriedHomeModel"
def TX7 : u_T := fun k => match k with
  | 0 => ("CarriedHomeModel", "slopes0", "[I", true)
  | 1 => ("CarriedHomeModel", "king", "I", false)
  | 2 => ("CarriedHomeModel", "load0", "I", false)
  | 3 => ("CarriedHomeModel", "many", "I", false)
  | 4 => ("CarriedHomeModel", "kinds", "[I", true)
  | 5 => ("CarriedHomeModel", "figures", "[I", true)
  | 6 => ("CarriedHomeModel", "state", "[I", true)
  | 7 => ("CarriedHomeModel", "worn", "[I", true)
  | 8 => ("CarriedHomeModel", "snow", "I", false)
  | 9 => ("CarriedHomeModel", "today", "I", false)
  | 10 => ("CarriedHomeModel", "thrown", "I", false)
  | 11 => ("CarriedHomeModel", "refusals", "[I", true)
  | 12 => ("CarriedHomeModel", "letters", "[I", true)
  | 13 => ("CarriedHomeModel", "letterMany", "I", false)
  | 14 => ("CarriedHomeModel", "at0", "I", false)
  | 15 => ("CarriedHomeModel", "isBad", "Z", false)
  | 16 => ("CarriedHomeModel", "statements", "I", false)
  | 17 => ("CarriedHomeModel", "placeIn", "[I", true)
  | 18 => ("CarriedHomeModel", "letterOf", "[I", true)
  | 19 => ("CarriedHomeModel", "numbers", "[I", true)
  | 20 => ("CarriedHomeModel", "kept", "[I", true)
  | 21 => ("CarriedHomeModel", "imaged", "[I", true)
  | 22 => ("CarriedHomeModel", "hasImage", "Z", false)
  | 23 => ("CarriedHomeModel", "place0", "I", false)
  | 24 => ("CarriedHomeModel", "isTaking", "Z", false)
  | 25 => ("CarriedHomeModel", "keptIn", "[I", false)
  | 26 => ("CarriedHomeModel", "turns0", "[I", true)
  | 27 => ("CarriedHomeModel", "turnOf", "[I", true)
  | 28 => ("CarriedHomeModel", "turned", "I", false)
  | 29 => ("CarriedHomeModel", "row", "[I", true)
  | 30 => ("CarriedHomeModel", "rowMany", "I", false)
  | 31 => ("CarriedHomeModel", "gains", "[I", true)
  | _ => ("CarriedHomeModel", "seed", "I", false)
def tyX7 : Nat → FieldType := fun k => match k with
  | 0 => .array .int
  | 1 => .int
  | 2 => .int
  | 3 => .int
  | 4 => .array .int
  | 5 => .array .int
  | 6 => .array .int
  | 7 => .array .int
  | 8 => .int
  | 9 => .int
  | 10 => .int
  | 11 => .array .int
  | 12 => .array .int
  | 13 => .int
  | 14 => .int
  | 15 => .boolean
  | 16 => .int
  | 17 => .array .int
  | 18 => .array .int
  | 19 => .array .int
  | 20 => .array .int
  | 21 => .array .int
  | 22 => .boolean
  | 23 => .int
  | 24 => .boolean
  | 25 => .array .int
  | 26 => .array .int
  | 27 => .array .int
  | 28 => .int
  | 29 => .array .int
  | 30 => .int
  | 31 => .array .int
  | _ => .int
abbrev wsX70 : List Cond := u_ws RX7 TX7 33
theorem nmX7 : ∀ a, a < 33 → ∀ b, b < 33 → a ≠ b → (TX7 a).2.1 ≠ (TX7 b).2.1 := by decide +kernel
theorem tyX7_ok : ∀ k, k < 33 → parseFieldDescriptor (TX7 k).2.2.1 = some (tyX7 k) := by decide +kernel
abbrev vwCl : List vw_C := [(RX0, TX0, 2), (RX1, TX1, 3), (RX2, TX2, 2), (RX3, TX3, 2), (RX4, TX4, 10), (RX5, TX5, 2), (RX6, TX6, 10), (RX7, TX7, 33)]
def cnm : Nat → String
  | 0 => RX0
  | 1 => RX1
  | 2 => RX2
  | 3 => RX3
  | 4 => RX4
  | 5 => RX5
  | 6 => RX6
  | 7 => RX7
  | 8 => "java/lang/Integer"
  | _ => "java/lang/Math"
def M_X_init : MethodName × ByteArray × Nat × Option FieldType × Nat × Nat × Nat := (⟨RX6, "<init>", "()V"⟩, prog_1_method_1_code, 1, none, 6, 3, 0)
def M_X_feed : MethodName × ByteArray × Nat × Option FieldType × Nat × Nat × Nat := (⟨RX6, "feed", "(I)I"⟩, prog_1_method_2_code, 2, some .int, 6, 1, 1)
def M_X_reign : MethodName × ByteArray × Nat × Option FieldType × Nat × Nat × Nat := (⟨RX6, "reign", "()I"⟩, prog_1_method_3_code, 4, some .int, 6, 6, 0)
def M_X_obeys : MethodName × ByteArray × Nat × Option FieldType × Nat × Nat × Nat := (⟨RX6, "obeys", "(I)Z"⟩, prog_1_method_4_code, 4, some .boolean, 6, 5, 1)
def M_X_manOf : MethodName × ByteArray × Nat × Option FieldType × Nat × Nat × Nat := (⟨RX6, "manOf", "(II)I"⟩, prog_1_method_5_code, 3, some .int, 6, 2, 2)
def M_X_slope : MethodName × ByteArray × Nat × Option FieldType × Nat × Nat × Nat := (⟨RX6, "slope", "(I)I"⟩, prog_1_method_6_code, 2, some .int, 6, 1, 1)
def M_X_man : MethodName × ByteArray × Nat × Option FieldType × Nat × Nat × Nat := (⟨RX6, "man", "(II)I"⟩, prog_1_method_7_code, 3, some .int, 6, 2, 2)
def M_X_pardons : MethodName × ByteArray × Nat × Option FieldType × Nat × Nat × Nat := (⟨RX6, "pardons", "(I)I"⟩, prog_1_method_8_code, 2, some .int, 6, 3, 1)
def M_X_slopes : MethodName × ByteArray × Nat × Option FieldType × Nat × Nat × Nat := (⟨RX6, "slopes", "(II)I"⟩, prog_1_method_9_code, 5, some .int, 6, 3, 2)
def M_X_loads : MethodName × ByteArray × Nat × Option FieldType × Nat × Nat × Nat := (⟨RX6, "loads", "(I)I"⟩, prog_1_method_10_code, 4, some .int, 6, 3, 1)
def M_X_snows : MethodName × ByteArray × Nat × Option FieldType × Nat × Nat × Nat := (⟨RX6, "snows", "(I)I"⟩, prog_1_method_11_code, 4, some .int, 6, 1, 1)
def M_X_days : MethodName × ByteArray × Nat × Option FieldType × Nat × Nat × Nat := (⟨RX6, "days", "(I)I"⟩, prog_1_method_12_code, 3, some .int, 6, 5, 1)
def M_X_back : MethodName × ByteArray × Nat × Option FieldType × Nat × Nat × Nat := (⟨RX6, "back", "()I"⟩, prog_1_method_13_code, 1, some .int, 6, 3, 0)
def M_X_then : MethodName × ByteArray × Nat × Option FieldType × Nat × Nat × Nat := (⟨RX6, "then", "(II)I"⟩, prog_1_method_14_code, 5, some .int, 6, 5, 2)
def M_X_wornIn : MethodName × ByteArray × Nat × Option FieldType × Nat × Nat × Nat := (⟨RX6, "wornIn", "(II)I"⟩, prog_1_method_15_code, 4, some .int, 6, 5, 2)
def M_X_home : MethodName × ByteArray × Nat × Option FieldType × Nat × Nat × Nat := (⟨RX6, "home", "(I)I"⟩, prog_1_method_16_code, 2, some .int, 6, 5, 1)
def M_X_dies : MethodName × ByteArray × Nat × Option FieldType × Nat × Nat × Nat := (⟨RX6, "dies", "(I)I"⟩, prog_1_method_17_code, 2, some .int, 6, 5, 1)
def M_X_mercy : MethodName × ByteArray × Nat × Option FieldType × Nat × Nat × Nat := (⟨RX6, "mercy", "(I)I"⟩, prog_1_method_18_code, 3, some .int, 6, 6, 1)
def M_X_fewest : MethodName × ByteArray × Nat × Option FieldType × Nat × Nat × Nat := (⟨RX6, "fewest", "(I)I"⟩, prog_1_method_19_code, 3, some .int, 6, 6, 1)
def M_X_crown : MethodName × ByteArray × Nat × Option FieldType × Nat × Nat × Nat := (⟨RX6, "crown", "(I)I"⟩, prog_1_method_20_code, 3, some .int, 6, 6, 1)
def M_X_dig : MethodName × ByteArray × Nat × Option FieldType × Nat × Nat × Nat := (⟨RX6, "dig", "(I)I"⟩, prog_1_method_21_code, 3, some .int, 6, 6, 1)
def M_X_keep : MethodName × ByteArray × Nat × Option FieldType × Nat × Nat × Nat := (⟨RX6, "keep", "(II)I"⟩, prog_1_method_22_code, 4, some .int, 6, 6, 2)
def M_X_pairs : MethodName × ByteArray × Nat × Option FieldType × Nat × Nat × Nat := (⟨RX6, "pairs", "(I)I"⟩, prog_1_method_23_code, 2, some .int, 6, 3, 1)
def M_X_whoBore : MethodName × ByteArray × Nat × Option FieldType × Nat × Nat × Nat := (⟨RX6, "whoBore", "()I"⟩, prog_1_method_24_code, 1, some .int, 6, 6, 0)
def M_X_whatKind : MethodName × ByteArray × Nat × Option FieldType × Nat × Nat × Nat := (⟨RX6, "whatKind", "(II)I"⟩, prog_1_method_25_code, 3, some .int, 6, 6, 2)
def M_X_two : MethodName × ByteArray × Nat × Option FieldType × Nat × Nat × Nat := (⟨RX6, "two", "(III)I"⟩, prog_1_method_26_code, 5, some .int, 6, 6, 3)
def M_X_falls : MethodName × ByteArray × Nat × Option FieldType × Nat × Nat × Nat := (⟨RX6, "falls", "(IIII)J"⟩, prog_1_method_27_code, 5, some .long, 6, 5, 4)
def M_X_shares : MethodName × ByteArray × Nat × Option FieldType × Nat × Nat × Nat := (⟨RX6, "shares", "(II)I"⟩, prog_1_method_28_code, 3, some .int, 6, 2, 2)
def M_X_strongest : MethodName × ByteArray × Nat × Option FieldType × Nat × Nat × Nat := (⟨RX6, "strongest", "(I)I"⟩, prog_1_method_29_code, 2, some .int, 6, 2, 1)
def M_X_mean : MethodName × ByteArray × Nat × Option FieldType × Nat × Nat × Nat := (⟨RX6, "mean", "(I)J"⟩, prog_1_method_30_code, 2, some .long, 6, 2, 1)
def M_X_spare : MethodName × ByteArray × Nat × Option FieldType × Nat × Nat × Nat := (⟨RX6, "spare", "(I)I"⟩, prog_1_method_31_code, 2, some .int, 6, 2, 1)
def M_X_height : MethodName × ByteArray × Nat × Option FieldType × Nat × Nat × Nat := (⟨RX6, "height", "(I)I"⟩, prog_1_method_32_code, 2, some .int, 6, 5, 1)
def M_X_eased : MethodName × ByteArray × Nat × Option FieldType × Nat × Nat × Nat := (⟨RX6, "eased", "(I)I"⟩, prog_1_method_33_code, 3, some .int, 6, 6, 1)
def M_X_shoulders : MethodName × ByteArray × Nat × Option FieldType × Nat × Nat × Nat := (⟨RX6, "shoulders", "(I)I"⟩, prog_1_method_34_code, 2, some .int, 6, 1, 1)
def M_X_row : MethodName × ByteArray × Nat × Option FieldType × Nat × Nat × Nat := (⟨RX6, "row", "(I)I"⟩, prog_1_method_35_code, 3, some .int, 6, 1, 1)
def M_X_judge : MethodName × ByteArray × Nat × Option FieldType × Nat × Nat × Nat := (⟨RX6, "judge", "()I"⟩, prog_1_method_36_code, 3, some .int, 6, 2, 0)
def M_X_clear : MethodName × ByteArray × Nat × Option FieldType × Nat × Nat × Nat := (⟨RX6, "clear", "()I"⟩, prog_1_method_37_code, 2, some .int, 6, 1, 0)
def M_X_lots : MethodName × ByteArray × Nat × Option FieldType × Nat × Nat × Nat := (⟨RX6, "lots", "(III)I"⟩, prog_1_method_38_code, 5, some .int, 6, 6, 3)
def M_X_image : MethodName × ByteArray × Nat × Option FieldType × Nat × Nat × Nat := (⟨RX6, "image", "()I"⟩, prog_1_method_39_code, 1, some .int, 6, 2, 0)
def M_X_restore : MethodName × ByteArray × Nat × Option FieldType × Nat × Nat × Nat := (⟨RX6, "restore", "()I"⟩, prog_1_method_40_code, 1, some .int, 6, 2, 0)
def M_X_count : MethodName × ByteArray × Nat × Option FieldType × Nat × Nat × Nat := (⟨RX6, "count", "(I)I"⟩, prog_1_method_41_code, 2, some .int, 6, 1, 1)
def M_X_refuse : MethodName × ByteArray × Nat × Option FieldType × Nat × Nat × Nat := (⟨RX6, "refuse", "(I)I"⟩, prog_1_method_42_code, 3, some .int, 6, 0, 1)
def M_X_outside : MethodName × ByteArray × Nat × Option FieldType × Nat × Nat × Nat := (⟨RX6, "outside", "(III)I"⟩, prog_1_method_43_code, 3, some .int, 6, 0, 3)
def M_X_isStage : MethodName × ByteArray × Nat × Option FieldType × Nat × Nat × Nat := (⟨RX6, "isStage", "(I)Z"⟩, prog_1_method_44_code, 1, some .boolean, 6, 0, 1)
def M_X_isKind : MethodName × ByteArray × Nat × Option FieldType × Nat × Nat × Nat := (⟨RX6, "isKind", "(I)Z"⟩, prog_1_method_45_code, 1, some .boolean, 6, 0, 1)
def M_X_isOneOfTwo : MethodName × ByteArray × Nat × Option FieldType × Nat × Nat × Nat := (⟨RX6, "isOneOfTwo", "(I)Z"⟩, prog_1_method_46_code, 1, some .boolean, 6, 0, 1)
def M_X_power : MethodName × ByteArray × Nat × Option FieldType × Nat × Nat × Nat := (⟨RX6, "power", "(JI)J"⟩, prog_1_method_47_code, 6, some .long, 6, 0, 2)
def M_X_inLowestTerms : MethodName × ByteArray × Nat × Option FieldType × Nat × Nat × Nat := (⟨RX6, "inLowestTerms", "(JJI)J"⟩, prog_1_method_48_code, 7, some .long, 6, 1, 3)
def M_X_commonDivisor : MethodName × ByteArray × Nat × Option FieldType × Nat × Nat × Nat := (⟨RX6, "commonDivisor", "(JJ)J"⟩, prog_1_method_49_code, 11, some .long, 6, 0, 2)
def M_M_init : MethodName × ByteArray × Nat × Option FieldType × Nat × Nat × Nat := (⟨RX7, "<init>", "()V"⟩, prog_9_method_1_code, 2, none, 7, 1, 0)
def M_M_in : MethodName × ByteArray × Nat × Option FieldType × Nat × Nat × Nat := (⟨RX7, "in", "(JJJ)Z"⟩, prog_9_method_3_code, 6, some .boolean, 7, 0, 3)
def M_M_refuse : MethodName × ByteArray × Nat × Option FieldType × Nat × Nat × Nat := (⟨RX7, "refuse", "(I)I"⟩, prog_9_method_4_code, 2, some .int, 7, 0, 1)
def M_M_isMan : MethodName × ByteArray × Nat × Option FieldType × Nat × Nat × Nat := (⟨RX7, "isMan", "(I)Z"⟩, prog_9_method_5_code, 2, some .boolean, 7, 1, 1)
def M_M_wrongNumber : MethodName × ByteArray × Nat × Option FieldType × Nat × Nat × Nat := (⟨RX7, "wrongNumber", "(III)I"⟩, prog_9_method_6_code, 3, some .int, 7, 0, 3)
def M_M_wrongBit : MethodName × ByteArray × Nat × Option FieldType × Nat × Nat × Nat := (⟨RX7, "wrongBit", "(III)I"⟩, prog_9_method_7_code, 3, some .int, 7, 1, 3)
def M_M_hasBit : MethodName × ByteArray × Nat × Option FieldType × Nat × Nat × Nat := (⟨RX7, "hasBit", "(II)Z"⟩, prog_9_method_8_code, 2, some .boolean, 7, 0, 2)
def M_M_onesOf : MethodName × ByteArray × Nat × Option FieldType × Nat × Nat × Nat := (⟨RX7, "onesOf", "(I)I"⟩, prog_9_method_9_code, 3, some .int, 7, 0, 1)
def M_M_held : MethodName × ByteArray × Nat × Option FieldType × Nat × Nat × Nat := (⟨RX7, "held", "(II)I"⟩, prog_9_method_10_code, 2, some .int, 7, 0, 2)
def M_M_bearsOf : MethodName × ByteArray × Nat × Option FieldType × Nat × Nat × Nat := (⟨RX7, "bearsOf", "(I)I"⟩, prog_9_method_11_code, 4, some .int, 7, 0, 1)
def M_M_lastsOf : MethodName × ByteArray × Nat × Option FieldType × Nat × Nat × Nat := (⟨RX7, "lastsOf", "(I)I"⟩, prog_9_method_12_code, 2, some .int, 7, 0, 1)
def M_M_isFeuding : MethodName × ByteArray × Nat × Option FieldType × Nat × Nat × Nat := (⟨RX7, "isFeuding", "(I)Z"⟩, prog_9_method_13_code, 2, some .boolean, 7, 0, 1)
def M_M_feudingIn : MethodName × ByteArray × Nat × Option FieldType × Nat × Nat × Nat := (⟨RX7, "feudingIn", "(I)I"⟩, prog_9_method_14_code, 4, some .int, 7, 1, 1)
def M_M_wearsOf : MethodName × ByteArray × Nat × Option FieldType × Nat × Nat × Nat := (⟨RX7, "wearsOf", "(III)I"⟩, prog_9_method_15_code, 4, some .int, 7, 2, 3)
def M_M_neededHere : MethodName × ByteArray × Nat × Option FieldType × Nat × Nat × Nat := (⟨RX7, "neededHere", "()I"⟩, prog_9_method_16_code, 1, some .int, 7, 0, 0)
def M_M_strongestBut : MethodName × ByteArray × Nat × Option FieldType × Nat × Nat × Nat := (⟨RX7, "strongestBut", "(I)I"⟩, prog_9_method_17_code, 5, some .int, 7, 1, 1)
def M_M_bearersNow : MethodName × ByteArray × Nat × Option FieldType × Nat × Nat × Nat := (⟨RX7, "bearersNow", "()I"⟩, prog_9_method_18_code, 4, some .int, 7, 2, 0)
def M_M_dayOn : MethodName × ByteArray × Nat × Option FieldType × Nat × Nat × Nat := (⟨RX7, "dayOn", "()V"⟩, prog_9_method_19_code, 4, none, 7, 3, 0)
def M_M_goDays : MethodName × ByteArray × Nat × Option FieldType × Nat × Nat × Nat := (⟨RX7, "goDays", "(I)V"⟩, prog_9_method_20_code, 3, none, 7, 4, 1)
def M_M_bitsOf : MethodName × ByteArray × Nat × Option FieldType × Nat × Nat × Nat := (⟨RX7, "bitsOf", "(I)I"⟩, prog_9_method_21_code, 4, some .int, 7, 0, 1)
def M_M_allBear : MethodName × ByteArray × Nat × Option FieldType × Nat × Nat × Nat := (⟨RX7, "allBear", "()I"⟩, prog_9_method_22_code, 3, some .int, 7, 1, 0)
def M_M_manComes : MethodName × ByteArray × Nat × Option FieldType × Nat × Nat × Nat := (⟨RX7, "manComes", "(II)Z"⟩, prog_9_method_23_code, 4, some .boolean, 7, 0, 2)
def M_M_feed : MethodName × ByteArray × Nat × Option FieldType × Nat × Nat × Nat := (⟨RX7, "feed", "(I)I"⟩, prog_9_method_24_code, 2, some .int, 7, 1, 1)
def M_M_here : MethodName × ByteArray × Nat × Option FieldType × Nat × Nat × Nat := (⟨RX7, "here", "()I"⟩, prog_9_method_25_code, 1, some .int, 7, 0, 0)
def M_M_readDigits : MethodName × ByteArray × Nat × Option FieldType × Nat × Nat × Nat := (⟨RX7, "readDigits", "(I)I"⟩, prog_9_method_26_code, 4, some .int, 7, 1, 1)
def M_M_isLetter : MethodName × ByteArray × Nat × Option FieldType × Nat × Nat × Nat := (⟨RX7, "isLetter", "(I)Z"⟩, prog_9_method_27_code, 1, some .boolean, 7, 0, 1)
def M_M_readNumbers : MethodName × ByteArray × Nat × Option FieldType × Nat × Nat × Nat := (⟨RX7, "readNumbers", "(II)V"⟩, prog_9_method_28_code, 3, none, 7, 2, 2)
def M_M_readStatement : MethodName × ByteArray × Nat × Option FieldType × Nat × Nat × Nat := (⟨RX7, "readStatement", "()V"⟩, prog_9_method_29_code, 3, none, 7, 3, 0)
def M_M_pardonTold : MethodName × ByteArray × Nat × Option FieldType × Nat × Nat × Nat := (⟨RX7, "pardonTold", "(I)Z"⟩, prog_9_method_30_code, 3, some .boolean, 7, 2, 1)
def M_M_daysTold : MethodName × ByteArray × Nat × Option FieldType × Nat × Nat × Nat := (⟨RX7, "daysTold", "(I)Z"⟩, prog_9_method_31_code, 3, some .boolean, 7, 5, 1)
def M_M_comesTold : MethodName × ByteArray × Nat × Option FieldType × Nat × Nat × Nat := (⟨RX7, "comesTold", "(I)Z"⟩, prog_9_method_32_code, 5, some .boolean, 7, 6, 1)
def M_M_reign : MethodName × ByteArray × Nat × Option FieldType × Nat × Nat × Nat := (⟨RX7, "reign", "()I"⟩, prog_9_method_33_code, 2, some .int, 7, 7, 0)
def M_M_carry : MethodName × ByteArray × Nat × Option FieldType × Nat × Nat × Nat := (⟨RX7, "carry", "(I)I"⟩, prog_9_method_34_code, 2, some .int, 7, 0, 1)
def M_M_carryAll : MethodName × ByteArray × Nat × Option FieldType × Nat × Nat × Nat := (⟨RX7, "carryAll", "([IZ)V"⟩, prog_9_method_35_code, 4, none, 7, 1, 2)
def M_M_think : MethodName × ByteArray × Nat × Option FieldType × Nat × Nat × Nat := (⟨RX7, "think", "()V"⟩, prog_9_method_36_code, 1, none, 7, 2, 0)
def M_M_again : MethodName × ByteArray × Nat × Option FieldType × Nat × Nat × Nat := (⟨RX7, "again", "()V"⟩, prog_9_method_37_code, 1, none, 7, 2, 0)
def M_M_image : MethodName × ByteArray × Nat × Option FieldType × Nat × Nat × Nat := (⟨RX7, "image", "()I"⟩, prog_9_method_38_code, 1, some .int, 7, 2, 0)
def M_M_restore : MethodName × ByteArray × Nat × Option FieldType × Nat × Nat × Nat := (⟨RX7, "restore", "()I"⟩, prog_9_method_39_code, 1, some .int, 7, 2, 0)
def M_M_keepTurn : MethodName × ByteArray × Nat × Option FieldType × Nat × Nat × Nat := (⟨RX7, "keepTurn", "()V"⟩, prog_9_method_40_code, 2, none, 7, 2, 0)
def M_M_back : MethodName × ByteArray × Nat × Option FieldType × Nat × Nat × Nat := (⟨RX7, "back", "()I"⟩, prog_9_method_41_code, 2, some .int, 7, 2, 0)
def M_M_manOf : MethodName × ByteArray × Nat × Option FieldType × Nat × Nat × Nat := (⟨RX7, "manOf", "(II)I"⟩, prog_9_method_42_code, 3, some .int, 7, 2, 2)
def M_M_slope : MethodName × ByteArray × Nat × Option FieldType × Nat × Nat × Nat := (⟨RX7, "slope", "(I)I"⟩, prog_9_method_43_code, 2, some .int, 7, 1, 1)
def M_M_man : MethodName × ByteArray × Nat × Option FieldType × Nat × Nat × Nat := (⟨RX7, "man", "(II)I"⟩, prog_9_method_44_code, 4, some .int, 7, 1, 2)
def M_M_pardons : MethodName × ByteArray × Nat × Option FieldType × Nat × Nat × Nat := (⟨RX7, "pardons", "(I)I"⟩, prog_9_method_45_code, 2, some .int, 7, 3, 1)
def M_M_slopes : MethodName × ByteArray × Nat × Option FieldType × Nat × Nat × Nat := (⟨RX7, "slopes", "(II)I"⟩, prog_9_method_46_code, 5, some .int, 7, 3, 2)
def M_M_loads : MethodName × ByteArray × Nat × Option FieldType × Nat × Nat × Nat := (⟨RX7, "loads", "(I)I"⟩, prog_9_method_47_code, 4, some .int, 7, 3, 1)
def M_M_snows : MethodName × ByteArray × Nat × Option FieldType × Nat × Nat × Nat := (⟨RX7, "snows", "(I)I"⟩, prog_9_method_48_code, 4, some .int, 7, 1, 1)
def M_M_days : MethodName × ByteArray × Nat × Option FieldType × Nat × Nat × Nat := (⟨RX7, "days", "(I)I"⟩, prog_9_method_49_code, 3, some .int, 7, 5, 1)
def M_M_waitsIn : MethodName × ByteArray × Nat × Option FieldType × Nat × Nat × Nat := (⟨RX7, "waitsIn", "(I)I"⟩, prog_9_method_50_code, 5, some .int, 7, 4, 1)
def M_M_then : MethodName × ByteArray × Nat × Option FieldType × Nat × Nat × Nat := (⟨RX7, "then", "(II)I"⟩, prog_9_method_51_code, 6, some .int, 7, 5, 2)
def M_M_wornIn : MethodName × ByteArray × Nat × Option FieldType × Nat × Nat × Nat := (⟨RX7, "wornIn", "(II)I"⟩, prog_9_method_52_code, 5, some .int, 7, 5, 2)
def M_M_homeIn : MethodName × ByteArray × Nat × Option FieldType × Nat × Nat × Nat := (⟨RX7, "homeIn", "()I"⟩, prog_9_method_53_code, 3, some .int, 7, 4, 0)
def M_M_home : MethodName × ByteArray × Nat × Option FieldType × Nat × Nat × Nat := (⟨RX7, "home", "(I)I"⟩, prog_9_method_54_code, 2, some .int, 7, 5, 1)
def M_M_diesIn : MethodName × ByteArray × Nat × Option FieldType × Nat × Nat × Nat := (⟨RX7, "diesIn", "(I)I"⟩, prog_9_method_55_code, 4, some .int, 7, 4, 1)
def M_M_dies : MethodName × ByteArray × Nat × Option FieldType × Nat × Nat × Nat := (⟨RX7, "dies", "(I)I"⟩, prog_9_method_56_code, 6, some .int, 7, 5, 1)
def M_M_kingThen : MethodName × ByteArray × Nat × Option FieldType × Nat × Nat × Nat := (⟨RX7, "kingThen", "(I)I"⟩, prog_9_method_57_code, 3, some .int, 7, 5, 1)
def M_M_mercy : MethodName × ByteArray × Nat × Option FieldType × Nat × Nat × Nat := (⟨RX7, "mercy", "(I)I"⟩, prog_9_method_58_code, 7, some .int, 7, 6, 1)
def M_M_fewest : MethodName × ByteArray × Nat × Option FieldType × Nat × Nat × Nat := (⟨RX7, "fewest", "(I)I"⟩, prog_9_method_59_code, 7, some .int, 7, 6, 1)
def M_M_crown : MethodName × ByteArray × Nat × Option FieldType × Nat × Nat × Nat := (⟨RX7, "crown", "(I)I"⟩, prog_9_method_60_code, 5, some .int, 7, 6, 1)
def M_M_dig : MethodName × ByteArray × Nat × Option FieldType × Nat × Nat × Nat := (⟨RX7, "dig", "(I)I"⟩, prog_9_method_61_code, 7, some .int, 7, 6, 1)
def M_M_keep : MethodName × ByteArray × Nat × Option FieldType × Nat × Nat × Nat := (⟨RX7, "keep", "(II)I"⟩, prog_9_method_62_code, 8, some .int, 7, 6, 2)
def M_M_pairsNow : MethodName × ByteArray × Nat × Option FieldType × Nat × Nat × Nat := (⟨RX7, "pairsNow", "()I"⟩, prog_9_method_63_code, 6, some .int, 7, 1, 0)
def M_M_bearIn : MethodName × ByteArray × Nat × Option FieldType × Nat × Nat × Nat := (⟨RX7, "bearIn", "(I)I"⟩, prog_9_method_64_code, 4, some .int, 7, 1, 1)
def M_M_leastPoles : MethodName × ByteArray × Nat × Option FieldType × Nat × Nat × Nat := (⟨RX7, "leastPoles", "()I"⟩, prog_9_method_65_code, 4, some .int, 7, 2, 0)
def M_M_owing : MethodName × ByteArray × Nat × Option FieldType × Nat × Nat × Nat := (⟨RX7, "owing", "()I"⟩, prog_9_method_66_code, 3, some .int, 7, 0, 0)
def M_M_pairs : MethodName × ByteArray × Nat × Option FieldType × Nat × Nat × Nat := (⟨RX7, "pairs", "(I)I"⟩, prog_9_method_67_code, 2, some .int, 7, 3, 1)
def M_M_isRow : MethodName × ByteArray × Nat × Option FieldType × Nat × Nat × Nat := (⟨RX7, "isRow", "(I)Z"⟩, prog_9_method_68_code, 4, some .boolean, 7, 4, 1)
def M_M_whoBore : MethodName × ByteArray × Nat × Option FieldType × Nat × Nat × Nat := (⟨RX7, "whoBore", "()I"⟩, prog_9_method_69_code, 3, some .int, 7, 5, 0)
def M_M_whatKind : MethodName × ByteArray × Nat × Option FieldType × Nat × Nat × Nat := (⟨RX7, "whatKind", "(II)I"⟩, prog_9_method_70_code, 6, some .int, 7, 5, 2)
def M_M_two : MethodName × ByteArray × Nat × Option FieldType × Nat × Nat × Nat := (⟨RX7, "two", "(III)I"⟩, prog_9_method_71_code, 8, some .int, 7, 5, 3)
def M_M_divisor : MethodName × ByteArray × Nat × Option FieldType × Nat × Nat × Nat := (⟨RX7, "divisor", "(JJ)J"⟩, prog_9_method_72_code, 10, some .long, 7, 0, 2)
def M_M_partOf : MethodName × ByteArray × Nat × Option FieldType × Nat × Nat × Nat := (⟨RX7, "partOf", "(JJI)J"⟩, prog_9_method_73_code, 7, some .long, 7, 1, 3)
def M_M_falls : MethodName × ByteArray × Nat × Option FieldType × Nat × Nat × Nat := (⟨RX7, "falls", "(IIII)J"⟩, prog_9_method_74_code, 14, some .long, 7, 4, 4)
def M_M_shares : MethodName × ByteArray × Nat × Option FieldType × Nat × Nat × Nat := (⟨RX7, "shares", "(II)I"⟩, prog_9_method_75_code, 4, some .int, 7, 2, 2)
def M_M_steepestStage : MethodName × ByteArray × Nat × Option FieldType × Nat × Nat × Nat := (⟨RX7, "steepestStage", "()I"⟩, prog_9_method_76_code, 3, some .int, 7, 0, 0)
def M_M_strongest : MethodName × ByteArray × Nat × Option FieldType × Nat × Nat × Nat := (⟨RX7, "strongest", "(I)I"⟩, prog_9_method_77_code, 2, some .int, 7, 2, 1)
def M_M_slopesLeft : MethodName × ByteArray × Nat × Option FieldType × Nat × Nat × Nat := (⟨RX7, "slopesLeft", "()I"⟩, prog_9_method_78_code, 3, some .int, 7, 0, 0)
def M_M_mean : MethodName × ByteArray × Nat × Option FieldType × Nat × Nat × Nat := (⟨RX7, "mean", "(I)J"⟩, prog_9_method_79_code, 2, some .long, 7, 2, 1)
def M_M_spare : MethodName × ByteArray × Nat × Option FieldType × Nat × Nat × Nat := (⟨RX7, "spare", "(I)I"⟩, prog_9_method_80_code, 2, some .int, 7, 2, 1)
def M_M_stuckAt : MethodName × ByteArray × Nat × Option FieldType × Nat × Nat × Nat := (⟨RX7, "stuckAt", "()I"⟩, prog_9_method_81_code, 3, some .int, 7, 2, 0)
def M_M_lameDays : MethodName × ByteArray × Nat × Option FieldType × Nat × Nat × Nat := (⟨RX7, "lameDays", "()I"⟩, prog_9_method_82_code, 5, some .int, 7, 4, 0)
def M_M_height : MethodName × ByteArray × Nat × Option FieldType × Nat × Nat × Nat := (⟨RX7, "height", "(I)I"⟩, prog_9_method_83_code, 2, some .int, 7, 5, 1)
def M_M_eased : MethodName × ByteArray × Nat × Option FieldType × Nat × Nat × Nat := (⟨RX7, "eased", "(I)I"⟩, prog_9_method_84_code, 4, some .int, 7, 6, 1)
def M_M_shoulders : MethodName × ByteArray × Nat × Option FieldType × Nat × Nat × Nat := (⟨RX7, "shoulders", "(I)I"⟩, prog_9_method_85_code, 4, some .int, 7, 1, 1)
def M_M_row : MethodName × ByteArray × Nat × Option FieldType × Nat × Nat × Nat := (⟨RX7, "row", "(I)I"⟩, prog_9_method_86_code, 2, some .int, 7, 1, 1)
def M_M_judge : MethodName × ByteArray × Nat × Option FieldType × Nat × Nat × Nat := (⟨RX7, "judge", "()I"⟩, prog_9_method_87_code, 3, some .int, 7, 0, 0)
def M_M_clear : MethodName × ByteArray × Nat × Option FieldType × Nat × Nat × Nat := (⟨RX7, "clear", "()I"⟩, prog_9_method_88_code, 2, some .int, 7, 0, 0)
def M_M_drawBelow : MethodName × ByteArray × Nat × Option FieldType × Nat × Nat × Nat := (⟨RX7, "drawBelow", "(I)I"⟩, prog_9_method_89_code, 2, some .int, 7, 0, 1)
def M_M_lots : MethodName × ByteArray × Nat × Option FieldType × Nat × Nat × Nat := (⟨RX7, "lots", "(III)I"⟩, prog_9_method_90_code, 9, some .int, 7, 5, 3)
def M_M_count : MethodName × ByteArray × Nat × Option FieldType × Nat × Nat × Nat := (⟨RX7, "count", "(I)I"⟩, prog_9_method_91_code, 2, some .int, 7, 1, 1)
def M_Ch_init : MethodName × ByteArray × Nat × Option FieldType × Nat × Nat × Nat := (⟨RX0, "<init>", "()V"⟩, prog_2_method_1_code, 1, none, 0, 2, 0)
def M_Ch_waysToBeAt : MethodName × ByteArray × Nat × Option FieldType × Nat × Nat × Nat := (⟨RX0, "waysToBeAt", "(LCarriedHome$Realm;III)J"⟩, prog_2_method_2_code, 9, some .long, 0, 4, 4)
def M_Ch_reignsByLot : MethodName × ByteArray × Nat × Option FieldType × Nat × Nat × Nat := (⟨RX0, "reignsByLot", "(LCarriedHome$Realm;IIZ)I"⟩, prog_2_method_3_code, 9, some .int, 0, 5, 4)
def M_Ch_drawDigit : MethodName × ByteArray × Nat × Option FieldType × Nat × Nat × Nat := (⟨RX0, "drawDigit", "()I"⟩, prog_2_method_4_code, 1, some .int, 0, 0, 0)
def M_Co_init : MethodName × ByteArray × Nat × Option FieldType × Nat × Nat × Nat := (⟨RX1, "<init>", "()V"⟩, prog_3_method_1_code, 1, none, 1, 2, 0)
def M_Co_daysToHome : MethodName × ByteArray × Nat × Option FieldType × Nat × Nat × Nat := (⟨RX1, "daysToHome", "(LCarriedHome$Realm;)I"⟩, prog_3_method_2_code, 3, some .int, 1, 4, 1)
def M_Co_daysToDeath : MethodName × ByteArray × Nat × Option FieldType × Nat × Nat × Nat := (⟨RX1, "daysToDeath", "(LCarriedHome$Realm;I)I"⟩, prog_3_method_3_code, 4, some .int, 1, 4, 2)
def M_Co_firstToDie : MethodName × ByteArray × Nat × Option FieldType × Nat × Nat × Nat := (⟨RX1, "firstToDie", "(LCarriedHome$Realm;)I"⟩, prog_3_method_4_code, 4, some .int, 1, 4, 1)
def M_Co_whomToPardon : MethodName × ByteArray × Nat × Option FieldType × Nat × Nat × Nat := (⟨RX1, "whomToPardon", "(LCarriedHome$Realm;I)I"⟩, prog_3_method_5_code, 6, some .int, 1, 5, 2)
def M_Co_fewestToPardon : MethodName × ByteArray × Nat × Option FieldType × Nat × Nat × Nat := (⟨RX1, "fewestToPardon", "(LCarriedHome$Realm;I)I"⟩, prog_3_method_6_code, 6, some .int, 1, 5, 2)
def M_Co_pardonInMind : MethodName × ByteArray × Nat × Option FieldType × Nat × Nat × Nat := (⟨RX1, "pardonInMind", "(I)V"⟩, prog_3_method_7_code, 3, none, 1, 2, 1)
def M_Co_greatestLoad : MethodName × ByteArray × Nat × Option FieldType × Nat × Nat × Nat := (⟨RX1, "greatestLoad", "(LCarriedHome$Realm;I)I"⟩, prog_3_method_8_code, 4, some .int, 1, 5, 2)
def M_Co_whereToDig : MethodName × ByteArray × Nat × Option FieldType × Nat × Nat × Nat := (⟨RX1, "whereToDig", "(LCarriedHome$Realm;I)I"⟩, prog_3_method_9_code, 6, some .int, 1, 5, 2)
def M_Co_cheapestToCondemn : MethodName × ByteArray × Nat × Option FieldType × Nat × Nat × Nat := (⟨RX1, "cheapestToCondemn", "(LCarriedHome$Realm;IZ)I"⟩, prog_3_method_10_code, 7, some .int, 1, 5, 3)
def M_Co_fewestPoles : MethodName × ByteArray × Nat × Option FieldType × Nat × Nat × Nat := (⟨RX1, "fewestPoles", "(LCarriedHome$Realm;)I"⟩, prog_3_method_11_code, 5, some .int, 1, 2, 1)
def M_Co_whoFits : MethodName × ByteArray × Nat × Option FieldType × Nat × Nat × Nat := (⟨RX1, "whoFits", "(LCarriedHome$Realm;LCarriedHome$Row;)I"⟩, prog_3_method_12_code, 5, some .int, 1, 5, 2)
def M_Co_kingGoesAs : MethodName × ByteArray × Nat × Option FieldType × Nat × Nat × Nat := (⟨RX1, "kingGoesAs", "(LCarriedHome$Row;)Z"⟩, prog_3_method_13_code, 3, some .boolean, 1, 4, 1)
def M_Co_kindsThatFit : MethodName × ByteArray × Nat × Option FieldType × Nat × Nat × Nat := (⟨RX1, "kindsThatFit", "(LCarriedHome$Realm;LCarriedHome$Row;I)I"⟩, prog_3_method_14_code, 6, some .int, 1, 5, 3)
def M_Co_figuresThatFit : MethodName × ByteArray × Nat × Option FieldType × Nat × Nat × Nat := (⟨RX1, "figuresThatFit", "(LCarriedHome$Realm;LCarriedHome$Row;I)I"⟩, prog_3_method_15_code, 6, some .int, 1, 5, 3)
def M_Co_isWornAs : MethodName × ByteArray × Nat × Option FieldType × Nat × Nat × Nat := (⟨RX1, "isWornAs", "(LCarriedHome$Row;I)Z"⟩, prog_3_method_16_code, 4, some .boolean, 1, 4, 2)
def M_Co_choiceOfTwo : MethodName × ByteArray × Nat × Option FieldType × Nat × Nat × Nat := (⟨RX1, "choiceOfTwo", "(LCarriedHome$Realm;III)I"⟩, prog_3_method_17_code, 7, some .int, 1, 5, 4)
def M_Co_longestWait : MethodName × ByteArray × Nat × Option FieldType × Nat × Nat × Nat := (⟨RX1, "longestWait", "(LCarriedHome$Realm;)I"⟩, prog_3_method_18_code, 5, some .int, 1, 4, 1)
def M_Co_gainWithoutSnow : MethodName × ByteArray × Nat × Option FieldType × Nat × Nat × Nat := (⟨RX1, "gainWithoutSnow", "(LCarriedHome$Realm;I)I"⟩, prog_3_method_19_code, 4, some .int, 1, 5, 2)
def M_Le_init : MethodName × ByteArray × Nat × Option FieldType × Nat × Nat × Nat := (⟨RX2, "<init>", "()V"⟩, prog_4_method_1_code, 1, none, 2, 1, 0)
def M_Le_isFull : MethodName × ByteArray × Nat × Option FieldType × Nat × Nat × Nat := (⟨RX2, "isFull", "()Z"⟩, prog_4_method_2_code, 1, some .boolean, 2, 0, 0)
def M_Le_add : MethodName × ByteArray × Nat × Option FieldType × Nat × Nat × Nat := (⟨RX2, "add", "(I)V"⟩, prog_4_method_3_code, 2, none, 2, 0, 1)
def M_Le_forget : MethodName × ByteArray × Nat × Option FieldType × Nat × Nat × Nat := (⟨RX2, "forget", "()V"⟩, prog_4_method_4_code, 1, none, 2, 0, 0)
def M_Le_at : MethodName × ByteArray × Nat × Option FieldType × Nat × Nat × Nat := (⟨RX2, "at", "(I)I"⟩, prog_4_method_5_code, 2, some .int, 2, 0, 1)
def M_Le_isDigit : MethodName × ByteArray × Nat × Option FieldType × Nat × Nat × Nat := (⟨RX2, "isDigit", "(I)Z"⟩, prog_4_method_6_code, 2, some .boolean, 2, 1, 1)
def M_Le_digit : MethodName × ByteArray × Nat × Option FieldType × Nat × Nat × Nat := (⟨RX2, "digit", "(I)I"⟩, prog_4_method_7_code, 2, some .int, 2, 2, 1)
def M_Le_twoDigits : MethodName × ByteArray × Nat × Option FieldType × Nat × Nat × Nat := (⟨RX2, "twoDigits", "(I)I"⟩, prog_4_method_8_code, 2, some .int, 2, 3, 1)
def M_Le_digitsBehind : MethodName × ByteArray × Nat × Option FieldType × Nat × Nat × Nat := (⟨RX2, "digitsBehind", "(I)I"⟩, prog_4_method_9_code, 1, some .int, 2, 0, 1)
def M_Le_lengthOf : MethodName × ByteArray × Nat × Option FieldType × Nat × Nat × Nat := (⟨RX2, "lengthOf", "(I)I"⟩, prog_4_method_10_code, 1, some .int, 2, 1, 1)
def M_Le_faultOfForm : MethodName × ByteArray × Nat × Option FieldType × Nat × Nat × Nat := (⟨RX2, "faultOfForm", "()I"⟩, prog_4_method_11_code, 4, some .int, 2, 2, 0)
def M_Pa_init : MethodName × ByteArray × Nat × Option FieldType × Nat × Nat × Nat := (⟨RX3, "<init>", "()V"⟩, prog_5_method_1_code, 2, none, 3, 2, 0)
def M_Pa_remember : MethodName × ByteArray × Nat × Option FieldType × Nat × Nat × Nat := (⟨RX3, "remember", "(LCarriedHome$Realm;)V"⟩, prog_5_method_2_code, 2, none, 3, 2, 1)
def M_Pa_dropOldest : MethodName × ByteArray × Nat × Option FieldType × Nat × Nat × Nat := (⟨RX3, "dropOldest", "()V"⟩, prog_5_method_3_code, 3, none, 3, 0, 0)
def M_Pa_takeBack : MethodName × ByteArray × Nat × Option FieldType × Nat × Nat × Nat := (⟨RX3, "takeBack", "(LCarriedHome$Realm;)V"⟩, prog_5_method_4_code, 2, none, 3, 2, 1)
def M_Pa_forget : MethodName × ByteArray × Nat × Option FieldType × Nat × Nat × Nat := (⟨RX3, "forget", "()V"⟩, prog_5_method_5_code, 1, none, 3, 0, 0)
def M_Re_init : MethodName × ByteArray × Nat × Option FieldType × Nat × Nat × Nat := (⟨RX4, "<init>", "()V"⟩, prog_6_method_1_code, 2, none, 4, 1, 0)
def M_Re_become : MethodName × ByteArray × Nat × Option FieldType × Nat × Nat × Nat := (⟨RX4, "become", "(LCarriedHome$Realm;)V"⟩, prog_6_method_2_code, 2, none, 4, 1, 1)
def M_Re_has : MethodName × ByteArray × Nat × Option FieldType × Nat × Nat × Nat := (⟨RX4, "has", "(I)Z"⟩, prog_6_method_3_code, 2, some .boolean, 4, 0, 1)
def M_Re_kindOf : MethodName × ByteArray × Nat × Option FieldType × Nat × Nat × Nat := (⟨RX4, "kindOf", "(I)I"⟩, prog_6_method_4_code, 2, some .int, 4, 1, 1)
def M_Re_figureOf : MethodName × ByteArray × Nat × Option FieldType × Nat × Nat × Nat := (⟨RX4, "figureOf", "(I)I"⟩, prog_6_method_5_code, 2, some .int, 4, 1, 1)
def M_Re_fateOf : MethodName × ByteArray × Nat × Option FieldType × Nat × Nat × Nat := (⟨RX4, "fateOf", "(I)I"⟩, prog_6_method_6_code, 2, some .int, 4, 1, 1)
def M_Re_wornOf : MethodName × ByteArray × Nat × Option FieldType × Nat × Nat × Nat := (⟨RX4, "wornOf", "(I)I"⟩, prog_6_method_7_code, 2, some .int, 4, 1, 1)
def M_Re_slopeOf : MethodName × ByteArray × Nat × Option FieldType × Nat × Nat × Nat := (⟨RX4, "slopeOf", "(I)I"⟩, prog_6_method_8_code, 2, some .int, 4, 0, 1)
def M_Re_makeKind : MethodName × ByteArray × Nat × Option FieldType × Nat × Nat × Nat := (⟨RX4, "makeKind", "(II)V"⟩, prog_6_method_9_code, 3, none, 4, 1, 2)
def M_Re_makeFigure : MethodName × ByteArray × Nat × Option FieldType × Nat × Nat × Nat := (⟨RX4, "makeFigure", "(II)V"⟩, prog_6_method_10_code, 3, none, 4, 1, 2)
def M_Re_makeFate : MethodName × ByteArray × Nat × Option FieldType × Nat × Nat × Nat := (⟨RX4, "makeFate", "(II)V"⟩, prog_6_method_11_code, 3, none, 4, 1, 2)
def M_Re_isHome : MethodName × ByteArray × Nat × Option FieldType × Nat × Nat × Nat := (⟨RX4, "isHome", "()Z"⟩, prog_6_method_12_code, 1, some .boolean, 4, 0, 0)
def M_Re_takesIn : MethodName × ByteArray × Nat × Option FieldType × Nat × Nat × Nat := (⟨RX4, "takesIn", "(II)Z"⟩, prog_6_method_13_code, 3, some .boolean, 4, 1, 2)
def M_Re_turns : MethodName × ByteArray × Nat × Option FieldType × Nat × Nat × Nat := (⟨RX4, "turns", "(I)Z"⟩, prog_6_method_14_code, 2, some .boolean, 4, 1, 1)
def M_Re_levels : MethodName × ByteArray × Nat × Option FieldType × Nat × Nat × Nat := (⟨RX4, "levels", "(II)Z"⟩, prog_6_method_15_code, 3, some .boolean, 4, 1, 2)
def M_Re_menWhoAre : MethodName × ByteArray × Nat × Option FieldType × Nat × Nat × Nat := (⟨RX4, "menWhoAre", "(I)I"⟩, prog_6_method_16_code, 4, some .int, 4, 0, 1)
def M_Re_bears : MethodName × ByteArray × Nat × Option FieldType × Nat × Nat × Nat := (⟨RX4, "bears", "(I)I"⟩, prog_6_method_17_code, 4, some .int, 4, 0, 1)
def M_Re_wears : MethodName × ByteArray × Nat × Option FieldType × Nat × Nat × Nat := (⟨RX4, "wears", "(II)I"⟩, prog_6_method_18_code, 4, some .int, 4, 1, 2)
def M_Re_isFeudAmong : MethodName × ByteArray × Nat × Option FieldType × Nat × Nat × Nat := (⟨RX4, "isFeudAmong", "(I)Z"⟩, prog_6_method_19_code, 3, some .boolean, 4, 0, 1)
def M_Re_lasts : MethodName × ByteArray × Nat × Option FieldType × Nat × Nat × Nat := (⟨RX4, "lasts", "(I)I"⟩, prog_6_method_20_code, 2, some .int, 4, 0, 1)
def M_Re_needed : MethodName × ByteArray × Nat × Option FieldType × Nat × Nat × Nat := (⟨RX4, "needed", "()I"⟩, prog_6_method_21_code, 1, some .int, 4, 1, 0)
def M_Re_strengthOf : MethodName × ByteArray × Nat × Option FieldType × Nat × Nat × Nat := (⟨RX4, "strengthOf", "(I)I"⟩, prog_6_method_22_code, 4, some .int, 4, 1, 1)
def M_Re_strongestBut : MethodName × ByteArray × Nat × Option FieldType × Nat × Nat × Nat := (⟨RX4, "strongestBut", "(I)I"⟩, prog_6_method_23_code, 5, some .int, 4, 1, 1)
def M_Re_bearers : MethodName × ByteArray × Nat × Option FieldType × Nat × Nat × Nat := (⟨RX4, "bearers", "()I"⟩, prog_6_method_24_code, 5, some .int, 4, 2, 0)
def M_Re_waitsOneDay : MethodName × ByteArray × Nat × Option FieldType × Nat × Nat × Nat := (⟨RX4, "waitsOneDay", "()Z"⟩, prog_6_method_25_code, 2, some .boolean, 4, 3, 0)
def M_Re_passDays : MethodName × ByteArray × Nat × Option FieldType × Nat × Nat × Nat := (⟨RX4, "passDays", "(I)I"⟩, prog_6_method_26_code, 4, some .int, 4, 4, 1)
def M_Re_wearOut : MethodName × ByteArray × Nat × Option FieldType × Nat × Nat × Nat := (⟨RX4, "wearOut", "(I)V"⟩, prog_6_method_27_code, 3, none, 4, 2, 1)
def M_Re_buryTheWornOut : MethodName × ByteArray × Nat × Option FieldType × Nat × Nat × Nat := (⟨RX4, "buryTheWornOut", "()V"⟩, prog_6_method_28_code, 2, none, 4, 1, 0)
def M_Re_snowMore : MethodName × ByteArray × Nat × Option FieldType × Nat × Nat × Nat := (⟨RX4, "snowMore", "(I)V"⟩, prog_6_method_29_code, 2, none, 4, 1, 1)
def M_Re_slopesAhead : MethodName × ByteArray × Nat × Option FieldType × Nat × Nat × Nat := (⟨RX4, "slopesAhead", "()I"⟩, prog_6_method_30_code, 3, some .int, 4, 1, 0)
def M_Re_steepest : MethodName × ByteArray × Nat × Option FieldType × Nat × Nat × Nat := (⟨RX4, "steepest", "()I"⟩, prog_6_method_31_code, 3, some .int, 4, 1, 0)
def M_Re_firstTooSteep : MethodName × ByteArray × Nat × Option FieldType × Nat × Nat × Nat := (⟨RX4, "firstTooSteep", "()I"⟩, prog_6_method_32_code, 3, some .int, 4, 2, 0)
def M_Re_twosInStep : MethodName × ByteArray × Nat × Option FieldType × Nat × Nat × Nat := (⟨RX4, "twosInStep", "()I"⟩, prog_6_method_33_code, 5, some .int, 4, 2, 0)
def M_Re_oneWhoBears : MethodName × ByteArray × Nat × Option FieldType × Nat × Nat × Nat := (⟨RX4, "oneWhoBears", "(II)I"⟩, prog_6_method_34_code, 4, some .int, 4, 1, 2)
def M_Re_howManyOwe : MethodName × ByteArray × Nat × Option FieldType × Nat × Nat × Nat := (⟨RX4, "howManyOwe", "()I"⟩, prog_6_method_35_code, 3, some .int, 4, 0, 0)
def M_Re_pardonedOfKind : MethodName × ByteArray × Nat × Option FieldType × Nat × Nat × Nat := (⟨RX4, "pardonedOfKind", "(I)I"⟩, prog_6_method_36_code, 4, some .int, 4, 0, 1)
def M_Ro_init : MethodName × ByteArray × Nat × Option FieldType × Nat × Nat × Nat := (⟨RX5, "<init>", "()V"⟩, prog_7_method_1_code, 1, none, 5, 1, 0)
def M_Ro_isFull : MethodName × ByteArray × Nat × Option FieldType × Nat × Nat × Nat := (⟨RX5, "isFull", "()Z"⟩, prog_7_method_2_code, 1, some .boolean, 5, 0, 0)
def M_Ro_add : MethodName × ByteArray × Nat × Option FieldType × Nat × Nat × Nat := (⟨RX5, "add", "(I)V"⟩, prog_7_method_3_code, 2, none, 5, 0, 1)
def M_Ro_at : MethodName × ByteArray × Nat × Option FieldType × Nat × Nat × Nat := (⟨RX5, "at", "(I)I"⟩, prog_7_method_4_code, 2, some .int, 5, 0, 1)
def M_Ro_forget : MethodName × ByteArray × Nat × Option FieldType × Nat × Nat × Nat := (⟨RX5, "forget", "()V"⟩, prog_7_method_5_code, 1, none, 5, 0, 0)
def M_In_bitCount : MethodName × ByteArray × Nat × Option FieldType × Nat × Nat × Nat := (⟨"java/lang/Integer", "bitCount", "(I)I"⟩, prog_10_method_49_code, 1, some .int, 8, 0, 1)
end
/-! kit -/
section
/-! ===== the abstract machine: references are written numbers, an address stands for each; cells: an int array, an array of references, an object ===== -/
abbrev AC : Type := (Nat × (Nat → Int32)) ⊕ ((Nat × (Nat → Option Nat)) ⊕ (Nat × List Value))
abbrev AH : Type := Nat → Option AC
/-- a method: name, code, locals, what it returns, class number, depth of its calls, parameters -/
abbrev MD : Type := MethodName × ByteArray × Nat × Option FieldType × Nat × Nat × Nat
abbrev mY (M : MD) : MethodName := M.1
abbrev mB (M : MD) : ByteArray := M.2.1
abbrev mL (M : MD) : Nat := M.2.2.1
abbrev mR (M : MD) : Option FieldType := M.2.2.2.1
abbrev mO (M : MD) : Nat := M.2.2.2.2.1
abbrev mD (M : MD) : Nat := M.2.2.2.2.2.1
abbrev mN (M : MD) : Nat := M.2.2.2.2.2.2
def WT : List Cond := lw_tbl.filter goodWord
theorem WT_good : GoodIn WT WT := fun w hw => ⟨hw, good_of_word (List.mem_filter.mp hw).2⟩
theorem WT_lw {w : Cond} (h : w ∈ WT) : w ∈ lw_tbl := (List.mem_filter.mp h).1
theorem lw_WT {w : Cond} (h : w ∈ lw_tbl) (hg : goodWord w = true) : w ∈ WT := List.mem_filter.mpr ⟨h, hg⟩
/-- the nest mates' words: they are no words of a method's head, but go with its start -/
def isNest : Cond → Bool
  | .fieldLinkNest _ _ _ _ _ _ => true
  | .methodLinkNest _ _ _ _ => true
  | _ => false
def NT : List Cond := lw_tbl.filter isNest
theorem lw_NT {w : Cond} (h : w ∈ lw_tbl) (hg : isNest w = true) : w ∈ NT := List.mem_filter.mpr ⟨h, hg⟩
def NW (U : State) : Prop := ∀ w ∈ NT, va_Nw w U
theorem NW.warm {s U : State} (hW : s.WarmedH U.vm) (h : NW s) : NW U := by
  intro w hw
  have h1 := (List.mem_filter.mp hw).2
  have h2 := h w hw
  cases w <;> first | exact absurd h1 Bool.false_ne_true | exact va_Nw.warmF hW h2 | exact va_Nw.warmM hW h2
theorem NW.same {s U : State} (hv : s.vm = U.vm) (h : NW s) : NW U := by
  intro w hw
  have h1 := (List.mem_filter.mp hw).2
  have h2 := h w hw
  cases w <;> first | exact absurd h1 Bool.false_ne_true | exact va_Nw.same rfl hv h2
theorem NW.of {A : Array Value} {s : State} (h : ∀ w ∈ lw_tbl, w.before A s = true) : NW s := by
  intro w hw
  obtain ⟨h2, h1⟩ := List.mem_filter.mp hw
  have h3 := h w h2
  cases w <;> first | exact absurd h1 Bool.false_ne_true | exact va_Nw.of rfl h3
def cv (σ : Nat → Nat) : Value → Value
  | .ref k => .ref (σ k)
  | v => v
def ce (cI cR : ClassId) (σ : Nat → Nat) : AC → va_E
  | .inl (n, f) => .inl (cI, n, .inl f)
  | .inr (.inl (n, f)) => .inl (cR, n, .inr (.inr (.inr (.inr (fun i => (f i).map σ)))))
  | .inr (.inr (ci, fs)) => .inr (ci, fs.map (cv σ))
def wd (cI cR : ClassId) (σ : Nat → Nat) (N : Nat) (h : AH) : va_W := (List.range N).map fun k => (σ k, ce cI cR σ ((h k).getD (.inl (0, fun _ => 0))))
def hU (h : AH) (k : Nat) (c : AC) : AH := fun j => if j = k then some c else h j
def hB (N : Nat) (h : AH) : Prop := ∀ k, N ≤ k → h k = none
theorem hB_lt {N k : Nat} {h : AH} {c : AC} (hb : hB N h) (hk : h k = some c) : k < N := by
  rcases Nat.lt_or_ge k N with q | q
  · exact q
  · rw [hb k q] at hk
    cases hk
theorem hB_U {N k : Nat} {h : AH} {c : AC} (hb : hB N h) (hk : k < N) : hB N (hU h k c) := by
  intro j hj
  simp only [hU]
  rw [if_neg (by omega)]
  exact hb j hj
theorem wd_get {cI cR : ClassId} {σ : Nat → Nat} {N k : Nat} {h : AH} {c : AC} (hb : hB N h) (hk : h k = some c) : (wd cI cR σ N h)[k]? = some (σ k, ce cI cR σ c) := by
  have hl := hB_lt hb hk
  simp [wd, hl, hk]
theorem wd_set {cI cR : ClassId} {σ : Nat → Nat} {N k : Nat} {h : AH} (c : AC) (hk : k < N) : (wd cI cR σ N h).set k (σ k, ce cI cR σ c) = wd cI cR σ N (hU h k c) := by
  apply List.ext_getElem?
  intro j
  by_cases hj : j = k
  · subst hj
    simp [wd, hU, hk]
  · rw [List.getElem?_set_ne (fun q => hj q.symm)]
    by_cases hl : j < N
    · simp [wd, hU, hl, hj]
    · simp [wd, hU, Nat.not_lt.mp hl]
/-! locals -/
def ldV : List (Option Value) → Nat → Option Value
  | [], _ => none
  | x :: _, 0 => x
  | _ :: t, n + 1 => ldV t n
def killL : Option Value → Option Value
  | some (.long _) => none
  | some (.double _) => none
  | y => y
def clL : List (Option Value) → Nat → List (Option Value)
  | [], _ => []
  | _ :: t, 0 => none :: t
  | x :: t, n + 1 => x :: clL t n
def stL : List (Option Value) → Nat → Value → List (Option Value)
  | [], _, _ => []
  | _ :: t, 0, v => some v :: t
  | [x], _ + 1, _ => [killL x]
  | x :: _ :: t, 1, v => killL x :: some v :: t
  | x :: y :: t, n + 2, v => x :: stL (y :: t) (n + 1) v
theorem stL_len (L : List (Option Value)) (i : Nat) (v : Value) : (stL L i v).length = L.length := by
  fun_induction stL L i v <;> simp_all
theorem clL_len (L : List (Option Value)) (i : Nat) : (clL L i).length = L.length := by
  fun_induction clL L i <;> simp_all
theorem ldV_lt {L : List (Option Value)} {i : Nat} {v : Value} (h : ldV L i = some v) : i < L.length := by
  fun_induction ldV L i <;> simp_all
theorem ldV_clL (L : List (Option Value)) (i j : Nat) {v : Value} (h : ldV (clL L i) j = some v) : j ≠ i ∧ ldV L j = some v := by
  induction L generalizing i j with
  | nil => simp [clL, ldV] at h
  | cons x t ih =>
    cases i with
    | zero =>
      cases j with
      | zero => simp [clL, ldV] at h
      | succ j => simpa [clL, ldV] using h
    | succ i =>
      cases j with
      | zero => simpa [clL, ldV] using h
      | succ j =>
        have := ih i j (by simpa [clL, ldV] using h)
        simpa [ldV] using this
theorem killL_cat {x : Option Value} {v : Value} (h : killL x = some v) : x = some v ∧ v.category ≠ 2 := by
  cases x with
  | none => simp [killL] at h
  | some y => cases y <;> simp_all [killL, Value.category] <;> (subst h; simp [Value.category])
theorem ldV_stL (L : List (Option Value)) (i j : Nat) (v0 : Value) {v : Value} (h : ldV (stL L i v0) j = some v) : (j = i ∧ v = v0) ∨ (j ≠ i ∧ ldV L j = some v ∧ (j + 1 = i → v.category ≠ 2)) := by
  fun_induction stL L i v0 generalizing j with
  | case1 => simp [ldV] at h
  | case2 x t v =>
    cases j with
    | zero => left; simpa [ldV, eq_comm] using h
    | succ j => right; simpa [ldV] using h
  | case3 x n v' =>
    cases j with
    | zero =>
      right
      have h1 : killL x = some v := by simpa [ldV] using h
      obtain ⟨h2, h3⟩ := killL_cat h1
      exact ⟨by omega, by simpa [ldV] using h2, fun _ => h3⟩
    | succ j => simp [ldV] at h
  | case4 x y t v' =>
    cases j with
    | zero =>
      right
      have h1 : killL x = some v := by simpa [ldV] using h
      obtain ⟨h2, h3⟩ := killL_cat h1
      exact ⟨by omega, by simpa [ldV] using h2, fun _ => h3⟩
    | succ j =>
      cases j with
      | zero => left; simpa [ldV, eq_comm] using h
      | succ j => right; exact ⟨by omega, by simpa [ldV] using h, fun q => by omega⟩
  | case5 x y t n v' ih =>
    cases j with
    | zero => right; exact ⟨by omega, by simpa [ldV] using h, fun q => by omega⟩
    | succ j =>
      rcases ih (j := j) (by simpa [ldV] using h) with ⟨h1, h2⟩ | ⟨h1, h2, h3⟩
      · left; exact ⟨by omega, h2⟩
      · right; exact ⟨by omega, by simpa [ldV] using h2, fun q => h3 (by omega)⟩
theorem cv_cat (σ : Nat → Nat) (v : Value) : (cv σ v).category = v.category := by cases v <;> rfl
def LL (σ : Nat → Nat) (lsA : Array Slot) (n : Nat) (L : List (Option Value)) : Prop := lsA.size = n ∧ lv_wf lsA ∧ L.length = n ∧ ∀ (i : Nat) (v : Value), ldV L i = some v → lsA[i]? = some (.val (cv σ v))
def asc (σ : Nat → Nat) (L : List (Option Value)) : List (Nat × Value) := (List.range L.length).filterMap fun i => (ldV L i).map fun v => (i, cv σ v)
theorem asc_mem {σ : Nat → Nat} {L : List (Option Value)} {q : Nat × Value} : q ∈ asc σ L ↔ ∃ v, ldV L q.1 = some v ∧ q.2 = cv σ v := by
  simp only [asc, List.mem_filterMap, List.mem_range, Option.map_eq_some_iff]
  constructor
  · rintro ⟨i, _, v, hv, rfl⟩
    exact ⟨v, hv, rfl⟩
  · rintro ⟨v, hv, he⟩
    exact ⟨q.1, ldV_lt hv, v, hv, by rw [← he]⟩
theorem LL.has {σ : Nat → Nat} {lsA : Array Slot} {n : Nat} {L : List (Option Value)} (h : LL σ lsA n L) : lv_has lsA n (asc σ L) := by
  refine ⟨h.1, h.2.1, fun q hq => ?_⟩
  obtain ⟨v, h1, h2⟩ := asc_mem.mp hq
  rw [h2]
  exact h.2.2.2 _ _ h1
theorem LL.st1 {σ : Nat → Nat} {lsA lsB : Array Slot} {n i : Nat} {L : List (Option Value)} {v : Value} {w : Value} (hw : w = cv σ v) (h : LL σ lsA n L) (h1 : lv_has lsB n ((i, w) :: (asc σ L).filter (fun q => !(q.1 == i) && !(q.1 + 1 == i && q.2.category == 2)))) : LL σ lsB n (stL L i v) := by
  subst hw
  refine ⟨h1.1, h1.2.1, by rw [stL_len]; exact h.2.2.1, fun j u hj => ?_⟩
  rcases ldV_stL L i j v hj with ⟨e1, e2⟩ | ⟨e1, e2, e3⟩
  · subst e1; subst e2
    exact h1.2.2 (j, cv σ u) List.mem_cons_self
  · refine h1.2.2 (j, cv σ u) (List.mem_cons_of_mem _ (List.mem_filter.mpr ⟨asc_mem.mpr ⟨u, e2, rfl⟩, ?_⟩))
    by_cases hji : j + 1 = i
    · have := e3 hji
      simp [e1, cv_cat, this]
    · simp [e1, hji]
theorem LL.st2 {σ : Nat → Nat} {lsA lsB : Array Slot} {n i : Nat} {L : List (Option Value)} {v : Value} {w : Value} (hw : w = cv σ v) (h : LL σ lsA n L) (h1 : lv_has lsB n ((i, w) :: (asc σ L).filter (fun q => !(q.1 == i) && (!(q.1 == i + 1) && !(q.1 + 1 == i && q.2.category == 2))))) : LL σ lsB n (clL (stL L i v) (i + 1)) := by
  subst hw
  refine ⟨h1.1, h1.2.1, by rw [clL_len, stL_len]; exact h.2.2.1, fun j u hj => ?_⟩
  obtain ⟨hne, hj⟩ := ldV_clL _ _ _ hj
  rcases ldV_stL L i j v hj with ⟨e1, e2⟩ | ⟨e1, e2, e3⟩
  · subst e1; subst e2
    exact h1.2.2 (j, cv σ u) List.mem_cons_self
  · refine h1.2.2 (j, cv σ u) (List.mem_cons_of_mem _ (List.mem_filter.mpr ⟨asc_mem.mpr ⟨u, e2, rfl⟩, ?_⟩))
    by_cases hji : j + 1 = i
    · have := e3 hji
      simp [e1, hne, cv_cat, this]
    · simp [e1, hne, hji]
/-! the judgement: from here the method comes to its end, with Q of its answer and of the cells -/
abbrev tyz (cI cR : ClassId) : List (ClassId × FieldType) := [(cI, .int), (cR, .object RX4)]
def rmd (d : Nat) : Room := { frames := d, cells := 0, slots := 0, locals := 40 * d }
def Fix (M : MD) (p : Program) (s : State) (m : MethodId) (args : Array Value) (meth : Method) (c : Code) (G : va_G) (cI cR : ClassId) (A : Nat → Prop) : Prop :=
  p.tables.exec = Jvm.exec ∧ c.code = mB M ∧ meth.sig.returnType = mR M ∧ c.maxLocals = mL M ∧ s.vm.findClass (cnm (mO M)) = some m.cls ∧ meth.locks = false ∧ (∀ w ∈ WT, w.before args s = true) ∧ va_K G vwCl (tyz cI cR) s ∧ (∀ q, s.heap.size ≤ q → A q) ∧ NW s
def Dyn (s : State) (G : va_G) (cI cR : ClassId) (σ : Nat → Nat) (N : Nat) (A : Nat → Prop) (h : AH) (H : Heap) (locs : List Loc) : Prop :=
  va_P G vwCl (wd cI cR σ N h) H ∧ va_D A (wd cI cR σ N h) ∧ va_S A s.heap H locs ∧ hB N h
def QC (G : va_G) (cI cR : ClassId) (σ : Nat → Nat) (N : Nat) (A : Nat → Prop) (Q : Option Value → AH → Prop) : Array Value → State → Outcome → State → Prop := fun _ st oc t =>
  (∃ (v : Option Value) (h' : AH), Q v h' ∧ oc = .returned (v.map (cv σ)) ∧ va_P G vwCl (wd cI cR σ N h') t.heap ∧ va_K G vwCl (tyz cI cR) t ∧ va_D A (wd cI cR σ N h') ∧ hB N h') ∧ va_F A st t
def J (M : MD) (pc : Nat) (L : List (Option Value)) (st : List Value) (h : AH) (Q : Option Value → AH → Prop) : Prop :=
  ∀ (p : Program) (l : Launch) (e : Env) (s : State) (m : MethodId) (args : Array Value) (below : List Frame) (meth : Method) (c : Code) (H : Heap) (locs : List Loc) (G : va_G) (cI cR : ClassId) (σ : Nat → Nat) (N : Nat) (A : Nat → Prop) (lsA : Array Slot),
    Fix M p s m args meth c G cI cR A → Dyn s G cI cR σ N A h H locs → LL σ lsA (mL M) L →
    W p l e (rmd (mD M)) s m args below meth c H locs 0 0 (MQ below (QC G cI cR σ N A Q) args s 0 0 A) (F0 m pc lsA (st.map (cv σ)))
def preC1 (G : va_G) (cI cR : ClassId) (σ : Nat → Nat) (N sz : Nat) (h : AH) (U : State) : Prop := U.heap.size = sz ∧ va_P G vwCl (wd cI cR σ N h) U.heap ∧ va_K G vwCl (tyz cI cR) U ∧ va_D (fun _ => True) (wd cI cR σ N h) ∧ NW U
def wsM (M : MD) : List Cond := .code (mY M) (mB M) (mL M) (mR M) :: WT
def Con (M : MD) (as : List Value) (h : AH) (Q : Option Value → AH → Prop) : Prop :=
  ∀ (l : Launch) (G : va_G) (cI cR : ClassId) (σ : Nat → Nat) (N sz : Nat), hB N h →
    Met l (mY M) (wsM M) (rmd (mD M)) (va_Pc (as.map (cv σ)) (preC1 G cI cR σ N sz h)) (QC G cI cR σ N (va_A (wd cI cR σ N h) sz) Q) 0 0 (va_A (wd cI cR σ N h) sz)
/-! a method's own facts -/
def clsOk (c : Nat) : Prop := plainName (cnm c) = true ∧ cnm c ≠ "java/lang/invoke/MethodHandle" ∧ cnm c ≠ "java/lang/invoke/VarHandle" ∧ (.initialized (cnm c) : Cond) ∈ WT
def descOk (d : String) (n : Nat) : Prop := (parseMethodDescriptor d).map (fun d => d.parameters.length) = some n
def okM (M : MD) : Prop := (.code (mY M) (mB M) (mL M) (mR M) : Cond) ∈ WT ∧ (mY M).cls = cnm (mO M) ∧ clsOk (mO M) ∧ descOk (mY M).desc (mN M) ∧ mL M ≤ 21
theorem okM_sp {M : MD} (h : okM M) : (.code (mY M) (mB M) (mL M) (mR M) : Cond) ∈ WT ∧ (.initialized (mY M).cls : Cond) ∈ WT ∧ plainName (mY M).cls = true ∧ (mY M).cls = cnm (mO M) ∧ ((mY M).cls ≠ "java/lang/invoke/MethodHandle" ∧ (mY M).cls ≠ "java/lang/invoke/VarHandle") ∧ (parseMethodDescriptor (mY M).desc).map (fun d => d.parameters.length) = some (mN M) ∧ mL M ≤ 21 := by
  obtain ⟨h1, h2, ⟨h3, h4, h5, h6⟩, h7, h8⟩ := h
  rw [h2]
  exact ⟨h1, h6, h3, rfl, ⟨h4, h5⟩, h7, h8⟩
def argL : List Value → List (Option Value)
  | [] => []
  | v :: vs => if v.category = 2 then some v :: none :: argL vs else some v :: argL vs
def entL (n : Nat) (as : List Value) : List (Option Value) := argL as ++ List.replicate (n - (argL as).length) none
theorem argL_len (σ : Nat → Nat) (as : List Value) : (lg_sl (as.map (cv σ))).length = (argL as).length := by
  induction as with
  | nil => rfl
  | cons v vs ih =>
    simp only [lg_sl, List.map_cons, List.flatMap_cons, List.length_append, argL, cv_cat] at ih ⊢
    by_cases hc : v.category = 2
    · simp only [hc, if_true, List.length_cons, List.length_nil]
      omega
    · simp only [hc, if_false, List.length_cons, List.length_nil]
      omega
theorem ldV_app (a b : List (Option Value)) (j : Nat) : ldV (a ++ b) j = if j < a.length then ldV a j else ldV b (j - a.length) := by
  induction a generalizing j with
  | nil => simp
  | cons x t ih =>
    cases j with
    | zero => simp [ldV]
    | succ j =>
      simp only [List.cons_append, ldV, List.length_cons]
      rw [ih]
      by_cases hj : j < t.length
      · rw [if_pos hj, if_pos (by omega)]
      · rw [if_neg hj, if_neg (by omega)]
        congr 1
        omega
theorem ldV_rep (n j : Nat) : ldV (List.replicate n none) j = none := by
  induction n generalizing j with
  | zero => simp [ldV]
  | succ n ih => cases j <;> simp [List.replicate_succ, ldV, ih]
theorem argL_in (σ : Nat → Nat) (as : List Value) (o j : Nat) (v : Value) (h : ldV (argL as) j = some v) : (o + j, cv σ v) ∈ lv_args o (as.map (cv σ)) := by
  induction as generalizing o j with
  | nil => simp [argL, ldV] at h
  | cons x t ih =>
    simp only [argL] at h
    simp only [List.map_cons, lv_args, cv_cat]
    by_cases hc : x.category = 2
    · simp only [hc, if_true] at h ⊢
      match j, h with
      | 0, h =>
        simp only [ldV, Option.some.injEq] at h
        subst h
        simp
      | 1, h => simp [ldV] at h
      | j + 2, h =>
        have := ih (o + 2) j (by simpa [ldV] using h)
        rw [show o + (j + 2) = o + 2 + j by omega]
        exact List.mem_cons_of_mem _ this
    · simp only [hc, if_false] at h ⊢
      match j, h with
      | 0, h =>
        simp only [ldV, Option.some.injEq] at h
        subst h
        simp
      | j + 1, h =>
        have := ih (o + 1) j (by simpa [ldV] using h)
        rw [show o + (j + 1) = o + 1 + j by omega]
        exact List.mem_cons_of_mem _ this
theorem g8_ {M : MD} {as : List Value} {h : AH} {Q : Option Value → AH → Prop} {L : List (Option Value)} (hM : okM M) (hn : (argL as).length ≤ mL M) (hL : entL (mL M) as = L) (k : J M 0 L [] h Q) : Con M as h Q := by
  intro l G cI cR σ N sz hb
  obtain ⟨h1, h2, h3, h4, h5, h6, h7⟩ := okM_sp hM
  refine Met.ofW (cc := mB M) (maxL := mL M) (ret := mR M) h3 rfl ?_
  intro p e s m args below meth c s₁ B hml hv
  obtain ⟨rfl, hsz, hP, hK, hD0, hNW⟩ := hv
  have hts := atoms_spec (ws := wsM M) B.pre
  have hown : s.vm.findClass (cnm (mO M)) = some m.cls := by rw [← h4]; exact findClass_of_methodNamed B.named
  have hlen := argL_len σ as
  have hent := lv_entry (as.map (cv σ)) (n := mL M) (by rw [hlen]; exact hn)
  rw [lg_entry_eq]
  refine k p l e s m _ below meth c s.heap [] G cI cR σ N _ _ ⟨B.exec, B.bytes, B.returns, hml, hown, B.notSynchronized, fun w hw => hts w (List.mem_cons_of_mem _ hw), hK, fun q hq => Or.inr (by rw [← hsz]; exact hq), hNW⟩ ⟨hP, hD0.self, va_S.rf, hb⟩ ?_
  refine ⟨hent.1, hent.2.1, ?_, fun i v hi => ?_⟩
  · rw [← hL]
    simp only [entL, List.length_append, List.length_replicate]
    omega
  · rw [← hL] at hi
    simp only [entL] at hi
    rw [ldV_app] at hi
    by_cases hi2 : i < (argL as).length
    · rw [if_pos hi2] at hi
      have := argL_in σ as 0 i v hi
      rw [Nat.zero_add] at this
      exact hent.2.2 _ this
    · rw [if_neg hi2, ldV_rep] at hi
      cases hi
end
/-! rows -/
section
/-! ===== what an instruction does ===== -/
abbrev INF : Type := (Nat × Nat × Int × List Nat) ⊕ (Nat × Nat × MD)
abbrev KK : Type := List (Option Value) → List Value → AH → Prop
def zI (z : Int) : Int32 := Int32.ofInt z
def zJ (z : Int) : Int64 := Int64.ofInt z
def gI : Option Value → (Int32 → Prop) → Prop
  | some (.int x), k => k x
  | _, _ => False
def gJ : Option Value → (Int64 → Prop) → Prop
  | some (.long x), k => k x
  | _, _ => False
def gA : Option Value → (Nat → Prop) → Prop
  | some (.ref x), k => k x
  | _, _ => False
def p1 : List Value → (Int32 → List Value → Prop) → Prop
  | .int x :: st, k => k x st
  | _, _ => False
def p2 : List Value → (Int32 → Int32 → List Value → Prop) → Prop
  | .int y :: .int x :: st, k => k x y st
  | _, _ => False
def pJ : List Value → (Int64 → List Value → Prop) → Prop
  | .long x :: st, k => k x st
  | _, _ => False
def q2 : List Value → (Int64 → Int64 → List Value → Prop) → Prop
  | .long y :: .long x :: st, k => k x y st
  | _, _ => False
def pA : List Value → (Nat → List Value → Prop) → Prop
  | .ref x :: st, k => k x st
  | _, _ => False
/-- one value, of one word -/
def pV : List Value → (Value → List Value → Prop) → Prop
  | .int x :: st, k => k (.int x) st
  | .ref x :: st, k => k (.ref x) st
  | _, _ => False
def gArr : Option AC → (Nat → (Nat → Int32) → Prop) → Prop
  | some (.inl (n, f)), k => k n f
  | _, _ => False
def gRef : Option AC → (Nat → (Nat → Option Nat) → Prop) → Prop
  | some (.inr (.inl (n, f))), k => k n f
  | _, _ => False
def gObj : Option AC → (Nat → List Value → Prop) → Prop
  | some (.inr (.inr (ci, fs))), k => k ci fs
  | _, _ => False
def gO : Option Nat → (Nat → Prop) → Prop
  | some a, k => k a
  | none, _ => False
def gF : List Value → Nat → (Value → Prop) → Prop
  | v :: _, 0, k => k v
  | _ :: t, n + 1, k => gF t n k
  | [], _, _ => False
def sF : List Value → Nat → Value → List Value
  | _ :: t, 0, v => v :: t
  | x :: t, n + 1, v => x :: sF t n v
  | [], _, _ => []
def fitV : Int → Value → Prop
  | 0, .int _ => True
  | 1, .int x => x.toInt = 0 ∨ x.toInt = 1
  | 2, .ref _ => True
  | _, _ => False
def pushO : Option Value → List Value → List Value
  | none, st => st
  | some v, st => v :: st
def popN : Nat → List Value → List Value → (List Value → List Value → Prop) → Prop
  | 0, acc, st, k => k acc st
  | n + 1, acc, v :: st, k => popN n (v :: acc) st k
  | _ + 1, _, [], _ => False
def icC : ClassFile.Cond → Int → Int → Prop
  | .eq, a, b => a = b
  | .ne, a, b => a ≠ b
  | .lt, a, b => a < b
  | .ge, a, b => b ≤ a
  | .gt, a, b => b < a
  | .le, a, b => a ≤ b
def swT (M : MD) (L : List (Option Value)) (st : List Value) (h : AH) (Q : Option Value → AH → Prop) (x : Int) : Int → List Nat → Prop
  | _, [] => True
  | z, t :: ts => (x = z → J M t L st h Q) ∧ swT M L st h Q x (z + 1) ts

def sem (M : MD) (pc : Nat) (i : Instr) (f : INF) (L : List (Option Value)) (st : List Value) (h : AH) (Q : Option Value → AH → Prop) (k : KK) : Prop := match i with
  | .iload n => gI (ldV L n) fun x => k L (.int x :: st) h
  | .lload n => gJ (ldV L n) fun x => k L (.long x :: st) h
  | .aload n => gA (ldV L n) fun x => k L (.ref x :: st) h
  | .istore n => p1 st fun x st => k (stL L n (.int x)) st h
  | .lstore n => pJ st fun x st => k (clL (stL L n (.long x)) (n + 1)) st h
  | .astore n => pA st fun x st => k (stL L n (.ref x)) st h
  | .iinc n z => gI (ldV L n) fun x => k (stL L n (.int (x + zI z))) st h
  | .bipush z => k L (.int (zI z) :: st) h
  | .ldc _ => (match f with | .inl (_, _, z, _) => k L (.int (zI z) :: st) h | .inr _ => False)
  | .ldc2_w _ => (match f with | .inl (_, _, z, _) => k L (.long (zJ z) :: st) h | .inr _ => False)
  | .lconst _ => (match f with | .inl (_, _, z, _) => k L (.long (zJ z) :: st) h | .inr _ => False)
  | .iadd => p2 st fun x y st => k L (.int (x + y) :: st) h
  | .isub => p2 st fun x y st => k L (.int (x - y) :: st) h
  | .imul => p2 st fun x y st => k L (.int (x * y) :: st) h
  | .iand => p2 st fun x y st => k L (.int (x &&& y) :: st) h
  | .ior => p2 st fun x y st => k L (.int (x ||| y) :: st) h
  | .ixor => p2 st fun x y st => k L (.int (x ^^^ y) :: st) h
  | .ishl => p2 st fun x y st => k L (.int (x <<< (y &&& 31)) :: st) h
  | .ishr => p2 st fun x y st => k L (.int (x >>> (y &&& 31)) :: st) h
  | .iushr => p2 st fun x y st => k L (.int ((x.toUInt32 >>> (y.toUInt32 &&& Int32.toUInt32 31)).toInt32) :: st) h
  | .idiv => p2 st fun x y st => y.toInt ≠ 0 ∧ k L (.int (x / y) :: st) h
  | .irem => p2 st fun x y st => y.toInt ≠ 0 ∧ k L (.int (x - x / y * y) :: st) h
  | .ineg => p1 st fun x st => k L (.int (-x) :: st) h
  | .i2l => p1 st fun x st => k L (.long x.toInt64 :: st) h
  | .ladd => q2 st fun x y st => k L (.long (x + y) :: st) h
  | .lsub => q2 st fun x y st => k L (.long (x - y) :: st) h
  | .lmul => q2 st fun x y st => k L (.long (x * y) :: st) h
  | .ldiv => q2 st fun x y st => y ≠ 0 ∧ k L (.long (x / y) :: st) h
  | .lrem => q2 st fun x y st => y ≠ 0 ∧ k L (.long (x - x / y * y) :: st) h
  | .lcmp => q2 st fun x y st => k L (.int (lg_cmp x y) :: st) h
  | .dup => pV st fun v st => k L (v :: v :: st) h
  | .dup2 => pV st fun v st => pV st fun w st => k L (v :: w :: v :: w :: st) h
  | .pop => pV st fun _ st => k L st h
  | .arraylength => pA st fun a st => gArr (h a) fun n _ => k L (.int (zI n) :: st) h
  | .iaload => p1 st fun i st => pA st fun a st => gArr (h a) fun n g => (0 ≤ i.toInt ∧ i.toInt < n) ∧ k L (.int (g i.toInt.toNat) :: st) h
  | .iastore => p1 st fun x st => p1 st fun i st => pA st fun a st => gArr (h a) fun n g => (0 ≤ i.toInt ∧ i.toInt < n) ∧ k L st (hU h a (.inl (n, upd g i.toInt.toNat x)))
  | .aaload => p1 st fun i st => pA st fun a st => gRef (h a) fun n g => (0 ≤ i.toInt ∧ i.toInt < n) ∧ gO (g i.toInt.toNat) fun r => k L (.ref r :: st) h
  | .aastore => pA st fun r st => p1 st fun i st => pA st fun a st => gRef (h a) fun n g => (0 ≤ i.toInt ∧ i.toInt < n) ∧ gObj (h r) fun ci _ => ci = 4 ∧ k L st (hU h a (.inr (.inl (n, va_up g i.toInt.toNat (some r)))))
  | .getfield _ => (match f with | .inl (ci, sl, _, _) => pA st fun r st => gObj (h r) fun cj fs => cj = ci ∧ gF fs sl fun v => k L (v :: st) h | .inr _ => False)
  | .putfield _ => (match f with | .inl (ci, sl, z, _) => pV st fun v st => pA st fun r st => gObj (h r) fun cj fs => cj = ci ∧ sl < fs.length ∧ fitV z v ∧ k L st (hU h r (.inr (.inr (ci, sF fs sl v)))) | .inr _ => False)
  | .goto _ => (match f with | .inl (t, _, _, _) => J M t L st h Q | .inr _ => False)
  | .ifCond c _ => (match f with | .inl (t, _, _, _) => p1 st fun x st => (icC c x.toInt 0 → J M t L st h Q) ∧ (¬ icC c x.toInt 0 → k L st h) | .inr _ => False)
  | .if_icmp c _ => (match f with | .inl (t, _, _, _) => p2 st fun x y st => (icC c x.toInt y.toInt → J M t L st h Q) ∧ (¬ icC c x.toInt y.toInt → k L st h) | .inr _ => False)
  | .ifnull _ => pA st fun _ st => k L st h
  | .ifnonnull _ => (match f with | .inl (t, _, _, _) => pA st fun _ st => J M t L st h Q | .inr _ => False)
  | .tableswitch _ _ _ _ => (match f with | .inl (t, _, z, l) => p1 st fun x st => swT M L st h Q x.toInt z l ∧ ((x.toInt < z ∨ z + (l.length : Int) ≤ x.toInt) → J M t L st h Q) | .inr _ => False)
  | .ireturn => (match f with | .inl (t, _, _, _) => p1 st fun x st => st = [] ∧ (t = 0 ∨ x.toInt = 0 ∨ x.toInt = 1) ∧ Q (some (.int x)) h | .inr _ => False)
  | .lreturn => pJ st fun x st => st = [] ∧ Q (some (.long x)) h
  | .return_ => st = [] ∧ Q none h
  | .invokevirtual _ => (match f with | .inr (n, ci, Y) => popN n [] st fun as st => pA st fun r rest => gObj (h r) fun cj _ => cj = ci ∧ rest.length ≤ 4 ∧ Con Y (.ref r :: as) h fun v h' => k L (pushO v rest) h' | .inl _ => False)
  | .invokestatic _ => (match f with
    | .inr (n, _, Y) => popN n [] st fun as rest => rest.length ≤ 4 ∧ Con Y as h fun v h' => k L (pushO v rest) h'
    | .inl (1, _, _, _) => p2 st fun x y st => st.length ≤ 4 ∧ k L (.int (zI (max x.toInt y.toInt)) :: st) h
    | .inl (2, _, _, _) => p2 st fun x y st => st.length ≤ 4 ∧ k L (.int (zI (min x.toInt y.toInt)) :: st) h
    | .inl (3, _, _, _) => p2 st fun dp n st => pA st fun a st => p1 st fun sp st => pA st fun a0 st => gArr (h a0) fun n0 g => gArr (h a) fun n1 _ => st.length ≤ 4 ∧ sp.toInt = 0 ∧ dp.toInt = 0 ∧ n.toInt = n0 ∧ n0 = n1 ∧ k L st (hU h a (.inl (n1, g)))
    | _ => False)
  | _ => False

/-! links: words of the tables -/
def linkF (own idx ci sl : Nat) : Prop := ∃ (C : String) (T : u_T) (N : Nat), vwCl[ci]? = some (C, T, N) ∧ sl < N ∧ (T sl).1 = C ∧ ((.fieldLink (cnm own) idx C (T sl).2.1 (T sl).2.2.1 : Cond) ∈ WT ∨ (.fieldLinkNest (cnm own) idx C (T sl).2.1 (T sl).2.2.1 RX6 : Cond) ∈ NT)
def tyOf : Int → FieldType
  | 0 => .int
  | 1 => .boolean
  | _ => .array .int
def linkP (ci sl : Nat) (z : Int) : Prop := ∃ (C : String) (T : u_T) (N : Nat), vwCl[ci]? = some (C, T, N) ∧ (T sl).2.2.2 = false ∧ parseFieldDescriptor (T sl).2.2.1 = some (tyOf z)
def linkV (own idx : Nat) (M : MD) : Prop := okM M ∧ (.methodLink (cnm own) idx (mY M) : Cond) ∈ WT ∧ (.instanceMethod (mY M) : Cond) ∈ WT ∧ (.selects (mY M).cls (mY M) (mY M) : Cond) ∈ WT
def linkS (own idx : Nat) (M : MD) : Prop := okM M ∧ ((.methodLink (cnm own) idx (mY M) : Cond) ∈ WT ∨ (.methodLinkNest (cnm own) idx (mY M) RX6 : Cond) ∈ NT) ∧ (.static (mY M) : Cond) ∈ WT
def linkN (own idx k : Nat) : Prop := match k with
  | 1 => (.methodLink (cnm own) idx Lib.Math.max.name : Cond) ∈ WT ∧ (.static Lib.Math.max.name : Cond) ∈ WT ∧ (.initialized "java/lang/Math" : Cond) ∈ WT ∧ (.code Lib.Math.max.name Lib.Math.max.code 2 (some .int) : Cond) ∈ WT
  | 2 => (.methodLink (cnm own) idx Lib.Math.min.name : Cond) ∈ WT ∧ (.static Lib.Math.min.name : Cond) ∈ WT ∧ (.initialized "java/lang/Math" : Cond) ∈ WT ∧ (.code Lib.Math.min.name Lib.Math.min.code 2 (some .int) : Cond) ∈ WT
  | 3 => (.methodLink (cnm own) idx arraycopyName : Cond) ∈ WT ∧ (.static arraycopyName : Cond) ∈ WT ∧ (.initialized "java/lang/System" : Cond) ∈ WT ∧ (.native arraycopyName : Cond) ∈ WT
  | _ => False
def linkC (own idx : Nat) (z : Int) : Prop := (.constant (cnm own) idx (zI z) : Cond) ∈ WT
def linkJ (own idx : Nat) (z : Int) : Prop := (.constantLong (cnm own) idx (zJ z) : Cond) ∈ WT
def okI (M : MD) (i : Instr) (f : INF) : Prop := match i with
  | .getfield idx => (match f with | .inl (ci, sl, _, _) => linkF (mO M) idx ci sl | .inr _ => False)
  | .putfield idx => (match f with | .inl (ci, sl, z, _) => linkF (mO M) idx ci sl ∧ linkP ci sl z | .inr _ => False)
  | .invokevirtual idx => (match f with | .inr (n, ci, Y) => linkV (mO M) idx Y ∧ n = mN Y ∧ ci = mO Y ∧ mD Y < mD M | .inl _ => False)
  | .invokestatic idx => (match f with | .inr (n, _, Y) => linkS (mO M) idx Y ∧ n = mN Y ∧ mD Y < mD M | .inl (k, _, _, _) => linkN (mO M) idx k ∧ 0 < mD M)
  | .ldc idx => (match f with | .inl (_, _, z, _) => linkC (mO M) idx z | .inr _ => False)
  | .ldc2_w idx => (match f with | .inl (_, _, z, _) => linkJ (mO M) idx z | .inr _ => False)
  | _ => True

def tgtI (pc : Nat) (off : Int) : INF → Bool
  | .inl (t, _, _, _) => decide ((pc : Int) + off = (t : Int))
  | .inr _ => false
def chk1 (M : MD) (pc : Nat) (i' : Instr) (n : Nat) (i : Instr) (f : INF) : Bool := match i' with
  | .iload_n x => decide (n = 1) && decide (i = .iload x)
  | .lload_n x => decide (n = 1) && decide (i = .lload x)
  | .aload_n x => decide (n = 1) && decide (i = .aload x)
  | .iload x => decide (n = 2) && decide (i = .iload x)
  | .lload x => decide (n = 2) && decide (i = .lload x)
  | .aload x => decide (n = 2) && decide (i = .aload x)
  | .istore_n x => decide (n = 1) && (decide (i = .istore x) && decide ((x : Nat) < mL M))
  | .astore_n x => decide (n = 1) && (decide (i = .astore x) && decide ((x : Nat) < mL M))
  | .lstore_n x => decide (n = 1) && (decide (i = .lstore x) && decide ((x : Nat) + 1 < mL M))
  | .istore x => decide (n = 2) && (decide (i = .istore x) && decide (x < mL M))
  | .astore x => decide (n = 2) && (decide (i = .astore x) && decide (x < mL M))
  | .lstore x => decide (n = 2) && (decide (i = .lstore x) && decide (x + 1 < mL M))
  | .iinc x z => decide (n = 3) && (decide (i = .iinc x z) && decide (x < mL M))
  | .iconst z => decide (n = 1) && decide (i = .bipush z)
  | .bipush z => decide (n = 2) && (decide (i = .bipush z) && decide ((Int8.ofInt z).toInt32 = Int32.ofInt z))
  | .sipush z => decide (n = 3) && (decide (i = .bipush z) && decide ((Int16.ofInt z).toInt32 = Int32.ofInt z))
  | .ldc x => decide (n = 2) && decide (i = .ldc x)
  | .ldc_w x => decide (n = 3) && decide (i = .ldc x)
  | .ldc2_w x => decide (n = 3) && decide (i = .ldc2_w x)
  | .lconst c => decide (n = 1) && (decide (i = .lconst c) && (match f with | .inl (_, _, z, _) => decide (Int64.ofNat (c : Nat) = Int64.ofInt z) | .inr _ => false))
  | .iadd => decide (n = 1) && decide (i = .iadd)
  | .isub => decide (n = 1) && decide (i = .isub)
  | .imul => decide (n = 1) && decide (i = .imul)
  | .iand => decide (n = 1) && decide (i = .iand)
  | .ior => decide (n = 1) && decide (i = .ior)
  | .ixor => decide (n = 1) && decide (i = .ixor)
  | .ishl => decide (n = 1) && decide (i = .ishl)
  | .ishr => decide (n = 1) && decide (i = .ishr)
  | .iushr => decide (n = 1) && decide (i = .iushr)
  | .idiv => decide (n = 1) && decide (i = .idiv)
  | .irem => decide (n = 1) && decide (i = .irem)
  | .ineg => decide (n = 1) && decide (i = .ineg)
  | .i2l => decide (n = 1) && decide (i = .i2l)
  | .ladd => decide (n = 1) && decide (i = .ladd)
  | .lsub => decide (n = 1) && decide (i = .lsub)
  | .lmul => decide (n = 1) && decide (i = .lmul)
  | .ldiv => decide (n = 1) && decide (i = .ldiv)
  | .lrem => decide (n = 1) && decide (i = .lrem)
  | .lcmp => decide (n = 1) && decide (i = .lcmp)
  | .dup => decide (n = 1) && decide (i = .dup)
  | .dup2 => decide (n = 1) && decide (i = .dup2)
  | .pop => decide (n = 1) && decide (i = .pop)
  | .arraylength => decide (n = 1) && decide (i = .arraylength)
  | .iaload => decide (n = 1) && decide (i = .iaload)
  | .iastore => decide (n = 1) && decide (i = .iastore)
  | .aaload => decide (n = 1) && decide (i = .aaload)
  | .aastore => decide (n = 1) && decide (i = .aastore)
  | .lreturn => decide (n = 1) && (decide (i = .lreturn) && decide (mR M = some .long))
  | .return_ => decide (n = 1) && (decide (i = .return_) && decide (mR M = none))
  | .getfield x => decide (n = 3) && decide (i = .getfield x)
  | .putfield x => decide (n = 3) && decide (i = .putfield x)
  | .invokevirtual x => decide (n = 3) && decide (i = .invokevirtual x)
  | .invokestatic x => decide (n = 3) && decide (i = .invokestatic x)
  | .goto o => decide (n = 3) && (decide (i = .goto o) && tgtI pc o f)
  | .ifCond c o => decide (n = 3) && (decide (i = .ifCond c o) && tgtI pc o f)
  | .if_icmp c o => decide (n = 3) && (decide (i = .if_icmp c o) && tgtI pc o f)
  | .ifnull o => decide (n = 3) && decide (i = .ifnull o)
  | .ifnonnull o => decide (n = 3) && (decide (i = .ifnonnull o) && tgtI pc o f)
  | .tableswitch d lo hi os => decide (i = .tableswitch d lo hi os) && (tgtI pc d f && (match f with | .inl (_, _, z, l) => decide (z = lo) && (decide (z + (l.length : Int) = hi + 1) && decide (os.toList.map (fun q => (pc : Int) + q) = l.map (fun q : Nat => (q : Int)))) | .inr _ => false))
  | .ireturn => decide (n = 1) && (decide (i = .ireturn) && (match f with | .inl (t, _, _, _) => (decide (t = 0) && decide (mR M = some .int)) || (decide (t = 1) && decide (mR M = some .boolean)) | .inr _ => false))
  | _ => false

/-! ===== and the machine does so ===== -/
theorem gI_sp {o : Option Value} {k : Int32 → Prop} (h : gI o k) : ∃ x, o = some (.int x) ∧ k x := by
  match o, h with
  | some (.int x), h => exact ⟨x, rfl, h⟩
theorem gJ_sp {o : Option Value} {k : Int64 → Prop} (h : gJ o k) : ∃ x, o = some (.long x) ∧ k x := by
  match o, h with
  | some (.long x), h => exact ⟨x, rfl, h⟩
theorem gA_sp {o : Option Value} {k : Nat → Prop} (h : gA o k) : ∃ x, o = some (.ref x) ∧ k x := by
  match o, h with
  | some (.ref x), h => exact ⟨x, rfl, h⟩
theorem p1_sp {st : List Value} {k : Int32 → List Value → Prop} (h : p1 st k) : ∃ x st', st = .int x :: st' ∧ k x st' := by
  match st, h with
  | .int x :: st', h => exact ⟨x, st', rfl, h⟩
theorem p2_sp {st : List Value} {k : Int32 → Int32 → List Value → Prop} (h : p2 st k) : ∃ x y st', st = .int y :: .int x :: st' ∧ k x y st' := by
  match st, h with
  | .int y :: .int x :: st', h => exact ⟨x, y, st', rfl, h⟩
theorem pJ_sp {st : List Value} {k : Int64 → List Value → Prop} (h : pJ st k) : ∃ x st', st = .long x :: st' ∧ k x st' := by
  match st, h with
  | .long x :: st', h => exact ⟨x, st', rfl, h⟩
theorem q2_sp {st : List Value} {k : Int64 → Int64 → List Value → Prop} (h : q2 st k) : ∃ x y st', st = .long y :: .long x :: st' ∧ k x y st' := by
  match st, h with
  | .long y :: .long x :: st', h => exact ⟨x, y, st', rfl, h⟩
theorem pA_sp {st : List Value} {k : Nat → List Value → Prop} (h : pA st k) : ∃ x st', st = .ref x :: st' ∧ k x st' := by
  match st, h with
  | .ref x :: st', h => exact ⟨x, st', rfl, h⟩
theorem pV_sp {st : List Value} {k : Value → List Value → Prop} (h : pV st k) : ∃ v st', st = v :: st' ∧ v.category = 1 ∧ k v st' := by
  match st, h with
  | .int x :: st', h => exact ⟨.int x, st', rfl, rfl, h⟩
  | .ref x :: st', h => exact ⟨.ref x, st', rfl, rfl, h⟩
theorem gArr_sp {o : Option AC} {k : Nat → (Nat → Int32) → Prop} (h : gArr o k) : ∃ n f, o = some (.inl (n, f)) ∧ k n f := by
  match o, h with
  | some (.inl (n, f)), h => exact ⟨n, f, rfl, h⟩
theorem gRef_sp {o : Option AC} {k : Nat → (Nat → Option Nat) → Prop} (h : gRef o k) : ∃ n f, o = some (.inr (.inl (n, f))) ∧ k n f := by
  match o, h with
  | some (.inr (.inl (n, f))), h => exact ⟨n, f, rfl, h⟩
theorem gObj_sp {o : Option AC} {k : Nat → List Value → Prop} (h : gObj o k) : ∃ n f, o = some (.inr (.inr (n, f))) ∧ k n f := by
  match o, h with
  | some (.inr (.inr (n, f))), h => exact ⟨n, f, rfl, h⟩
theorem gO_sp {o : Option Nat} {k : Nat → Prop} (h : gO o k) : ∃ n, o = some n ∧ k n := by
  match o, h with
  | some n, h => exact ⟨n, rfl, h⟩
theorem gF_sp {fs : List Value} {n : Nat} {k : Value → Prop} (h : gF fs n k) : ∃ v, fs[n]? = some v ∧ k v := by
  induction fs generalizing n with
  | nil => cases n <;> exact absurd h id
  | cons x t ih =>
    cases n with
    | zero => exact ⟨x, rfl, h⟩
    | succ n =>
      obtain ⟨v, h1, h2⟩ := ih (n := n) h
      exact ⟨v, by simpa using h1, h2⟩
theorem sF_set (fs : List Value) (n : Nat) (v : Value) : sF fs n v = fs.set n v := by
  induction fs generalizing n with
  | nil => cases n <;> rfl
  | cons x t ih =>
    cases n with
    | zero => rfl
    | succ n => simp [sF, ih]
theorem popN_sp {n : Nat} {acc st : List Value} {k : List Value → List Value → Prop} (h : popN n acc st k) : ∃ bs rest, st = bs.reverse ++ rest ∧ bs.length = n ∧ k (bs ++ acc) rest := by
  induction n generalizing acc st with
  | zero => exact ⟨[], st, rfl, rfl, h⟩
  | succ n ih =>
    match st, h with
    | v :: st, h =>
      obtain ⟨bs, rest, h1, h2, h3⟩ := ih (acc := v :: acc) (st := st) h
      exact ⟨bs ++ [v], rest, by simp [h1], by simp [h2], by simpa using h3⟩
theorem vp_inI {i : Int32} {n : Nat} (h : 0 ≤ i.toInt ∧ i.toInt < n) : vp_in i n := by
  intro q
  rcases q with q | q
  · have := Int32.lt_iff_toInt_lt.mp q
    simp at this
    omega
  · have : n ≤ i.toInt.toNat := q
    omega
abbrev stepOK (M : MD) (pc n : Nat) (i' : Instr) : Prop := ∀ (i : Instr) (f : INF) (L : List (Option Value)) (st : List Value) (h : AH) (Q : Option Value → AH → Prop) (k : KK), decode (mB M) pc = .ok (i', n) → chk1 M pc i' n i f = true → okI M i f → sem M pc i f L st h Q k → (∀ L st h, k L st h → J M (pc + n) L st h Q) → J M pc L st h Q
section SO
variable {M : MD} {pc n : Nat}
theorem so_iload_n (x : Fin 4) : stepOK M pc n (.iload_n x) := by
  intro i f L st h Q k hd hc ho hs hk
  simp only [chk1, Bool.and_eq_true, Bool.or_eq_true, decide_eq_true_eq] at hc
  obtain ⟨rfl, rfl⟩ := hc
  obtain ⟨x, hx, hs⟩ := gI_sp hs
  intro p l e s m args below meth c H locs G cI cR σ N A lsA F D E
  exact lv_iload_n F.1 F.2.1 hd rfl (E.2.2.2 _ _ hx) (hk _ _ _ hs p l e s m args below meth c H locs G cI cR σ N A lsA F D E)
theorem so_iload (x : Nat) : stepOK M pc n (.iload x) := by
  intro i f L st h Q k hd hc ho hs hk
  simp only [chk1, Bool.and_eq_true, Bool.or_eq_true, decide_eq_true_eq] at hc
  obtain ⟨rfl, rfl⟩ := hc
  obtain ⟨x, hx, hs⟩ := gI_sp hs
  intro p l e s m args below meth c H locs G cI cR σ N A lsA F D E
  exact lv_iload F.1 F.2.1 hd (E.2.2.2 _ _ hx) (hk _ _ _ hs p l e s m args below meth c H locs G cI cR σ N A lsA F D E)
theorem so_lload_n (x : Fin 4) : stepOK M pc n (.lload_n x) := by
  intro i f L st h Q k hd hc ho hs hk
  simp only [chk1, Bool.and_eq_true, Bool.or_eq_true, decide_eq_true_eq] at hc
  obtain ⟨rfl, rfl⟩ := hc
  obtain ⟨x, hx, hs⟩ := gJ_sp hs
  intro p l e s m args below meth c H locs G cI cR σ N A lsA F D E
  exact lv_lload_n F.1 F.2.1 hd rfl (E.2.2.2 _ _ hx) (hk _ _ _ hs p l e s m args below meth c H locs G cI cR σ N A lsA F D E)
theorem so_lload (x : Nat) : stepOK M pc n (.lload x) := by
  intro i f L st h Q k hd hc ho hs hk
  simp only [chk1, Bool.and_eq_true, Bool.or_eq_true, decide_eq_true_eq] at hc
  obtain ⟨rfl, rfl⟩ := hc
  obtain ⟨x, hx, hs⟩ := gJ_sp hs
  intro p l e s m args below meth c H locs G cI cR σ N A lsA F D E
  exact lv_lload F.1 F.2.1 hd (E.2.2.2 _ _ hx) (hk _ _ _ hs p l e s m args below meth c H locs G cI cR σ N A lsA F D E)
theorem so_aload_n (x : Fin 4) : stepOK M pc n (.aload_n x) := by
  intro i f L st h Q k hd hc ho hs hk
  simp only [chk1, Bool.and_eq_true, Bool.or_eq_true, decide_eq_true_eq] at hc
  obtain ⟨rfl, rfl⟩ := hc
  obtain ⟨x, hx, hs⟩ := gA_sp hs
  intro p l e s m args below meth c H locs G cI cR σ N A lsA F D E
  exact lv_aload_n F.1 F.2.1 hd rfl (E.2.2.2 _ _ hx) (hk _ _ _ hs p l e s m args below meth c H locs G cI cR σ N A lsA F D E)
theorem so_aload (x : Nat) : stepOK M pc n (.aload x) := by
  intro i f L st h Q k hd hc ho hs hk
  simp only [chk1, Bool.and_eq_true, Bool.or_eq_true, decide_eq_true_eq] at hc
  obtain ⟨rfl, rfl⟩ := hc
  obtain ⟨x, hx, hs⟩ := gA_sp hs
  intro p l e s m args below meth c H locs G cI cR σ N A lsA F D E
  exact lv_aload F.1 F.2.1 hd (E.2.2.2 _ _ hx) (hk _ _ _ hs p l e s m args below meth c H locs G cI cR σ N A lsA F D E)
theorem so_istore_n (x : Fin 4) : stepOK M pc n (.istore_n x) := by
  intro i f L st h Q k hd hc ho hs hk
  simp only [chk1, Bool.and_eq_true, Bool.or_eq_true, decide_eq_true_eq] at hc
  obtain ⟨rfl, rfl, hx⟩ := hc
  obtain ⟨x, st, rfl, hs⟩ := p1_sp hs
  intro p l e s m args below meth c H locs G cI cR σ N A lsA F D E
  exact lv_istore_n F.1 F.2.1 hd rfl E.has hx rfl (fun lsB hB2 => hk _ _ _ hs p l e s m args below meth c H locs G cI cR σ N A lsB F D (E.st1 rfl hB2))
theorem so_istore (x : Nat) : stepOK M pc n (.istore x) := by
  intro i f L st h Q k hd hc ho hs hk
  simp only [chk1, Bool.and_eq_true, Bool.or_eq_true, decide_eq_true_eq] at hc
  obtain ⟨rfl, rfl, hx⟩ := hc
  obtain ⟨x, st, rfl, hs⟩ := p1_sp hs
  intro p l e s m args below meth c H locs G cI cR σ N A lsA F D E
  exact lv_istore F.1 F.2.1 hd E.has hx rfl (fun lsB hB2 => hk _ _ _ hs p l e s m args below meth c H locs G cI cR σ N A lsB F D (E.st1 rfl hB2))
theorem so_astore_n (x : Fin 4) : stepOK M pc n (.astore_n x) := by
  intro i f L st h Q k hd hc ho hs hk
  simp only [chk1, Bool.and_eq_true, Bool.or_eq_true, decide_eq_true_eq] at hc
  obtain ⟨rfl, rfl, hx⟩ := hc
  obtain ⟨x, st, rfl, hs⟩ := pA_sp hs
  intro p l e s m args below meth c H locs G cI cR σ N A lsA F D E
  exact lv_astore_n F.1 F.2.1 hd rfl E.has hx rfl (fun lsB hB2 => hk _ _ _ hs p l e s m args below meth c H locs G cI cR σ N A lsB F D (E.st1 rfl hB2))
theorem so_astore (x : Nat) : stepOK M pc n (.astore x) := by
  intro i f L st h Q k hd hc ho hs hk
  simp only [chk1, Bool.and_eq_true, Bool.or_eq_true, decide_eq_true_eq] at hc
  obtain ⟨rfl, rfl, hx⟩ := hc
  obtain ⟨x, st, rfl, hs⟩ := pA_sp hs
  intro p l e s m args below meth c H locs G cI cR σ N A lsA F D E
  exact lv_astore F.1 F.2.1 hd E.has hx rfl (fun lsB hB2 => hk _ _ _ hs p l e s m args below meth c H locs G cI cR σ N A lsB F D (E.st1 rfl hB2))
theorem so_lstore_n (x : Fin 4) : stepOK M pc n (.lstore_n x) := by
  intro i f L st h Q k hd hc ho hs hk
  simp only [chk1, Bool.and_eq_true, Bool.or_eq_true, decide_eq_true_eq] at hc
  obtain ⟨rfl, rfl, hx⟩ := hc
  obtain ⟨x, st, rfl, hs⟩ := pJ_sp hs
  intro p l e s m args below meth c H locs G cI cR σ N A lsA F D E
  exact lv_lstore_n F.1 F.2.1 hd rfl E.has hx rfl (fun lsB hB2 => hk _ _ _ hs p l e s m args below meth c H locs G cI cR σ N A lsB F D (E.st2 rfl hB2))
theorem so_lstore (x : Nat) : stepOK M pc n (.lstore x) := by
  intro i f L st h Q k hd hc ho hs hk
  simp only [chk1, Bool.and_eq_true, Bool.or_eq_true, decide_eq_true_eq] at hc
  obtain ⟨rfl, rfl, hx⟩ := hc
  obtain ⟨x, st, rfl, hs⟩ := pJ_sp hs
  intro p l e s m args below meth c H locs G cI cR σ N A lsA F D E
  exact lv_lstore F.1 F.2.1 hd E.has hx rfl (fun lsB hB2 => hk _ _ _ hs p l e s m args below meth c H locs G cI cR σ N A lsB F D (E.st2 rfl hB2))
theorem so_iinc (x : Nat) (z : Int) : stepOK M pc n (.iinc x z) := by
  intro i f L st h Q k hd hc ho hs hk
  simp only [chk1, Bool.and_eq_true, Bool.or_eq_true, decide_eq_true_eq] at hc
  obtain ⟨rfl, rfl, hx⟩ := hc
  obtain ⟨y, hy, hs⟩ := gI_sp hs
  intro p l e s m args below meth c H locs G cI cR σ N A lsA F D E
  have hm : (x, Value.int y) ∈ asc σ L := asc_mem.mpr ⟨.int y, hy, rfl⟩
  obtain ⟨j, hj⟩ := List.getElem?_of_mem hm
  exact lv_iinc (k := j) F.1 F.2.1 hd E.has hj rfl hx rfl (fun lsB hB2 => hk _ _ _ hs p l e s m args below meth c H locs G cI cR σ N A lsB F D (E.st1 rfl hB2))
theorem so_iconst (z : Int) : stepOK M pc n (.iconst z) := by
  intro i f L st h Q k hd hc ho hs hk
  simp only [chk1, Bool.and_eq_true, Bool.or_eq_true, decide_eq_true_eq] at hc
  obtain ⟨rfl, rfl⟩ := hc
  intro p l e s m args below meth c H locs G cI cR σ N A lsA F D E
  exact lv_iconst F.1 F.2.1 hd rfl (hk _ _ _ hs p l e s m args below meth c H locs G cI cR σ N A lsA F D E)
theorem so_bipush (z : Int) : stepOK M pc n (.bipush z) := by
  intro i f L st h Q k hd hc ho hs hk
  simp only [chk1, Bool.and_eq_true, Bool.or_eq_true, decide_eq_true_eq] at hc
  obtain ⟨rfl, rfl, hz⟩ := hc
  intro p l e s m args below meth c H locs G cI cR σ N A lsA F D E
  exact lv_bipush F.1 F.2.1 hd hz (hk _ _ _ hs p l e s m args below meth c H locs G cI cR σ N A lsA F D E)
theorem so_sipush (z : Int) : stepOK M pc n (.sipush z) := by
  intro i f L st h Q k hd hc ho hs hk
  simp only [chk1, Bool.and_eq_true, Bool.or_eq_true, decide_eq_true_eq] at hc
  obtain ⟨rfl, rfl, hz⟩ := hc
  intro p l e s m args below meth c H locs G cI cR σ N A lsA F D E
  exact lv_sipush F.1 F.2.1 hd hz (hk _ _ _ hs p l e s m args below meth c H locs G cI cR σ N A lsA F D E)
theorem so_ldc (x : Nat) : stepOK M pc n (.ldc x) := by
  intro i f L st h Q k hd hc ho hs hk
  simp only [chk1, Bool.and_eq_true, Bool.or_eq_true, decide_eq_true_eq] at hc
  obtain ⟨rfl, rfl⟩ := hc
  rcases f with ⟨a, b, z, l⟩ | q
  rotate_left
  · exact absurd hs id
  intro p l e s m args below meth c H locs G cI cR σ N A lsA F D E
  exact lv_ldc F.1 F.2.1 F.2.2.2.2.1 (F.2.2.2.2.2.2.1 _ ho) hd (hk _ _ _ hs p l e s m args below meth c H locs G cI cR σ N A lsA F D E)
theorem so_ldc_w (x : Nat) : stepOK M pc n (.ldc_w x) := by
  intro i f L st h Q k hd hc ho hs hk
  simp only [chk1, Bool.and_eq_true, Bool.or_eq_true, decide_eq_true_eq] at hc
  obtain ⟨rfl, rfl⟩ := hc
  rcases f with ⟨a, b, z, l⟩ | q
  rotate_left
  · exact absurd hs id
  intro p l e s m args below meth c H locs G cI cR σ N A lsA F D E
  exact lv_ldcw F.1 F.2.1 F.2.2.2.2.1 (F.2.2.2.2.2.2.1 _ ho) hd (hk _ _ _ hs p l e s m args below meth c H locs G cI cR σ N A lsA F D E)
theorem so_ldc2_w (x : Nat) : stepOK M pc n (.ldc2_w x) := by
  intro i f L st h Q k hd hc ho hs hk
  simp only [chk1, Bool.and_eq_true, Bool.or_eq_true, decide_eq_true_eq] at hc
  obtain ⟨rfl, rfl⟩ := hc
  rcases f with ⟨a, b, z, l⟩ | q
  rotate_left
  · exact absurd hs id
  intro p l e s m args below meth c H locs G cI cR σ N A lsA F D E
  exact lv_ldc2 F.1 F.2.1 F.2.2.2.2.1 (F.2.2.2.2.2.2.1 _ ho) hd (hk _ _ _ hs p l e s m args below meth c H locs G cI cR σ N A lsA F D E)
theorem so_lconst (x : Fin 2) : stepOK M pc n (.lconst x) := by
  intro i f L st h Q k hd hc ho hs hk
  simp only [chk1, Bool.and_eq_true, Bool.or_eq_true, decide_eq_true_eq] at hc
  obtain ⟨rfl, rfl, hz⟩ := hc
  rcases f with ⟨a, b, z, l⟩ | q
  rotate_left
  · exact absurd hs id
  simp only [decide_eq_true_eq] at hz
  intro p l e s m args below meth c H locs G cI cR σ N A lsA F D E
  exact lv_lconst F.1 F.2.1 hd hz (hk _ _ _ hs p l e s m args below meth c H locs G cI cR σ N A lsA F D E)
theorem so_iadd : stepOK M pc n .iadd := by
  intro i f L st h Q k hd hc ho hs hk
  simp only [chk1, Bool.and_eq_true, Bool.or_eq_true, decide_eq_true_eq] at hc
  obtain ⟨rfl, rfl⟩ := hc
  obtain ⟨x, y, st, rfl, hs⟩ := p2_sp hs
  intro p l e s m args below meth c H locs G cI cR σ N A lsA F D E
  exact lv_iadd F.1 F.2.1 hd (hk _ _ _ hs p l e s m args below meth c H locs G cI cR σ N A lsA F D E)
theorem so_isub : stepOK M pc n .isub := by
  intro i f L st h Q k hd hc ho hs hk
  simp only [chk1, Bool.and_eq_true, Bool.or_eq_true, decide_eq_true_eq] at hc
  obtain ⟨rfl, rfl⟩ := hc
  obtain ⟨x, y, st, rfl, hs⟩ := p2_sp hs
  intro p l e s m args below meth c H locs G cI cR σ N A lsA F D E
  exact lv_isub F.1 F.2.1 hd (hk _ _ _ hs p l e s m args below meth c H locs G cI cR σ N A lsA F D E)
theorem so_imul : stepOK M pc n .imul := by
  intro i f L st h Q k hd hc ho hs hk
  simp only [chk1, Bool.and_eq_true, Bool.or_eq_true, decide_eq_true_eq] at hc
  obtain ⟨rfl, rfl⟩ := hc
  obtain ⟨x, y, st, rfl, hs⟩ := p2_sp hs
  intro p l e s m args below meth c H locs G cI cR σ N A lsA F D E
  exact lv_imul F.1 F.2.1 hd (hk _ _ _ hs p l e s m args below meth c H locs G cI cR σ N A lsA F D E)
theorem so_iand : stepOK M pc n .iand := by
  intro i f L st h Q k hd hc ho hs hk
  simp only [chk1, Bool.and_eq_true, Bool.or_eq_true, decide_eq_true_eq] at hc
  obtain ⟨rfl, rfl⟩ := hc
  obtain ⟨x, y, st, rfl, hs⟩ := p2_sp hs
  intro p l e s m args below meth c H locs G cI cR σ N A lsA F D E
  exact lv_iand F.1 F.2.1 hd (hk _ _ _ hs p l e s m args below meth c H locs G cI cR σ N A lsA F D E)
theorem so_ior : stepOK M pc n .ior := by
  intro i f L st h Q k hd hc ho hs hk
  simp only [chk1, Bool.and_eq_true, Bool.or_eq_true, decide_eq_true_eq] at hc
  obtain ⟨rfl, rfl⟩ := hc
  obtain ⟨x, y, st, rfl, hs⟩ := p2_sp hs
  intro p l e s m args below meth c H locs G cI cR σ N A lsA F D E
  exact lv_ior F.1 F.2.1 hd (hk _ _ _ hs p l e s m args below meth c H locs G cI cR σ N A lsA F D E)
theorem so_ixor : stepOK M pc n .ixor := by
  intro i f L st h Q k hd hc ho hs hk
  simp only [chk1, Bool.and_eq_true, Bool.or_eq_true, decide_eq_true_eq] at hc
  obtain ⟨rfl, rfl⟩ := hc
  obtain ⟨x, y, st, rfl, hs⟩ := p2_sp hs
  intro p l e s m args below meth c H locs G cI cR σ N A lsA F D E
  exact lv_ixor F.1 F.2.1 hd (hk _ _ _ hs p l e s m args below meth c H locs G cI cR σ N A lsA F D E)
theorem so_ishl : stepOK M pc n .ishl := by
  intro i f L st h Q k hd hc ho hs hk
  simp only [chk1, Bool.and_eq_true, Bool.or_eq_true, decide_eq_true_eq] at hc
  obtain ⟨rfl, rfl⟩ := hc
  obtain ⟨x, y, st, rfl, hs⟩ := p2_sp hs
  intro p l e s m args below meth c H locs G cI cR σ N A lsA F D E
  exact lv_ishl F.1 F.2.1 hd (hk _ _ _ hs p l e s m args below meth c H locs G cI cR σ N A lsA F D E)
theorem so_ishr : stepOK M pc n .ishr := by
  intro i f L st h Q k hd hc ho hs hk
  simp only [chk1, Bool.and_eq_true, Bool.or_eq_true, decide_eq_true_eq] at hc
  obtain ⟨rfl, rfl⟩ := hc
  obtain ⟨x, y, st, rfl, hs⟩ := p2_sp hs
  intro p l e s m args below meth c H locs G cI cR σ N A lsA F D E
  exact lv_ishr F.1 F.2.1 hd (hk _ _ _ hs p l e s m args below meth c H locs G cI cR σ N A lsA F D E)
theorem so_ladd : stepOK M pc n .ladd := by
  intro i f L st h Q k hd hc ho hs hk
  simp only [chk1, Bool.and_eq_true, Bool.or_eq_true, decide_eq_true_eq] at hc
  obtain ⟨rfl, rfl⟩ := hc
  obtain ⟨x, y, st, rfl, hs⟩ := q2_sp hs
  intro p l e s m args below meth c H locs G cI cR σ N A lsA F D E
  exact lv_ladd F.1 F.2.1 hd (hk _ _ _ hs p l e s m args below meth c H locs G cI cR σ N A lsA F D E)
theorem so_lsub : stepOK M pc n .lsub := by
  intro i f L st h Q k hd hc ho hs hk
  simp only [chk1, Bool.and_eq_true, Bool.or_eq_true, decide_eq_true_eq] at hc
  obtain ⟨rfl, rfl⟩ := hc
  obtain ⟨x, y, st, rfl, hs⟩ := q2_sp hs
  intro p l e s m args below meth c H locs G cI cR σ N A lsA F D E
  exact lv_lsub F.1 F.2.1 hd (hk _ _ _ hs p l e s m args below meth c H locs G cI cR σ N A lsA F D E)
theorem so_lmul : stepOK M pc n .lmul := by
  intro i f L st h Q k hd hc ho hs hk
  simp only [chk1, Bool.and_eq_true, Bool.or_eq_true, decide_eq_true_eq] at hc
  obtain ⟨rfl, rfl⟩ := hc
  obtain ⟨x, y, st, rfl, hs⟩ := q2_sp hs
  intro p l e s m args below meth c H locs G cI cR σ N A lsA F D E
  exact lv_lmul F.1 F.2.1 hd (hk _ _ _ hs p l e s m args below meth c H locs G cI cR σ N A lsA F D E)
theorem so_iushr : stepOK M pc n .iushr := by
  intro i f L st h Q k hd hc ho hs hk
  simp only [chk1, Bool.and_eq_true, Bool.or_eq_true, decide_eq_true_eq] at hc
  obtain ⟨rfl, rfl⟩ := hc
  obtain ⟨x, y, st, rfl, hs⟩ := p2_sp hs
  intro p l e s m args below meth c H locs G cI cR σ N A lsA F D E
  exact lv_iushr F.1 F.2.1 hd rfl (hk _ _ _ hs p l e s m args below meth c H locs G cI cR σ N A lsA F D E)
theorem so_idiv : stepOK M pc n .idiv := by
  intro i f L st h Q k hd hc ho hs hk
  simp only [chk1, Bool.and_eq_true, Bool.or_eq_true, decide_eq_true_eq] at hc
  obtain ⟨rfl, rfl⟩ := hc
  obtain ⟨x, y, st, rfl, hz, hs⟩ := p2_sp hs
  intro p l e s m args below meth c H locs G cI cR σ N A lsA F D E
  exact lv_idiv F.1 F.2.1 hd (fun q => hz (by rw [q]; rfl)) (hk _ _ _ hs p l e s m args below meth c H locs G cI cR σ N A lsA F D E)
theorem so_irem : stepOK M pc n .irem := by
  intro i f L st h Q k hd hc ho hs hk
  simp only [chk1, Bool.and_eq_true, Bool.or_eq_true, decide_eq_true_eq] at hc
  obtain ⟨rfl, rfl⟩ := hc
  obtain ⟨x, y, st, rfl, hz, hs⟩ := p2_sp hs
  intro p l e s m args below meth c H locs G cI cR σ N A lsA F D E
  exact lv_irem F.1 F.2.1 hd (fun q => hz (by rw [q]; rfl)) (hk _ _ _ hs p l e s m args below meth c H locs G cI cR σ N A lsA F D E)
theorem so_ineg : stepOK M pc n .ineg := by
  intro i f L st h Q k hd hc ho hs hk
  simp only [chk1, Bool.and_eq_true, Bool.or_eq_true, decide_eq_true_eq] at hc
  obtain ⟨rfl, rfl⟩ := hc
  obtain ⟨x, st, rfl, hs⟩ := p1_sp hs
  intro p l e s m args below meth c H locs G cI cR σ N A lsA F D E
  exact lv_ineg F.1 F.2.1 hd (hk _ _ _ hs p l e s m args below meth c H locs G cI cR σ N A lsA F D E)
theorem so_i2l : stepOK M pc n .i2l := by
  intro i f L st h Q k hd hc ho hs hk
  simp only [chk1, Bool.and_eq_true, Bool.or_eq_true, decide_eq_true_eq] at hc
  obtain ⟨rfl, rfl⟩ := hc
  obtain ⟨x, st, rfl, hs⟩ := p1_sp hs
  intro p l e s m args below meth c H locs G cI cR σ N A lsA F D E
  exact lv_i2l F.1 F.2.1 hd rfl (hk _ _ _ hs p l e s m args below meth c H locs G cI cR σ N A lsA F D E)
theorem so_ldiv : stepOK M pc n .ldiv := by
  intro i f L st h Q k hd hc ho hs hk
  simp only [chk1, Bool.and_eq_true, Bool.or_eq_true, decide_eq_true_eq] at hc
  obtain ⟨rfl, rfl⟩ := hc
  obtain ⟨x, y, st, rfl, hz, hs⟩ := q2_sp hs
  intro p l e s m args below meth c H locs G cI cR σ N A lsA F D E
  exact lv_ldiv F.1 F.2.1 hd hz (hk _ _ _ hs p l e s m args below meth c H locs G cI cR σ N A lsA F D E)
theorem so_lrem : stepOK M pc n .lrem := by
  intro i f L st h Q k hd hc ho hs hk
  simp only [chk1, Bool.and_eq_true, Bool.or_eq_true, decide_eq_true_eq] at hc
  obtain ⟨rfl, rfl⟩ := hc
  obtain ⟨x, y, st, rfl, hz, hs⟩ := q2_sp hs
  intro p l e s m args below meth c H locs G cI cR σ N A lsA F D E
  exact lv_lrem F.1 F.2.1 hd hz (hk _ _ _ hs p l e s m args below meth c H locs G cI cR σ N A lsA F D E)
theorem so_lcmp : stepOK M pc n .lcmp := by
  intro i f L st h Q k hd hc ho hs hk
  simp only [chk1, Bool.and_eq_true, Bool.or_eq_true, decide_eq_true_eq] at hc
  obtain ⟨rfl, rfl⟩ := hc
  obtain ⟨x, y, st, rfl, hs⟩ := q2_sp hs
  intro p l e s m args below meth c H locs G cI cR σ N A lsA F D E
  exact W.lcmp F.1 F.2.1 hd (hk _ _ _ hs p l e s m args below meth c H locs G cI cR σ N A lsA F D E)
theorem so_dup : stepOK M pc n .dup := by
  intro i f L st h Q k hd hc ho hs hk
  simp only [chk1, Bool.and_eq_true, Bool.or_eq_true, decide_eq_true_eq] at hc
  obtain ⟨rfl, rfl⟩ := hc
  obtain ⟨v, st, rfl, hv, hs⟩ := pV_sp hs
  intro p l e s m args below meth c H locs G cI cR σ N A lsA F D E
  exact lv_dup F.1 F.2.1 hd (by rw [cv_cat]; exact hv) (hk _ _ _ hs p l e s m args below meth c H locs G cI cR σ N A lsA F D E)
theorem so_dup2 : stepOK M pc n .dup2 := by
  intro i f L st h Q k hd hc ho hs hk
  simp only [chk1, Bool.and_eq_true, Bool.or_eq_true, decide_eq_true_eq] at hc
  obtain ⟨rfl, rfl⟩ := hc
  obtain ⟨v, st, rfl, hv, hs⟩ := pV_sp hs
  obtain ⟨w, st, rfl, hw, hs⟩ := pV_sp hs
  intro p l e s m args below meth c H locs G cI cR σ N A lsA F D E
  exact lv_dup2_11 F.1 F.2.1 hd (by rw [cv_cat]; exact hv) (by rw [cv_cat]; exact hw) (hk _ _ _ hs p l e s m args below meth c H locs G cI cR σ N A lsA F D E)
theorem so_pop : stepOK M pc n .pop := by
  intro i f L st h Q k hd hc ho hs hk
  simp only [chk1, Bool.and_eq_true, Bool.or_eq_true, decide_eq_true_eq] at hc
  obtain ⟨rfl, rfl⟩ := hc
  obtain ⟨v, st, rfl, hv, hs⟩ := pV_sp hs
  intro p l e s m args below meth c H locs G cI cR σ N A lsA F D E
  exact lv_pop F.1 F.2.1 hd (by rw [cv_cat]; exact hv) (hk _ _ _ hs p l e s m args below meth c H locs G cI cR σ N A lsA F D E)
theorem so_arraylength : stepOK M pc n .arraylength := by
  intro i f L st h Q k hd hc ho hs hk
  simp only [chk1, Bool.and_eq_true, Bool.or_eq_true, decide_eq_true_eq] at hc
  obtain ⟨rfl, rfl⟩ := hc
  obtain ⟨a, st, rfl, hs⟩ := pA_sp hs
  obtain ⟨z, g, ha, hs⟩ := gArr_sp hs
  intro p l e s m args below meth c H locs G cI cR σ N A lsA F D E
  exact va_alen F.1 F.2.1 F.2.2.2.2.2.2.2.1 D.1 a 0 (wd_get D.2.2.2 ha) rfl rfl hd (hk _ _ _ hs p l e s m args below meth c H locs G cI cR σ N A lsA F D E)
theorem so_iaload : stepOK M pc n .iaload := by
  intro i f L st h Q k hd hc ho hs hk
  simp only [chk1, Bool.and_eq_true, Bool.or_eq_true, decide_eq_true_eq] at hc
  obtain ⟨rfl, rfl⟩ := hc
  obtain ⟨y, st, rfl, hs⟩ := p1_sp hs
  obtain ⟨a, st, rfl, hs⟩ := pA_sp hs
  obtain ⟨z, g, ha, hin, hs⟩ := gArr_sp hs
  intro p l e s m args below meth c H locs G cI cR σ N A lsA F D E
  exact va_iald F.1 F.2.1 F.2.2.2.2.2.2.2.1 D.1 a 0 (wd_get D.2.2.2 ha) rfl (vp_inI hin) hd (hk _ _ _ hs p l e s m args below meth c H locs G cI cR σ N A lsA F D E)
theorem so_iastore : stepOK M pc n .iastore := by
  intro i f L st h Q k hd hc ho hs hk
  simp only [chk1, Bool.and_eq_true, Bool.or_eq_true, decide_eq_true_eq] at hc
  obtain ⟨rfl, rfl⟩ := hc
  obtain ⟨x, st, rfl, hs⟩ := p1_sp hs
  obtain ⟨y, st, rfl, hs⟩ := p1_sp hs
  obtain ⟨a, st, rfl, hs⟩ := pA_sp hs
  obtain ⟨z, g, ha, hin, hs⟩ := gArr_sp hs
  intro p l e s m args below meth c H locs G cI cR σ N A lsA F D E
  refine va_iast F.1 F.2.1 F.2.2.2.2.2.2.2.1 D.1 D.2.1 D.2.2.1 a 0 (wd_get D.2.2.2 ha) rfl (vp_inI hin) hd (fun H1 locs1 hP hD hS => ?_)
  have e0 := wd_set (cI := cI) (cR := cR) (σ := σ) (N := N) (h := h) (.inl (z, upd g y.toInt.toNat x)) (hB_lt D.2.2.2 ha)
  refine hk _ _ _ hs p l e s m args below meth c H1 locs1 G cI cR σ N A lsA F ⟨?_, ?_, hS, hB_U D.2.2.2 (hB_lt D.2.2.2 ha)⟩ E
  · rw [← e0]; exact hP
  · rw [← e0]; exact hD
theorem so_aaload : stepOK M pc n .aaload := by
  intro i f L st h Q k hd hc ho hs hk
  simp only [chk1, Bool.and_eq_true, Bool.or_eq_true, decide_eq_true_eq] at hc
  obtain ⟨rfl, rfl⟩ := hc
  obtain ⟨y, st, rfl, hs⟩ := p1_sp hs
  obtain ⟨a, st, rfl, hs⟩ := pA_sp hs
  obtain ⟨z, g, ha, hin, hs⟩ := gRef_sp hs
  obtain ⟨r, hr, hs⟩ := gO_sp hs
  intro p l e s m args below meth c H locs G cI cR σ N A lsA F D E
  refine va_aldq F.1 F.2.1 F.2.2.2.2.2.2.2.1 D.1 a 1 (wd_get D.2.2.2 ha) rfl (vp_inI hin) hd ?_
  have hr : g y.toNatClampNeg = some r := hr
  simp only [hr, Option.map_some, va_rf]
  exact hk _ _ _ hs p l e s m args below meth c H locs G cI cR σ N A lsA F D E
theorem so_aastore : stepOK M pc n .aastore := by
  intro i f L st h Q k hd hc ho hs hk
  simp only [chk1, Bool.and_eq_true, Bool.or_eq_true, decide_eq_true_eq] at hc
  obtain ⟨rfl, rfl⟩ := hc
  obtain ⟨r, st, rfl, hs⟩ := pA_sp hs
  obtain ⟨y, st, rfl, hs⟩ := p1_sp hs
  obtain ⟨a, st, rfl, hs⟩ := pA_sp hs
  obtain ⟨z, g, ha, hin, hs⟩ := gRef_sp hs
  obtain ⟨ci, fs, hr, rfl, hs⟩ := gObj_sp hs
  intro p l e s m args below meth c H locs G cI cR σ N A lsA F D E
  refine va_astq F.1 F.2.1 F.2.2.2.2.2.2.2.1 D.1 D.2.1 D.2.2.1 a 1 r 4 (r := (RX4, TX4, 10)) (wd_get D.2.2.2 ha) rfl (wd_get D.2.2.2 hr) rfl (vp_inI hin) hd (fun H1 locs1 hP hD hS => ?_)
  have e0 := wd_set (cI := cI) (cR := cR) (σ := σ) (N := N) (h := h) (.inr (.inl (z, va_up g y.toInt.toNat (some r)))) (hB_lt D.2.2.2 ha)
  have e1 : (fun i => (va_up g y.toInt.toNat (some r) i).map σ) = va_up (fun i => (g i).map σ) y.toInt.toNat (some (σ r)) := by
    funext j; simp only [va_up]; split <;> rfl
  simp only [ce, e1] at e0
  refine hk _ _ _ hs p l e s m args below meth c H1 locs1 G cI cR σ N A lsA F ⟨?_, ?_, hS, hB_U D.2.2.2 (hB_lt D.2.2.2 ha)⟩ E
  · rw [← e0]; exact hP
  · rw [← e0]; exact hD
theorem so_goto (o : Int) : stepOK M pc n (.goto o) := by
  intro i f L st h Q k hd hc ho hs hk
  simp only [chk1, Bool.and_eq_true, Bool.or_eq_true, decide_eq_true_eq] at hc
  obtain ⟨rfl, rfl, ht⟩ := hc
  rcases f with ⟨a, b, z, l⟩ | q
  rotate_left
  · exact absurd hs id
  simp only [tgtI, decide_eq_true_eq] at ht
  intro p l e s m args below meth c H locs G cI cR σ N A lsA F D E
  exact lv_goto F.1 F.2.1 hd ht (hs p l e s m args below meth c H locs G cI cR σ N A lsA F D E)
theorem i32_0 (x : Int32) : x = 0 ↔ x.toInt = 0 := ⟨fun h => by rw [h]; rfl, fun h => Int32.toInt_inj.mp (by rw [h]; rfl)⟩
theorem so_ifCond (cd : ClassFile.Cond) (o : Int) : stepOK M pc n (.ifCond cd o) := by
  intro i f L st h Q k hd hc ho hs hk
  simp only [chk1, Bool.and_eq_true, Bool.or_eq_true, decide_eq_true_eq] at hc
  obtain ⟨rfl, rfl, ht⟩ := hc
  rcases f with ⟨a, b, z, l⟩ | q
  rotate_left
  · exact absurd hs id
  simp only [tgtI, decide_eq_true_eq] at ht
  obtain ⟨x, st, rfl, h1, h2⟩ := p1_sp hs
  intro p l e s m args below meth c H locs G cI cR σ N A lsA F D E
  have z0 : (0 : Int32).toInt = 0 := rfl
  cases cd
  · exact lv_if_eq F.1 F.2.1 hd ht (fun q => h1 ((i32_0 x).mp q) p l e s m args below meth c H locs G cI cR σ N A lsA F D E) (fun q => hk _ _ _ (h2 (fun w => q ((i32_0 x).mpr w))) p l e s m args below meth c H locs G cI cR σ N A lsA F D E)
  · exact lv_if_ne F.1 F.2.1 hd ht (fun q => h1 (fun w => q ((i32_0 x).mpr w)) p l e s m args below meth c H locs G cI cR σ N A lsA F D E) (fun q => hk _ _ _ (h2 (fun w => w ((i32_0 x).mp q))) p l e s m args below meth c H locs G cI cR σ N A lsA F D E)
  · exact lv_if_lt F.1 F.2.1 hd ht (fun q => h1 (Int32.lt_iff_toInt_lt.mp q) p l e s m args below meth c H locs G cI cR σ N A lsA F D E) (fun q => hk _ _ _ (h2 (fun w => q (Int32.lt_iff_toInt_lt.mpr w))) p l e s m args below meth c H locs G cI cR σ N A lsA F D E)
  · exact lv_if_ge F.1 F.2.1 hd ht (fun q => h1 (Int32.le_iff_toInt_le.mp q) p l e s m args below meth c H locs G cI cR σ N A lsA F D E) (fun q => hk _ _ _ (h2 (fun w => q (Int32.le_iff_toInt_le.mpr w))) p l e s m args below meth c H locs G cI cR σ N A lsA F D E)
  · exact lv_if_gt F.1 F.2.1 hd ht (fun q => h1 (Int32.lt_iff_toInt_lt.mp q) p l e s m args below meth c H locs G cI cR σ N A lsA F D E) (fun q => hk _ _ _ (h2 (fun w => q (Int32.lt_iff_toInt_lt.mpr w))) p l e s m args below meth c H locs G cI cR σ N A lsA F D E)
  · exact lv_if_le F.1 F.2.1 hd ht (fun q => h1 (Int32.le_iff_toInt_le.mp q) p l e s m args below meth c H locs G cI cR σ N A lsA F D E) (fun q => hk _ _ _ (h2 (fun w => q (Int32.le_iff_toInt_le.mpr w))) p l e s m args below meth c H locs G cI cR σ N A lsA F D E)
theorem so_if_icmp (cd : ClassFile.Cond) (o : Int) : stepOK M pc n (.if_icmp cd o) := by
  intro i f L st h Q k hd hc ho hs hk
  simp only [chk1, Bool.and_eq_true, Bool.or_eq_true, decide_eq_true_eq] at hc
  obtain ⟨rfl, rfl, ht⟩ := hc
  rcases f with ⟨a, b, z, l⟩ | q
  rotate_left
  · exact absurd hs id
  simp only [tgtI, decide_eq_true_eq] at ht
  obtain ⟨x, y, st, rfl, h1, h2⟩ := p2_sp hs
  intro p l e s m args below meth c H locs G cI cR σ N A lsA F D E
  cases cd
  · exact lv_icmp_eq F.1 F.2.1 hd ht (fun q => h1 (Int32.toInt_inj.mpr q) p l e s m args below meth c H locs G cI cR σ N A lsA F D E) (fun q => hk _ _ _ (h2 (fun w => q (Int32.toInt_inj.mp w))) p l e s m args below meth c H locs G cI cR σ N A lsA F D E)
  · exact lv_icmp_ne F.1 F.2.1 hd ht (fun q => h1 (fun w => q (Int32.toInt_inj.mp w)) p l e s m args below meth c H locs G cI cR σ N A lsA F D E) (fun q => hk _ _ _ (h2 (fun w => w (Int32.toInt_inj.mpr q))) p l e s m args below meth c H locs G cI cR σ N A lsA F D E)
  · exact lv_icmp_lt F.1 F.2.1 hd ht (fun q => h1 (Int32.lt_iff_toInt_lt.mp q) p l e s m args below meth c H locs G cI cR σ N A lsA F D E) (fun q => hk _ _ _ (h2 (fun w => q (Int32.lt_iff_toInt_lt.mpr w))) p l e s m args below meth c H locs G cI cR σ N A lsA F D E)
  · exact lv_icmp_ge F.1 F.2.1 hd ht (fun q => h1 (Int32.le_iff_toInt_le.mp q) p l e s m args below meth c H locs G cI cR σ N A lsA F D E) (fun q => hk _ _ _ (h2 (fun w => q (Int32.le_iff_toInt_le.mpr w))) p l e s m args below meth c H locs G cI cR σ N A lsA F D E)
  · exact lv_icmp_gt F.1 F.2.1 hd ht (fun q => h1 (Int32.lt_iff_toInt_lt.mp q) p l e s m args below meth c H locs G cI cR σ N A lsA F D E) (fun q => hk _ _ _ (h2 (fun w => q (Int32.lt_iff_toInt_lt.mpr w))) p l e s m args below meth c H locs G cI cR σ N A lsA F D E)
  · exact lv_icmp_le F.1 F.2.1 hd ht (fun q => h1 (Int32.le_iff_toInt_le.mp q) p l e s m args below meth c H locs G cI cR σ N A lsA F D E) (fun q => hk _ _ _ (h2 (fun w => q (Int32.le_iff_toInt_le.mpr w))) p l e s m args below meth c H locs G cI cR σ N A lsA F D E)
theorem so_ifnull (o : Int) : stepOK M pc n (.ifnull o) := by
  intro i f L st h Q k hd hc ho hs hk
  simp only [chk1, Bool.and_eq_true, Bool.or_eq_true, decide_eq_true_eq] at hc
  obtain ⟨rfl, rfl⟩ := hc
  obtain ⟨a, st, rfl, hs⟩ := pA_sp hs
  intro p l e s m args below meth c H locs G cI cR σ N A lsA F D E
  exact lv_ifnull F.1 F.2.1 hd (hk _ _ _ hs p l e s m args below meth c H locs G cI cR σ N A lsA F D E)
theorem so_ifnonnull (o : Int) : stepOK M pc n (.ifnonnull o) := by
  intro i f L st h Q k hd hc ho hs hk
  simp only [chk1, Bool.and_eq_true, Bool.or_eq_true, decide_eq_true_eq] at hc
  obtain ⟨rfl, rfl, ht⟩ := hc
  rcases f with ⟨a, b, z, l⟩ | q
  rotate_left
  · exact absurd hs id
  simp only [tgtI, decide_eq_true_eq] at ht
  obtain ⟨a, st, rfl, hs⟩ := pA_sp hs
  intro p l e s m args below meth c H locs G cI cR σ N A lsA F D E
  exact lv_ifnonnull F.1 F.2.1 hd ht (hs p l e s m args below meth c H locs G cI cR σ N A lsA F D E)
theorem swT_sp {L : List (Option Value)} {st : List Value} {h : AH} {Q : Option Value → AH → Prop} {x : Int} : ∀ {z : Int} {l : List Nat}, swT M L st h Q x z l → ∀ {j : Nat} {t : Nat}, l[j]? = some t → x = z + (j : Int) → J M t L st h Q
  | _, [], _, _, _, hj, _ => by simp at hj
  | z, t0 :: ts, hs, j, t, hj, hx => by
    cases j with
    | zero =>
      simp only [List.getElem?_cons_zero, Option.some.injEq] at hj
      subst hj
      exact hs.1 (by simpa using hx)
    | succ j => exact swT_sp (z := z + 1) (l := ts) hs.2 (by simpa using hj) (by rw [hx]; omega)
theorem so_tableswitch (d lo hi : Int) (os : Array Int) : stepOK M pc n (.tableswitch d lo hi os) := by
  intro i f L st h Q k hd hc ho hs hk
  simp only [chk1, Bool.and_eq_true, Bool.or_eq_true, decide_eq_true_eq] at hc
  obtain ⟨rfl, ht, hr⟩ := hc
  rcases f with ⟨a, b, z, tl⟩ | q
  rotate_left
  · exact absurd hs id
  simp only [tgtI, decide_eq_true_eq] at ht
  simp only [Bool.and_eq_true, decide_eq_true_eq] at hr
  obtain ⟨rfl, hz, hl⟩ := hr
  obtain ⟨x, st, rfl, h1, h2⟩ := p1_sp hs
  intro p l e s m args below meth c H locs G cI cR σ N A lsA F D E
  by_cases hx : x.toInt < z ∨ hi < x.toInt
  · exact lv_tableOut F.1 F.2.1 hd hx ht (h2 (by omega) p l e s m args below meth c H locs G cI cR σ N A lsA F D E)
  · have hj : (x.toInt - z).toNat < tl.length := by omega
    have hlo : tl[(x.toInt - z).toNat]? = some (tl[(x.toInt - z).toNat]) := List.getElem?_eq_getElem hj
    have hm : (os.toList.map (fun q => (pc : Int) + q))[(x.toInt - z).toNat]? = some ((tl[(x.toInt - z).toNat] : Nat) : Int) := by rw [hl]; simp [hlo]
    obtain ⟨off, ho1, ho2⟩ : ∃ off, os[(x.toInt - z).toNat]? = some off ∧ (pc : Int) + off = ((tl[(x.toInt - z).toNat] : Nat) : Int) := by
      rw [List.getElem?_map] at hm
      cases hq : os.toList[(x.toInt - z).toNat]? with
      | none => rw [hq] at hm; cases hm
      | some off =>
        rw [hq] at hm
        exact ⟨off, by rw [← Array.getElem?_toList]; exact hq, Option.some.inj hm⟩
    exact lv_tableIn F.1 F.2.1 hd (by omega) (by omega) ho1 ho2 (swT_sp h1 hlo (by omega) p l e s m args below meth c H locs G cI cR σ N A lsA F D E)
theorem qc_ret {M : MD} {p : Program} {s : State} {m : MethodId} {args : Array Value} {meth : Method} {c : Code} {G : va_G} {cI cR : ClassId} {A : Nat → Prop} {σ : Nat → Nat} {N : Nat} {h : AH} {H : Heap} {locs : List Loc} {Q : Option Value → AH → Prop} (F : Fix M p s m args meth c G cI cR A) (D : Dyn s G cI cR σ N A h H locs) {v : Option Value} (hq : Q v h) : ∀ t : State, t.heap = H → s.WarmedH t.vm → QC G cI cR σ N A Q args s (.returned (v.map (cv σ))) t := by
  intro t ht hW
  exact ⟨⟨v, h, hq, rfl, by rw [ht]; exact D.1, va_K.moved hW.alike F.2.2.2.2.2.2.2.1, D.2.1, D.2.2.2⟩, D.2.2.1.F ht⟩
theorem so_ireturn : stepOK M pc n .ireturn := by
  intro i f L st h Q k hd hc ho hs hk
  simp only [chk1, Bool.and_eq_true, Bool.or_eq_true, decide_eq_true_eq] at hc
  obtain ⟨rfl, rfl, hr⟩ := hc
  rcases f with ⟨a, b, z, l⟩ | q
  rotate_left
  · exact absurd hs id
  obtain ⟨x, st, rfl, rfl, hx, hs2⟩ := p1_sp hs
  intro p l e s m args below meth c H locs G cI cR σ N A lsA F D E
  have hlocks := F.2.2.2.2.2.1
  simp only [Bool.and_eq_true, Bool.or_eq_true, decide_eq_true_eq] at hr
  rcases hr with ⟨-, hr⟩ | ⟨rfl, hr⟩
  · exact W.iret F.1 F.2.1 (F.2.2.1.trans hr) (qc_ret (v := some (.int x)) F D hs2) D.2.2.1.2.2 hd
  · refine W.zret (ty := .boolean) F.1 F.2.1 (F.2.2.1.trans hr) ?_ (qc_ret (v := some (.int x)) F D hs2) D.2.2.1.2.2 hd
    rcases hx with hx | hx | hx
    · cases hx
    · rw [(i32_0 x).mpr hx]; rfl
    · rw [show x = 1 from Int32.toInt_inj.mp (by rw [hx]; rfl)]; rfl
theorem so_lreturn : stepOK M pc n .lreturn := by
  intro i f L st h Q k hd hc ho hs hk
  simp only [chk1, Bool.and_eq_true, Bool.or_eq_true, decide_eq_true_eq] at hc
  obtain ⟨rfl, rfl, hr⟩ := hc
  obtain ⟨x, st, rfl, rfl, hs2⟩ := pJ_sp hs
  intro p l e s m args below meth c H locs G cI cR σ N A lsA F D E
  have hlocks := F.2.2.2.2.2.1
  exact W.lret F.1 F.2.1 (F.2.2.1.trans hr) (qc_ret (v := some (.long x)) F D hs2) D.2.2.1.2.2 hd
theorem so_return_ : stepOK M pc n .return_ := by
  intro i f L st h Q k hd hc ho hs hk
  simp only [chk1, Bool.and_eq_true, Bool.or_eq_true, decide_eq_true_eq] at hc
  obtain ⟨rfl, rfl, hr⟩ := hc
  obtain ⟨rfl, hs2⟩ := hs
  intro p l e s m args below meth c H locs G cI cR σ N A lsA F D E
  have hlocks := F.2.2.2.2.2.1
  exact W.vret F.1 F.2.1 (F.2.2.1.trans hr) (qc_ret (v := none) F D hs2) D.2.2.1.2.2 hd
end SO
end
/-! calls -/
section
/-! ===== fields and calls ===== -/
theorem inP {i : Nat} {w : Cond} (h : (k2_sels lw_privs)[i]? = some w) (hg : goodWord w = true) : w ∈ WT := lw_WT (List.mem_append_left _ (List.mem_of_getElem? h)) hg
theorem inN0 {i : Nat} {w : Cond} (h : tables_1_1[i]? = some w) (hg : isNest w = true) : w ∈ NT := lw_NT (List.mem_append_right _ (List.mem_append_left _ (List.mem_of_getElem? h))) hg
theorem g9_ {i : Nat} {w : Cond} (h : tables_1_1[i]? = some w) (hg : goodWord w = true) : w ∈ WT := lw_WT (List.mem_append_right _ (List.mem_append_left _ (List.mem_of_getElem? h))) hg
theorem inN1 {i : Nat} {w : Cond} (h : tables_1_2[i]? = some w) (hg : isNest w = true) : w ∈ NT := lw_NT (List.mem_append_right _ (List.mem_append_right _ (List.mem_append_left _ (List.mem_of_getElem? h)))) hg
theorem ha_ {i : Nat} {w : Cond} (h : tables_1_2[i]? = some w) (hg : goodWord w = true) : w ∈ WT := lw_WT (List.mem_append_right _ (List.mem_append_right _ (List.mem_append_left _ (List.mem_of_getElem? h)))) hg
theorem inN2 {i : Nat} {w : Cond} (h : tables_1_3[i]? = some w) (hg : isNest w = true) : w ∈ NT := lw_NT (List.mem_append_right _ (List.mem_append_right _ (List.mem_append_right _ (List.mem_append_left _ (List.mem_of_getElem? h))))) hg
theorem hc_ {i : Nat} {w : Cond} (h : tables_1_3[i]? = some w) (hg : goodWord w = true) : w ∈ WT := lw_WT (List.mem_append_right _ (List.mem_append_right _ (List.mem_append_right _ (List.mem_append_left _ (List.mem_of_getElem? h))))) hg
theorem inN3 {i : Nat} {w : Cond} (h : tables_1_4[i]? = some w) (hg : isNest w = true) : w ∈ NT := lw_NT (List.mem_append_right _ (List.mem_append_right _ (List.mem_append_right _ (List.mem_append_right _ (List.mem_append_left _ (List.mem_of_getElem? h)))))) hg
theorem hg_ {i : Nat} {w : Cond} (h : tables_1_4[i]? = some w) (hg : goodWord w = true) : w ∈ WT := lw_WT (List.mem_append_right _ (List.mem_append_right _ (List.mem_append_right _ (List.mem_append_right _ (List.mem_append_left _ (List.mem_of_getElem? h)))))) hg
theorem inN4 {i : Nat} {w : Cond} (h : tables_1_5[i]? = some w) (hg : isNest w = true) : w ∈ NT := lw_NT (List.mem_append_right _ (List.mem_append_right _ (List.mem_append_right _ (List.mem_append_right _ (List.mem_append_right _ (List.mem_of_getElem? h)))))) hg
theorem hf_ {i : Nat} {w : Cond} (h : tables_1_5[i]? = some w) (hg : goodWord w = true) : w ∈ WT := lw_WT (List.mem_append_right _ (List.mem_append_right _ (List.mem_append_right _ (List.mem_append_right _ (List.mem_append_right _ (List.mem_of_getElem? h)))))) hg
def AllIn : List Cond → Prop
  | [] => True
  | w :: l => w ∈ WT ∧ AllIn l
theorem allIn_mem {l : List Cond} (h : AllIn l) : ∀ w ∈ l, w ∈ WT := by
  induction l with
  | nil => intro w hw; cases hw
  | cons a t ih =>
    intro w hw
    rcases List.mem_cons.mp hw with rfl | hw
    · exact h.1
    · exact ih h.2 w hw
theorem u_in0 : ∀ w ∈ u_ws RX0 TX0 2, w ∈ WT := allIn_mem ⟨(g9_ (i := 141) rfl rfl), (g9_ (i := 143) rfl rfl), trivial⟩
theorem u_in1 : ∀ w ∈ u_ws RX1 TX1 3, w ∈ WT := allIn_mem ⟨(g9_ (i := 124) rfl rfl), (g9_ (i := 126) rfl rfl), (g9_ (i := 128) rfl rfl), trivial⟩
theorem u_in2 : ∀ w ∈ u_ws RX2 TX2 2, w ∈ WT := allIn_mem ⟨(g9_ (i := 93) rfl rfl), (g9_ (i := 95) rfl rfl), trivial⟩
theorem u_in3 : ∀ w ∈ u_ws RX3 TX3 2, w ∈ WT := allIn_mem ⟨(g9_ (i := 79) rfl rfl), (g9_ (i := 81) rfl rfl), trivial⟩
theorem u_in4 : ∀ w ∈ u_ws RX4 TX4 10, w ∈ WT := allIn_mem ⟨(g9_ (i := 45) rfl rfl), (g9_ (i := 47) rfl rfl), (g9_ (i := 49) rfl rfl), (g9_ (i := 51) rfl rfl), (g9_ (i := 53) rfl rfl), (g9_ (i := 55) rfl rfl), (g9_ (i := 57) rfl rfl), (g9_ (i := 59) rfl rfl), (g9_ (i := 61) rfl rfl), (g9_ (i := 63) rfl rfl), trivial⟩
theorem u_in5 : ∀ w ∈ u_ws RX5 TX5 2, w ∈ WT := allIn_mem ⟨(g9_ (i := 108) rfl rfl), (g9_ (i := 110) rfl rfl), trivial⟩
theorem u_in6 : ∀ w ∈ u_ws RX6 TX6 10, w ∈ WT := allIn_mem ⟨(g9_ (i := 156) rfl rfl), (g9_ (i := 158) rfl rfl), (g9_ (i := 160) rfl rfl), (g9_ (i := 162) rfl rfl), (g9_ (i := 164) rfl rfl), (g9_ (i := 166) rfl rfl), (g9_ (i := 168) rfl rfl), (g9_ (i := 170) rfl rfl), (g9_ (i := 172) rfl rfl), (g9_ (i := 174) rfl rfl), trivial⟩
theorem u_in7 : ∀ w ∈ u_ws RX7 TX7 33, w ∈ WT := allIn_mem ⟨(hg_ (i := 33) rfl rfl), (hg_ (i := 35) rfl rfl), (hg_ (i := 37) rfl rfl), (hg_ (i := 39) rfl rfl), (hg_ (i := 41) rfl rfl), (hg_ (i := 43) rfl rfl), (hg_ (i := 45) rfl rfl), (hg_ (i := 47) rfl rfl), (hg_ (i := 49) rfl rfl), (hg_ (i := 51) rfl rfl), (hg_ (i := 53) rfl rfl), (hg_ (i := 55) rfl rfl), (hg_ (i := 57) rfl rfl), (hg_ (i := 59) rfl rfl), (hg_ (i := 61) rfl rfl), (hg_ (i := 63) rfl rfl), (hg_ (i := 65) rfl rfl), (hg_ (i := 67) rfl rfl), (hg_ (i := 69) rfl rfl), (hg_ (i := 71) rfl rfl), (hg_ (i := 73) rfl rfl), (hg_ (i := 75) rfl rfl), (hg_ (i := 77) rfl rfl), (hg_ (i := 79) rfl rfl), (hg_ (i := 81) rfl rfl), (hg_ (i := 83) rfl rfl), (hg_ (i := 85) rfl rfl), (hg_ (i := 87) rfl rfl), (hg_ (i := 89) rfl rfl), (hg_ (i := 91) rfl rfl), (hg_ (i := 93) rfl rfl), (hg_ (i := 95) rfl rfl), (hg_ (i := 97) rfl rfl), trivial⟩
theorem clsF {ci : Nat} {C : String} {T : u_T} {N : Nat} (h : vwCl[ci]? = some (C, T, N)) : (∀ w ∈ u_ws C T N, w ∈ WT) ∧ (∃ ty0 : Nat → FieldType, ∀ k, k < N → parseFieldDescriptor (T k).2.2.1 = some (ty0 k)) ∧ ∀ a, a < N → ∀ b, b < N → a ≠ b → (T a).2.1 ≠ (T b).2.1 := by
  match ci, h with
  | 0, h => cases h; exact ⟨u_in0, ⟨tyX0, tyX0_ok⟩, nmX0⟩
  | 1, h => cases h; exact ⟨u_in1, ⟨tyX1, tyX1_ok⟩, nmX1⟩
  | 2, h => cases h; exact ⟨u_in2, ⟨tyX2, tyX2_ok⟩, nmX2⟩
  | 3, h => cases h; exact ⟨u_in3, ⟨tyX3, tyX3_ok⟩, nmX3⟩
  | 4, h => cases h; exact ⟨u_in4, ⟨tyX4, tyX4_ok⟩, nmX4⟩
  | 5, h => cases h; exact ⟨u_in5, ⟨tyX5, tyX5_ok⟩, nmX5⟩
  | 6, h => cases h; exact ⟨u_in6, ⟨tyX6, tyX6_ok⟩, nmX6⟩
  | 7, h => cases h; exact ⟨u_in7, ⟨tyX7, tyX7_ok⟩, nmX7⟩
  | k + 8, h => simp [vwCl] at h
theorem goodApp {big a b : List Cond} (ha : GoodIn big a) (hb : GoodIn big b) : GoodIn big (a ++ b) := fun w h => (List.mem_append.mp h).elim (ha w) (hb w)
theorem vw_cnm {k : Nat} {q : vw_C} (h : vwCl[k]? = some q) : q.1 = cnm k := by
  match k, h with
  | 0, h => cases h; rfl
  | 1, h => cases h; rfl
  | 2, h => cases h; rfl
  | 3, h => cases h; rfl
  | 4, h => cases h; rfl
  | 5, h => cases h; rfl
  | 6, h => cases h; rfl
  | 7, h => cases h; rfl
  | k + 8, h => simp [vwCl] at h
section SO
variable {M : MD} {pc n : Nat}
theorem so_getfield (x : Nat) : stepOK M pc n (.getfield x) := by
  intro i f L st h Q k hd hc ho hs hk
  simp only [chk1, Bool.and_eq_true, Bool.or_eq_true, decide_eq_true_eq] at hc
  obtain ⟨rfl, rfl⟩ := hc
  rcases f with ⟨ci, sl, z, l⟩ | q
  rotate_left
  · exact absurd hs id
  obtain ⟨C, T, N', hcl, hsl, hC, hpos⟩ := ho
  obtain ⟨r, st, rfl, hs⟩ := pA_sp hs
  obtain ⟨cj, fs, hr, hcj, hs2⟩ := gObj_sp hs
  subst hcj
  obtain ⟨v, hv, hs3⟩ := gF_sp hs2
  intro p l e s m args below meth c H locs G cI cR σ N A lsA F D E
  · obtain ⟨hu, ⟨ty0, hty⟩, hnm⟩ := clsF hcl
    have hvm : (fs.map (cv σ))[sl]? = some (cv σ v) := by rw [List.getElem?_map, hv]; rfl
    rcases hpos with hpos | hpos
    · exact va_get (Ts := WT) F.1 F.2.1 F.2.2.2.2.2.2.1 hu F.2.2.2.2.1 F.2.2.2.2.2.2.2.1 D.1 r (wd_get D.2.2.2 hr) hcl sl hsl (F.2.2.2.2.2.2.1 _ hpos) (fun x hx => by rw [← hC]; exact hx) hvm hd (hk _ _ _ hs3 p l e s m args below meth c H locs G cI cR σ N A lsA F D E)
    · exact va_getN (Ts := WT) F.1 F.2.1 F.2.2.2.2.2.2.1 hu F.2.2.2.2.1 F.2.2.2.2.2.2.2.1 D.1 r (wd_get D.2.2.2 hr) hcl sl hsl (va_Nw.use rfl (F.2.2.2.2.2.2.2.2.2 _ hpos)) (fun x hx => by rw [← hC]; exact hx) hvm hd (hk _ _ _ hs3 p l e s m args below meth c H locs G cI cR σ N A lsA F D E)
theorem fitV_sp {σ : Nat → Nat} {z : Int} {v : Value} (h : fitV z v) : narrow (tyOf z) (cv σ v) = cv σ v ∧ fits (tyOf z) (cv σ v) = true := by
  match z, v, h with
  | 0, .int x, _ => exact ⟨rfl, rfl⟩
  | 1, .int x, h =>
    have h : x.toInt = 0 ∨ x.toInt = 1 := h
    rcases h with h | h
    · rw [(i32_0 x).mpr h]; exact ⟨rfl, rfl⟩
    · rw [show x = 1 from Int32.toInt_inj.mp (by rw [h]; rfl)]; exact ⟨rfl, rfl⟩
  | 2, .ref x, _ => exact ⟨rfl, rfl⟩
theorem map_set_cv (σ : Nat → Nat) (fs : List Value) (sl : Nat) (v : Value) : (fs.map (cv σ)).set sl (cv σ v) = (sF fs sl v).map (cv σ) := by
  rw [sF_set, List.map_set]
theorem so_putfield (x : Nat) : stepOK M pc n (.putfield x) := by
  intro i f L st h Q k hd hc ho hs hk
  simp only [chk1, Bool.and_eq_true, Bool.or_eq_true, decide_eq_true_eq] at hc
  obtain ⟨rfl, rfl⟩ := hc
  rcases f with ⟨ci, sl, z, l⟩ | q
  rotate_left
  · exact absurd hs id
  obtain ⟨⟨C, T, N', hcl, hsl, hC, hpos⟩, ⟨C', T', N'', hcl', hcp⟩⟩ := ho
  rw [hcl] at hcl'
  injection hcl' with hcl'
  injection hcl' with e1 e2
  injection e2 with e2 e3
  subst e1 e2 e3
  obtain ⟨v, st, rfl, hvc, hs⟩ := pV_sp hs
  obtain ⟨r, st, rfl, hs⟩ := pA_sp hs
  obtain ⟨cj, fs, hr, hcj, hlt, hfit, hs2⟩ := gObj_sp hs
  subst hcj
  intro p l e s m args below meth c H locs G cI cR σ N A lsA F D E
  · obtain ⟨hu, ⟨ty0, hty⟩, hnm⟩ := clsF hcl
    obtain ⟨f1, f2⟩ := fitV_sp (σ := σ) hfit
    have hlen : sl < (fs.map (cv σ)).length := by rw [List.length_map]; exact hlt
    have e0 := wd_set (cI := cI) (cR := cR) (σ := σ) (N := N) (h := h) (.inr (.inr (cj, sF fs sl v))) (hB_lt D.2.2.2 hr)
    have kk : ∀ (H1 : Heap) (locs1 : List Loc), va_P G vwCl ((wd cI cR σ N h).set r (σ r, .inr (cj, (fs.map (cv σ)).set sl (cv σ v)))) H1 → va_D A ((wd cI cR σ N h).set r (σ r, .inr (cj, (fs.map (cv σ)).set sl (cv σ v)))) → va_S A s.heap H1 locs1 → W p l e (rmd (mD M)) s m args below meth c H1 locs1 0 0 (MQ below (QC G cI cR σ N A Q) args s 0 0 A) (F0 m (pc + 3) lsA (st.map (cv σ))) := by
      intro H1 locs1 hP hD hS
      rw [map_set_cv] at hP hD
      refine hk _ _ _ hs2 p l e s m args below meth c H1 locs1 G cI cR σ N A lsA F ⟨?_, ?_, hS, hB_U D.2.2.2 (hB_lt D.2.2.2 hr)⟩ E
      · rw [← e0]; exact hP
      · rw [← e0]; exact hD
    rcases hpos with hpos | hpos
    · exact va_put (Ts := WT) F.1 F.2.1 F.2.2.2.2.2.2.1 hu ty0 hty hnm F.2.2.2.2.1 F.2.2.2.2.2.2.2.1 D.1 D.2.1 D.2.2.1 r (wd_get D.2.2.2 hr) hcl sl hsl (F.2.2.2.2.2.2.1 _ hpos) (fun x hx => by rw [← hC]; exact hx) hcp.1 hcp.2 f1 f2 hlen hd kk
    · exact va_putN (Ts := WT) F.1 F.2.1 F.2.2.2.2.2.2.1 hu ty0 hty hnm F.2.2.2.2.1 F.2.2.2.2.2.2.2.1 D.1 D.2.1 D.2.2.1 r (wd_get D.2.2.2 hr) hcl sl hsl (va_Nw.use rfl (F.2.2.2.2.2.2.2.2.2 _ hpos)) (fun x hx => by rw [← hC]; exact hx) hcp.1 hcp.2 f1 f2 hlen hd kk
theorem cat_sum {σ : Nat → Nat} {st : List Value} (h : st.length ≤ 4) : ((st.map (cv σ)).map fun v => v.category).sum ≤ 8 := by
  have : ∀ st : List Value, ((st.map (cv σ)).map fun v => v.category).sum ≤ 2 * st.length := by
    intro st
    induction st with
    | nil => exact Nat.le_refl 0
    | cons v t ih =>
      have : (cv σ v).category ≤ 2 := by rcases lv_cat (cv σ v) with q | q <;> omega
      simp only [List.map_cons, List.sum_cons, List.length_cons]
      omega
  have := this st
  omega
theorem preC1_blind {G : va_G} {cI cR : ClassId} {σ : Nat → Nat} {N sz : Nat} {h : AH} {av : List Value} : FrameBlind (va_Pc av (preC1 G cI cR σ N sz h)) :=
  fun a U g mk q => ⟨q.1, q.2.1, q.2.2.1, va_K.moved (u := U) (U := U.calling g mk a) (Vm.Alike.refl U.vm) q.2.2.2.1, q.2.2.2.2.1, NW.same (s := U) (U := U.calling g mk a) rfl q.2.2.2.2.2⟩
theorem push_cv (σ : Nat → Nat) (v : Option Value) (st : List Value) : (v.map (cv σ)).toList ++ st.map (cv σ) = (pushO v st).map (cv σ) := by
  cases v <;> rfl
/-- behind a call of a method that has a contract -/
theorem call_go {p : Program} {l : Launch} {e : Env} {s : State} {m : MethodId} {args : Array Value} {below : List Frame} {meth : Method} {c : Code} {H : Heap} {locs : List Loc} {G : va_G} {cI cR : ClassId} {σ : Nat → Nat} {N : Nat} {A : Nat → Prop} {lsA : Array Slot} {L : List (Option Value)} {h : AH} {Q Q1 : Option Value → AH → Prop} {st0 : List Value} {rest : List Value} {a : Array Value}
    (F : Fix M p s m args meth c G cI cR A) (D : Dyn s G cI cR σ N A h H locs) (E : LL σ lsA (mL M) L)
    (run : va_Run p l e (rmd (mD M)) s m args below meth c H locs 0 0 0 0 (F0 m pc lsA st0) (rest.map (cv σ)) (QC G cI cR σ N (va_A (wd cI cR σ N h) H.size) Q1 a) (va_A (wd cI cR σ N h) H.size))
    (kk : ∀ v h', Q1 v h' → J M (pc + 3) L (pushO v rest) h' Q) : W p l e (rmd (mD M)) s m args below meth c H locs 0 0 (MQ below (QC G cI cR σ N A Q) args s 0 0 A) (F0 m pc lsA st0) := by
  intro T hT X
  obtain ⟨v, st₀, t, T', L', h0, X', hL, e1, e2, ⟨⟨v', h', hQ, hoc, hP', hK', hD', hB'⟩, hz, hkk⟩, st⟩ := run T hT X
  injection hoc with hoc
  subst hoc
  rw [h0] at hz hkk
  have hsub : ∀ q, va_A (wd cI cR σ N h) H.size q → A q := by
    intro q hq
    rcases hq with ⟨k, e, hk⟩ | hq
    · exact D.2.1.2 k _ hk
    · exact F.2.2.2.2.2.2.2.2.1 q (Nat.le_trans D.2.2.1.1 hq)
  have hS : va_S A s.heap T'.heap (locs ++ L') := by
    refine ⟨Nat.le_trans D.2.2.1.1 (by rw [e1]; exact hz), fun q h1 h2 => ?_, fun q hq => ?_⟩
    · rw [e1, hkk q (Nat.lt_of_lt_of_le h1 D.2.2.1.1) (fun z => h2 (hsub q z))]
      exact D.2.2.1.2.1 q h1 h2
    · rcases List.mem_append.mp hq with h | h
      · exact D.2.2.1.2.2 q h
      · exact hsub _ (hL q h)
  obtain ⟨t2, a1, b1⟩ := kk v' h' hQ p l e s m args below meth c T'.heap (locs ++ L') G cI cR σ N A lsA F ⟨by rw [e1]; exact hP', hD'.weaken (fun k q _ hq => hsub _ hq), hS, hB'⟩ E T' rfl X'
  rw [← push_cv] at a1
  exact ⟨t2, st t2 a1, b1⟩
theorem so_invokevirtual (x : Nat) : stepOK M pc n (.invokevirtual x) := by
  intro i f L st h Q k hd hc ho hs hk
  simp only [chk1, Bool.and_eq_true, Bool.or_eq_true, decide_eq_true_eq] at hc
  obtain ⟨rfl, rfl⟩ := hc
  rcases f with q | ⟨na, ci, Y⟩
  · exact absurd hs id
  obtain ⟨⟨hY, hV⟩, hn, hci, hdp⟩ := ho
  obtain ⟨bs, rest0, rfl, hlen, hs⟩ := popN_sp hs
  obtain ⟨r, rest, rfl, hs⟩ := pA_sp hs
  obtain ⟨cj, fs, hr, hcj, hrl, hs⟩ := gObj_sp hs
  rw [List.append_nil] at hs
  intro p l e s m args below meth c H locs G cI cR σ N A lsA F D E
  obtain ⟨g1, g2, g3, g4, g5, g6, g7⟩ := okM_sp hY
  have hG : GoodIn WT (wsV (cnm (mO M)) x (cnm (mO Y)) (mY Y) (wsM Y)) := by
    refine goodApp (a := [.methodLink (cnm (mO M)) x (mY Y), .instanceMethod (mY Y), .selects (cnm (mO Y)) (mY Y) (mY Y), .initialized (cnm (mO Y))]) ?_ ?_
    · intro w hw
      apply WT_good
      simp only [List.mem_cons, List.not_mem_nil, or_false] at hw
      rcases hw with rfl | rfl | rfl | rfl
      · exact hV.1
      · exact hV.2.1
      · rw [← g4]; exact hV.2.2
      · rw [← g4]; exact g2
    · intro w hw
      rcases List.mem_cons.mp hw with rfl | hw
      · exact WT_good _ g1
      · exact WT_good _ hw
  have cw : CallW (rmd (mD M)) s args (cnm (mO M)) (cnm (mO Y)) x (mY Y) (mB Y) (mL Y) (mR Y) (wsM Y) (rmd (mD Y)) 0 0 (mN Y) := cwV (mN Y) F.2.2.2.2.2.2.1 hG rfl rfl rfl ⟨g4, g5.1, g5.2, g6⟩ ⟨by show mD Y + 1 ≤ mD M; omega, by show 8 + (mL Y + 11) + 40 * mD Y ≤ 40 * mD M; omega⟩
  have hw := wd_get (cI := cI) (cR := cR) (σ := σ) D.2.2.2 hr
  obtain ⟨q, hq, -⟩ := D.1 r _ hw
  have hrecv := va_recv F.2.2.2.2.2.2.2.1 D.1 (ci := cj) (q0 := r) hq hw
  rw [vw_cnm hq, hcj, hci] at hrecv
  refine call_go F D E (Q1 := fun v h' => k L (pushO v rest) h') (rest := rest) (va_runV (As := bs.map (cv σ)) ⟨F.1, F.2.1, F.2.2.2.1, F.2.2.2.2.1, F.2.2.2.2.2.2.1⟩ (hs l G cI cR σ N H.size D.2.2.2) cw ⟨preC1_blind, hrecv, fun U hU hW => ⟨rfl, by rw [hU], by rw [hU]; exact D.1, va_K.moved hW.alike F.2.2.2.2.2.2.2.1, D.2.1.weaken (fun _ _ _ _ => trivial), NW.warm hW F.2.2.2.2.2.2.2.2.2⟩⟩ rfl (by rw [List.length_map, hlen, hn]) E.1 (by simp [cv]) (lv_room (cat_sum hrl)) hd ⟨Nat.zero_le _, Nat.zero_le _⟩) (fun v h' hq => hk _ _ _ hq)
theorem max_zI (x y : Int32) : (if x < y then y else x) = zI (max x.toInt y.toInt) := by
  by_cases h : x < y
  · rw [if_pos h, Int.max_eq_right (Int.le_of_lt (Int32.lt_iff_toInt_lt.mp h))]
    exact (Int32.ofInt_toInt y).symm
  · rw [if_neg h, Int.max_eq_left (Int.not_lt.mp (fun q => h (Int32.lt_iff_toInt_lt.mpr q)))]
    exact (Int32.ofInt_toInt x).symm
theorem min_zI (x y : Int32) : (if y < x then y else x) = zI (min x.toInt y.toInt) := by
  by_cases h : y < x
  · rw [if_pos h, Int.min_eq_right (Int.le_of_lt (Int32.lt_iff_toInt_lt.mp h))]
    exact (Int32.ofInt_toInt y).symm
  · rw [if_neg h, Int.min_eq_left (Int.not_lt.mp (fun q => h (Int32.lt_iff_toInt_lt.mpr q)))]
    exact (Int32.ofInt_toInt x).symm
theorem arrV_congr (cI : ClassId) (n : Nat) (f g : Nat → Value) (h : ∀ j, j < n → f j = g j) : arrV cI n f = arrV cI n g := by
  simp only [arrV]
  congr 2
  funext j
  exact h j.val j.isLt
theorem so_invokestatic (x : Nat) : stepOK M pc n (.invokestatic x) := by
  intro i f L st h Q k hd hc ho hs hk
  simp only [chk1, Bool.and_eq_true, Bool.or_eq_true, decide_eq_true_eq] at hc
  obtain ⟨rfl, rfl⟩ := hc
  rcases f with ⟨kk, b, z, tl⟩ | ⟨na, ci, Y⟩
  · obtain ⟨ho, hdp⟩ := ho
    match kk, ho, hs with
    | 1, ho, hs =>
      have hV := ho
      obtain ⟨y1, y2, st, rfl, hl, hs⟩ := p2_sp hs
      intro p l e s m args below meth c H locs G cI cR σ N A lsA F D E
      refine va_mmax (R := rmd (mD M)) F.1 F.2.1 (F.2.2.2.1.trans E.1.symm) F.2.2.2.2.1 (F.2.2.2.2.2.2.1 _ hV.1) (F.2.2.2.2.2.2.1 _ hV.2.1) (F.2.2.2.2.2.2.1 _ hV.2.2.1) (F.2.2.2.2.2.2.1 _ hV.2.2.2) hdp ?_ (Nat.zero_le _) (Nat.zero_le _) hd ?_
      · have := cat_sum (σ := σ) hl
        show _ ≤ 40 * mD M
        omega
      · rw [max_zI]
        exact hk _ _ _ hs p l e s m args below meth c H locs G cI cR σ N A lsA F D E
    | 2, ho, hs =>
      have hV := ho
      obtain ⟨y1, y2, st, rfl, hl, hs⟩ := p2_sp hs
      intro p l e s m args below meth c H locs G cI cR σ N A lsA F D E
      refine va_mmin (R := rmd (mD M)) F.1 F.2.1 (F.2.2.2.1.trans E.1.symm) F.2.2.2.2.1 (F.2.2.2.2.2.2.1 _ hV.1) (F.2.2.2.2.2.2.1 _ hV.2.1) (F.2.2.2.2.2.2.1 _ hV.2.2.1) (F.2.2.2.2.2.2.1 _ hV.2.2.2) hdp ?_ (Nat.zero_le _) (Nat.zero_le _) hd ?_
      · have := cat_sum (σ := σ) hl
        show _ ≤ 40 * mD M
        omega
      · rw [min_zI]
        exact hk _ _ _ hs p l e s m args below meth c H locs G cI cR σ N A lsA F D E
    | 3, ho, hs =>
      have hV := ho
      obtain ⟨dp, nn, st, rfl, hs⟩ := p2_sp hs
      obtain ⟨a, st, rfl, hs⟩ := pA_sp hs
      obtain ⟨sp, st, rfl, hs⟩ := p1_sp hs
      obtain ⟨a0, st, rfl, hs⟩ := pA_sp hs
      obtain ⟨n0, g, ha0, hs⟩ := gArr_sp hs
      obtain ⟨n1, g1, ha, hl, z1, z2, z3, hn1, hs2⟩ := gArr_sp hs
      subst hn1
      intro p l e s m args below meth c H locs G cI cR σ N A lsA F D E
      have t1 : sp.toNatClampNeg = 0 := by show sp.toInt.toNat = 0; omega
      have t2 : dp.toNatClampNeg = 0 := by show dp.toInt.toNat = 0; omega
      have t3 : nn.toNatClampNeg = n0 := by show nn.toInt.toNat = n0; omega
      have neg : ∀ y : Int32, 0 ≤ y.toInt → ¬ y < 0 := fun y hy q => by
        have := Int32.lt_iff_toInt_lt.mp q
        simp at this
        omega
      refine va_copyi (R := rmd (mD M)) F.1 F.2.1 (F.2.2.2.1.trans E.1.symm) F.2.2.2.2.1 (F.2.2.2.2.2.2.1 _ hV.1) (F.2.2.2.2.2.2.1 _ hV.2.2.2) (F.2.2.2.2.2.2.1 _ hV.2.1) (F.2.2.2.2.2.2.1 _ hV.2.2.1) F.2.2.2.2.2.2.2.1 D.1 D.2.1 D.2.2.1 a0 a 0 0 (wd_get D.2.2.2 ha0) (wd_get D.2.2.2 ha) rfl rfl rfl (neg sp (by omega)) (neg dp (by omega)) (neg nn (by omega)) (by omega) (by omega) (fun _ _ => rfl) hdp ?_ hd (fun H1 locs1 hP hD hS => ?_)
      · have := cat_sum (σ := σ) hl
        have : nativeFrameWords "java/lang/System" "arraycopy" 5 = 7 := by decide +kernel
        show _ ≤ 40 * mD M
        omega
      · have e0 := wd_set (cI := cI) (cR := cR) (σ := σ) (N := N) (h := h) (.inl (n0, g)) (hB_lt D.2.2.2 ha)
        rw [t1, t2, t3] at hP hD
        have hca : vp_cell cI (n0, .inl (va_cpy g g1 0 0 n0)) = vp_cell cI (n0, .inl g) := by
          rw [vp_cell_i, vp_cell_i]
          refine arrV_congr _ _ _ _ (fun j hj => ?_)
          simp only [va_cpy]
          rw [if_pos (by omega)]
          simp
        refine hk _ _ _ hs2 p l e s m args below meth c H1 locs1 G cI cR σ N A lsA F ⟨?_, ?_, hS, hB_U D.2.2.2 (hB_lt D.2.2.2 ha)⟩ E
        · rw [← e0]
          intro k q hq
          have hlen : a < (wd cI cR σ N h).length := by
            have := wd_get (cI := cI) (cR := cR) (σ := σ) D.2.2.2 ha
            exact (List.getElem?_eq_some_iff.mp this).1
          by_cases hka : k = a
          · subst hka
            have h1 := hP k (σ k, .inl (cI, n0, .inl (va_cpy g g1 0 0 n0))) (by simp [hlen])
            have h2 : q = (σ k, ce cI cR σ (.inl (n0, g))) := by
              rw [List.getElem?_set_self hlen] at hq
              exact (Option.some.inj hq).symm
            subst h2
            have h3 : H1[σ k]? = some (vp_cell cI (n0, .inl (va_cpy g g1 0 0 n0))) := h1
            rw [hca] at h3
            exact h3
          · refine hP k q ?_
            rw [List.getElem?_set_ne (fun z => hka z.symm)] at hq ⊢
            exact hq
        · rw [← e0]
          refine ⟨fun i j x y hx hy hxy => ?_, fun k q hq => ?_⟩
          · have up : ∀ {i : Nat} {x : Nat × va_E}, ((wd cI cR σ N h).set a (σ a, ce cI cR σ (.inl (n0, g))))[i]? = some x → ∃ x', ((wd cI cR σ N h).set a (σ a, .inl (cI, n0, .inl (va_cpy g g1 0 0 n0))))[i]? = some x' ∧ x'.1 = x.1 := by
              intro i x hx
              by_cases hia : i = a
              · subst hia
                have hlen := (List.getElem?_eq_some_iff.mp hx).1
                rw [List.length_set] at hlen
                rw [List.getElem?_set_self hlen] at hx
                exact ⟨_, List.getElem?_set_self hlen, by rw [← Option.some.inj hx]⟩
              · rw [List.getElem?_set_ne (fun z => hia z.symm)] at hx
                exact ⟨x, by rw [List.getElem?_set_ne (fun z => hia z.symm)]; exact hx, rfl⟩
            obtain ⟨x', hx', ex⟩ := up hx
            obtain ⟨y', hy', ey⟩ := up hy
            exact hD.1 i j x' y' hx' hy' (by rw [ex, ey, hxy])
          · by_cases hka : k = a
            · subst hka
              have hlen := (List.getElem?_eq_some_iff.mp hq).1
              rw [List.length_set] at hlen
              rw [List.getElem?_set_self hlen] at hq
              have := hD.2 k (σ k, .inl (cI, n0, .inl (va_cpy g g1 0 0 n0))) (List.getElem?_set_self hlen)
              rw [← Option.some.inj hq]
              exact this
            · refine hD.2 k q ?_
              rw [List.getElem?_set_ne (fun z => hka z.symm)] at hq ⊢
              exact hq
  · obtain ⟨⟨hY, hV⟩, hn, hdp⟩ := ho
    obtain ⟨bs, rest, rfl, hlen, hrl, hs⟩ := popN_sp hs
    rw [List.append_nil] at hs
    intro p l e s m args below meth c H locs G cI cR σ N A lsA F D E
    obtain ⟨g1, g2, g3, g4, g5, g6, g7⟩ := okM_sp hY
    have hG : GoodIn WT (wsM Y) := by
      intro w hw
      rcases List.mem_cons.mp hw with rfl | hw
      · exact WT_good _ g1
      · exact WT_good _ hw
    have hRm : (rmd (mD Y)).frames + 1 ≤ (rmd (mD M)).frames ∧ 8 + (mL Y + 11) + (rmd (mD Y)).locals ≤ (rmd (mD M)).locals := ⟨by show mD Y + 1 ≤ mD M; omega, by show 8 + (mL Y + 11) + 40 * mD Y ≤ 40 * mD M; omega⟩
    have hpre : PreS s H (va_Pc ((bs.map (cv σ))) (preC1 G cI cR σ N H.size h)) (bs.map (cv σ)) := ⟨preC1_blind, fun U hU hW => ⟨rfl, by rw [hU], by rw [hU]; exact D.1, va_K.moved hW.alike F.2.2.2.2.2.2.2.1, D.2.1.weaken (fun _ _ _ _ => trivial), NW.warm hW F.2.2.2.2.2.2.2.2.2⟩⟩
    rcases hV with ⟨hV | hV, hst⟩
    · have cw : CallB (rmd (mD M)) s args (cnm (mO M)) x (mY Y) (mB Y) (mL Y) (mR Y) (wsM Y) (rmd (mD Y)) 0 0 (mN Y) ∧ (Cond.static (mY Y)).before args s = true := ⟨callB_of (mN Y) F.2.2.2.2.2.2.1 hG rfl rfl rfl (F.2.2.2.2.2.2.1 _ g2) (F.2.2.2.2.2.2.1 _ hV) ⟨g5.1, g5.2, g6⟩ hRm, F.2.2.2.2.2.2.1 _ hst⟩
      exact call_go F D E (Q1 := fun v h' => k L (pushO v rest) h') (rest := rest) (va_runS (As := bs.map (cv σ)) ⟨F.1, F.2.1, F.2.2.2.1, F.2.2.2.2.1, F.2.2.2.2.2.2.1⟩ (hs l G cI cR σ N H.size D.2.2.2) cw hpre rfl (by rw [List.length_map, hlen, hn]) E.1 (by simp) (lv_room (cat_sum hrl)) hd ⟨Nat.zero_le _, Nat.zero_le _⟩) (fun v h' hq => hk _ _ _ hq)
    · have cw : va_CN (rmd (mD M)) s args (cnm (mO M)) x (mY Y) RX6 (mB Y) (mL Y) (mR Y) (wsM Y) (rmd (mD Y)) 0 0 (mN Y) ∧ (Cond.static (mY Y)).before args s = true ∧ True := ⟨va_cnB (mN Y) F.2.2.2.2.2.2.1 hG rfl rfl rfl (F.2.2.2.2.2.2.2.2.2 _ hV) (F.2.2.2.2.2.2.1 _ g2) ⟨g5.1, g5.2, g6⟩ hRm, F.2.2.2.2.2.2.1 _ hst, trivial⟩
      exact call_go F D E (Q1 := fun v h' => k L (pushO v rest) h') (rest := rest) (va_runSN (As := bs.map (cv σ)) ⟨F.1, F.2.1, F.2.2.2.1, F.2.2.2.2.1, F.2.2.2.2.2.2.1⟩ (hs l G cI cR σ N H.size D.2.2.2) cw hpre rfl (by rw [List.length_map, hlen, hn]) E.1 (by simp) (lv_room (cat_sum hrl)) hd ⟨Nat.zero_le _, Nat.zero_le _⟩) (fun v h' hq => hk _ _ _ hq)
end SO
theorem J_step {M : MD} {pc n : Nat} (i' : Instr) : stepOK M pc n i' := by
  cases i'
  case iload_n a => exact so_iload_n a
  case iload a => exact so_iload a
  case lload_n a => exact so_lload_n a
  case lload a => exact so_lload a
  case aload_n a => exact so_aload_n a
  case aload a => exact so_aload a
  case istore_n a => exact so_istore_n a
  case istore a => exact so_istore a
  case astore_n a => exact so_astore_n a
  case astore a => exact so_astore a
  case lstore_n a => exact so_lstore_n a
  case lstore a => exact so_lstore a
  case iinc a b => exact so_iinc a b
  case iconst a => exact so_iconst a
  case bipush a => exact so_bipush a
  case sipush a => exact so_sipush a
  case ldc a => exact so_ldc a
  case ldc_w a => exact so_ldc_w a
  case ldc2_w a => exact so_ldc2_w a
  case lconst a => exact so_lconst a
  case iadd => exact so_iadd
  case isub => exact so_isub
  case imul => exact so_imul
  case iand => exact so_iand
  case ior => exact so_ior
  case ixor => exact so_ixor
  case ishl => exact so_ishl
  case ishr => exact so_ishr
  case ladd => exact so_ladd
  case lsub => exact so_lsub
  case lmul => exact so_lmul
  case iushr => exact so_iushr
  case idiv => exact so_idiv
  case irem => exact so_irem
  case ineg => exact so_ineg
  case i2l => exact so_i2l
  case ldiv => exact so_ldiv
  case lrem => exact so_lrem
  case lcmp => exact so_lcmp
  case dup => exact so_dup
  case dup2 => exact so_dup2
  case pop => exact so_pop
  case arraylength => exact so_arraylength
  case iaload => exact so_iaload
  case iastore => exact so_iastore
  case aaload => exact so_aaload
  case aastore => exact so_aastore
  case goto a => exact so_goto a
  case ifCond a b => exact so_ifCond a b
  case if_icmp a b => exact so_if_icmp a b
  case ifnull a => exact so_ifnull a
  case ifnonnull a => exact so_ifnonnull a
  case tableswitch a b c d => exact so_tableswitch a b c d
  case ireturn => exact so_ireturn
  case lreturn => exact so_lreturn
  case return_ => exact so_return_
  case getfield a => exact so_getfield a
  case putfield a => exact so_putfield a
  case invokevirtual a => exact so_invokevirtual a
  case invokestatic a => exact so_invokestatic a
  all_goals (intro i f L st h Q k hd hc; exact absurd hc (by simp [chk1]))
abbrev BI : Type := Instr × Nat × INF
def chkB (M : MD) : Nat → List BI → Bool
  | _, [] => true
  | pc, e :: b => (match decode (mB M) pc with | .ok (i', n) => decide (n = e.2.1) && chk1 M pc i' n e.1 e.2.2 | .error _ => false) && chkB M (pc + e.2.1) b
def okB (M : MD) : List BI → Prop
  | [] => True
  | e :: b => okI M e.1 e.2.2 ∧ okB M b
def wpL (M : MD) (pc : Nat) (b : List BI) (L : List (Option Value)) (st : List Value) (h : AH) (Q : Option Value → AH → Prop) : Prop := match b with
  | [] => J M pc L st h Q
  | e :: b => sem M pc e.1 e.2.2 L st h Q fun L' st' h' => wpL M (pc + e.2.1) b L' st' h' Q
theorem J_blk {M : MD} {pc : Nat} {b : List BI} {L : List (Option Value)} {st : List Value} {h : AH} {Q : Option Value → AH → Prop} (hc : chkB M pc b = true) (ho : okB M b) (hw : wpL M pc b L st h Q) : J M pc L st h Q := by
  induction b generalizing pc L st h with
  | nil => exact hw
  | cons e b ih =>
    simp only [chkB, Bool.and_eq_true] at hc
    obtain ⟨hc1, hc2⟩ := hc
    split at hc1
    · rename_i i' n hd
      simp only [Bool.and_eq_true, decide_eq_true_eq] at hc1
      obtain ⟨rfl, hc1⟩ := hc1
      exact J_step i' e.1 e.2.2 L st h Q _ hd hc1 ho.1 hw (fun L' st' h' hk => ih hc2 ho.2 hk)
    · cases hc1
theorem g5_ {M : MD} {pc : Nat} {b : List BI} {L : List (Option Value)} {st : List Value} {h : AH} {Q : Option Value → AH → Prop} (hw : wpL M pc b L st h Q) (hc : chkB M pc b = true) (ho : okB M b) : J M pc L st h Q := J_blk hc ho hw
end
/-! tails -/
section
/-! ===== an instruction read off the bytes that are left ===== -/
abbrev OPK : Type := Instr ⊕ ((Nat → Instr) ⊕ ((Int → Instr) ⊕ ((Nat → Instr) ⊕ ((Int → Instr) ⊕ (Nat → Int → Instr)))))
def apK (k : OPK) (r : List UInt8) : Option (Instr × Nat) := match k with
  | .inl i => some (i, 1)
  | .inr (.inl f) => (match r with | a :: _ => some (f a.toNat, 2) | [] => none)
  | .inr (.inr (.inl f)) => (match r with | a :: _ => some (f (Reader.signed 8 a.toNat), 2) | [] => none)
  | .inr (.inr (.inr (.inl f))) => (match r with | a :: b :: _ => some (f (a.toNat * 256 + b.toNat), 3) | _ => none)
  | .inr (.inr (.inr (.inr (.inl f)))) => (match r with | a :: b :: _ => some (f (Reader.signed 16 (a.toNat * 256 + b.toNat)), 3) | _ => none)
  | .inr (.inr (.inr (.inr (.inr f)))) => (match r with | a :: b :: _ => some (f a.toNat (Reader.signed 8 b.toNat), 3) | _ => none)
def lkO : List (Nat × OPK) → Nat → Option OPK
  | [], _ => none
  | (m, k) :: t, n => cond (Nat.beq m n) (some k) (lkO t n)
theorem lt_of_drop {code : ByteArray} {p : Nat} {a : UInt8} {r : List UInt8} (h : code.data.toList.drop p = a :: r) : p < code.size ∧ code.data.toList[p]? = some a ∧ code.data.toList.drop (p + 1) = r := by
  have h1 : code.data.toList[p]? = some a := by
    have : (code.data.toList.drop p)[0]? = some a := by rw [h]; rfl
    rw [List.getElem?_drop, Nat.add_zero] at this
    exact this
  refine ⟨(List.getElem?_eq_some_iff.mp h1).1, h1, ?_⟩
  rw [← List.drop_drop, h]
  rfl
theorem u1_at {code : ByteArray} {p : Nat} {a : UInt8} {r : List UInt8} (h : code.data.toList.drop p = a :: r) : (Reader.u1 : Decoder Nat) code p = .ok (a.toNat, p + 1) := by
  obtain ⟨h1, h2, -⟩ := lt_of_drop h
  have h3 : code[p].toNat = a.toNat := by
    have : code[p] = code.data.toList[p]'h1 := rfl
    rw [this, (List.getElem?_eq_some_iff.mp h2).2]
  have e : (Reader.u1 : Decoder Nat) code p = (dite (p < code.size) (fun h => (set (p + 1) >>= fun _ => Pure.pure (code[p]'h).toNat : Decoder Nat)) (fun _ => throw (HasTruncated.truncated p))) code p := rfl
  rw [e, dif_pos h1]
  show Except.ok (code[p].toNat, p + 1) = _
  rw [h3]
theorem bnd {α β : Type} {x : Decoder α} {f : α → Decoder β} {code : ByteArray} {p p' : Nat} {a : α} (h : x code p = .ok (a, p')) : (x >>= f) code p = f a code p' := by
  show Except.bind (x code p) (fun q => f q.1 code q.2) = _
  rw [h]
  rfl
theorem s1_at {code : ByteArray} {p : Nat} {a : UInt8} {r : List UInt8} (h : code.data.toList.drop p = a :: r) : (Reader.s1 : Decoder Int) code p = .ok (Reader.signed 8 a.toNat, p + 1) := by
  show Except.bind ((Reader.u1 : Decoder Nat) code p) (fun q => Except.ok (Reader.signed 8 q.1, q.2)) = _
  rw [u1_at h]
  rfl
theorem u2_at {code : ByteArray} {p : Nat} {a b : UInt8} {r : List UInt8} (h : code.data.toList.drop p = a :: b :: r) : (Reader.u2 : Decoder Nat) code p = .ok (a.toNat * 256 + b.toNat, p + 2) := by
  unfold Reader.u2
  rw [bnd (u1_at h), bnd (u1_at (lt_of_drop h).2.2)]
  rfl
theorem s2_at {code : ByteArray} {p : Nat} {a b : UInt8} {r : List UInt8} (h : code.data.toList.drop p = a :: b :: r) : (Reader.s2 : Decoder Int) code p = .ok (Reader.signed 16 (a.toNat * 256 + b.toNat), p + 2) := by
  show Except.bind ((Reader.u2 : Decoder Nat) code p) (fun q => Except.ok (Reader.signed 16 q.1, q.2)) = _
  rw [u2_at h]
  rfl
theorem dcd {code : ByteArray} {pc n : Nat} {i : Instr} (h : Decoder.instr pc code pc = .ok (i, pc + n)) : decode code pc = .ok (i, n) := by
  show Except.bind (Decoder.instr pc code pc) (fun q => Except.ok (q.1, q.2 - pc)) = _
  rw [h]
  show Except.ok (i, pc + n - pc) = _
  rw [Nat.add_sub_cancel_left]
def goodK (n : Nat) (k : OPK) : Prop := ∀ (code : ByteArray) (pc : Nat) (a : UInt8) (r : List UInt8) (x : Instr × Nat), a.toNat = n → code.data.toList.drop pc = a :: r → apK k r = some x → decode code pc = .ok x
section GK
variable {K : Nat → Nat → Decoder Instr} {n : Nat}
theorem gk1 {i : Instr} (hK : ∀ pc, Decoder.instr pc = (Reader.u1 >>= K pc)) (hi : ∀ pc, K pc n = Pure.pure i) : goodK n (.inl i) := by
  intro code pc a r x ha hd hx
  cases hx
  refine dcd ?_
  rw [hK, bnd (u1_at hd), ha, hi]
  rfl
theorem gk2 {f : Nat → Instr} (hK : ∀ pc, Decoder.instr pc = (Reader.u1 >>= K pc)) (hi : ∀ pc, K pc n = (Reader.u1 >>= fun v => Pure.pure (f v))) : goodK n (.inr (.inl f)) := by
  intro code pc a r x ha hd hx
  cases r with
  | nil => cases hx
  | cons b r =>
    cases hx
    refine dcd ?_
    rw [hK, bnd (u1_at hd), ha, hi, bnd (u1_at (lt_of_drop hd).2.2)]
    rfl
theorem gk3 {f : Int → Instr} (hK : ∀ pc, Decoder.instr pc = (Reader.u1 >>= K pc)) (hi : ∀ pc, K pc n = (Reader.s1 >>= fun v => Pure.pure (f v))) : goodK n (.inr (.inr (.inl f))) := by
  intro code pc a r x ha hd hx
  cases r with
  | nil => cases hx
  | cons b r =>
    cases hx
    refine dcd ?_
    rw [hK, bnd (u1_at hd), ha, hi, bnd (s1_at (lt_of_drop hd).2.2)]
    rfl
theorem gk4 {f : Nat → Instr} (hK : ∀ pc, Decoder.instr pc = (Reader.u1 >>= K pc)) (hi : ∀ pc, K pc n = (Reader.u2 >>= fun v => Pure.pure (f v))) : goodK n (.inr (.inr (.inr (.inl f)))) := by
  intro code pc a r x ha hd hx
  match r, hd, hx with
  | [], _, hx => cases hx
  | [_], _, hx => cases hx
  | b :: c :: r, hd, hx =>
    cases hx
    refine dcd ?_
    rw [hK, bnd (u1_at hd), ha, hi, bnd (u2_at (lt_of_drop hd).2.2)]
    rfl
theorem gk5 {f : Int → Instr} (hK : ∀ pc, Decoder.instr pc = (Reader.u1 >>= K pc)) (hi : ∀ pc, K pc n = (Reader.s2 >>= fun v => Pure.pure (f v))) : goodK n (.inr (.inr (.inr (.inr (.inl f))))) := by
  intro code pc a r x ha hd hx
  match r, hd, hx with
  | [], _, hx => cases hx
  | [_], _, hx => cases hx
  | b :: c :: r, hd, hx =>
    cases hx
    refine dcd ?_
    rw [hK, bnd (u1_at hd), ha, hi, bnd (s2_at (lt_of_drop hd).2.2)]
    rfl
theorem gk6 {f : Nat → Int → Instr} (hK : ∀ pc, Decoder.instr pc = (Reader.u1 >>= K pc)) (hi : ∀ pc, K pc n = (Reader.u1 >>= fun v => Reader.s1 >>= fun w => Pure.pure (f v w))) : goodK n (.inr (.inr (.inr (.inr (.inr f))))) := by
  intro code pc a r x ha hd hx
  match r, hd, hx with
  | [], _, hx => cases hx
  | [_], _, hx => cases hx
  | b :: c :: r, hd, hx =>
    cases hx
    refine dcd ?_
    have hd2 := (lt_of_drop hd).2.2
    rw [hK, bnd (u1_at hd), ha, hi, bnd (u1_at hd2), bnd (s1_at (lt_of_drop hd2).2.2)]
    rfl
end GK
def AllG : List (Nat × OPK) → Prop
  | [] => True
  | q :: t => goodK q.1 q.2 ∧ AllG t
def AllB : List (List (Nat × OPK)) → Prop
  | [] => True
  | q :: t => AllG q ∧ AllB t
def OPT_0 : List (Nat × OPK) := [(2, .inl ((.iconst (-1)))), (3, .inl ((.iconst 0))), (4, .inl ((.iconst 1))), (5, .inl ((.iconst 2))), (6, .inl ((.iconst 3))), (7, .inl ((.iconst 4))), (8, .inl ((.iconst 5))), (9, .inl ((.lconst 0))), (10, .inl ((.lconst 1)))]
theorem opt_0 : AllG OPT_0 := ⟨gk1 (fun _ => rfl) (fun _ => rfl), gk1 (fun _ => rfl) (fun _ => rfl), gk1 (fun _ => rfl) (fun _ => rfl), gk1 (fun _ => rfl) (fun _ => rfl), gk1 (fun _ => rfl) (fun _ => rfl), gk1 (fun _ => rfl) (fun _ => rfl), gk1 (fun _ => rfl) (fun _ => rfl), gk1 (fun _ => rfl) (fun _ => rfl), gk1 (fun _ => rfl) (fun _ => rfl), trivial⟩
def OPT_1 : List (Nat × OPK) := [(16, .inr (.inr (.inl (fun v => .bipush v)))), (17, .inr (.inr (.inr (.inr (.inl (fun v => .sipush v)))))), (18, .inr (.inl (fun v => .ldc v))), (19, .inr (.inr (.inr (.inl (fun v => .ldc_w v))))), (20, .inr (.inr (.inr (.inl (fun v => .ldc2_w v))))), (21, .inr (.inl (fun v => .iload v))), (22, .inr (.inl (fun v => .lload v))), (23, .inr (.inl (fun v => .fload v))), (24, .inr (.inl (fun v => .dload v))), (25, .inr (.inl (fun v => .aload v))), (26, .inl ((.iload_n 0))), (27, .inl ((.iload_n 1))), (28, .inl ((.iload_n 2))), (29, .inl ((.iload_n 3))), (30, .inl ((.lload_n 0))), (31, .inl ((.lload_n 1)))]
theorem opt_1 : AllG OPT_1 := ⟨gk3 (fun _ => rfl) (fun _ => rfl), gk5 (fun _ => rfl) (fun _ => rfl), gk2 (fun _ => rfl) (fun _ => rfl), gk4 (fun _ => rfl) (fun _ => rfl), gk4 (fun _ => rfl) (fun _ => rfl), gk2 (fun _ => rfl) (fun _ => rfl), gk2 (fun _ => rfl) (fun _ => rfl), gk2 (fun _ => rfl) (fun _ => rfl), gk2 (fun _ => rfl) (fun _ => rfl), gk2 (fun _ => rfl) (fun _ => rfl), gk1 (fun _ => rfl) (fun _ => rfl), gk1 (fun _ => rfl) (fun _ => rfl), gk1 (fun _ => rfl) (fun _ => rfl), gk1 (fun _ => rfl) (fun _ => rfl), gk1 (fun _ => rfl) (fun _ => rfl), gk1 (fun _ => rfl) (fun _ => rfl), trivial⟩
def OPT_2 : List (Nat × OPK) := [(32, .inl ((.lload_n 2))), (33, .inl ((.lload_n 3))), (34, .inl ((.fload_n 0))), (35, .inl ((.fload_n 1))), (36, .inl ((.fload_n 2))), (37, .inl ((.fload_n 3))), (38, .inl ((.dload_n 0))), (39, .inl ((.dload_n 1))), (40, .inl ((.dload_n 2))), (41, .inl ((.dload_n 3))), (42, .inl ((.aload_n 0))), (43, .inl ((.aload_n 1))), (44, .inl ((.aload_n 2))), (45, .inl ((.aload_n 3))), (46, .inl (.iaload))]
theorem opt_2 : AllG OPT_2 := ⟨gk1 (fun _ => rfl) (fun _ => rfl), gk1 (fun _ => rfl) (fun _ => rfl), gk1 (fun _ => rfl) (fun _ => rfl), gk1 (fun _ => rfl) (fun _ => rfl), gk1 (fun _ => rfl) (fun _ => rfl), gk1 (fun _ => rfl) (fun _ => rfl), gk1 (fun _ => rfl) (fun _ => rfl), gk1 (fun _ => rfl) (fun _ => rfl), gk1 (fun _ => rfl) (fun _ => rfl), gk1 (fun _ => rfl) (fun _ => rfl), gk1 (fun _ => rfl) (fun _ => rfl), gk1 (fun _ => rfl) (fun _ => rfl), gk1 (fun _ => rfl) (fun _ => rfl), gk1 (fun _ => rfl) (fun _ => rfl), gk1 (fun _ => rfl) (fun _ => rfl), trivial⟩
def OPT_3 : List (Nat × OPK) := [(50, .inl (.aaload)), (54, .inr (.inl (fun v => .istore v))), (55, .inr (.inl (fun v => .lstore v))), (56, .inr (.inl (fun v => .fstore v))), (57, .inr (.inl (fun v => .dstore v))), (58, .inr (.inl (fun v => .astore v))), (59, .inl ((.istore_n 0))), (60, .inl ((.istore_n 1))), (61, .inl ((.istore_n 2))), (62, .inl ((.istore_n 3))), (63, .inl ((.lstore_n 0)))]
theorem opt_3 : AllG OPT_3 := ⟨gk1 (fun _ => rfl) (fun _ => rfl), gk2 (fun _ => rfl) (fun _ => rfl), gk2 (fun _ => rfl) (fun _ => rfl), gk2 (fun _ => rfl) (fun _ => rfl), gk2 (fun _ => rfl) (fun _ => rfl), gk2 (fun _ => rfl) (fun _ => rfl), gk1 (fun _ => rfl) (fun _ => rfl), gk1 (fun _ => rfl) (fun _ => rfl), gk1 (fun _ => rfl) (fun _ => rfl), gk1 (fun _ => rfl) (fun _ => rfl), gk1 (fun _ => rfl) (fun _ => rfl), trivial⟩
def OPT_4 : List (Nat × OPK) := [(64, .inl ((.lstore_n 1))), (65, .inl ((.lstore_n 2))), (66, .inl ((.lstore_n 3))), (67, .inl ((.fstore_n 0))), (68, .inl ((.fstore_n 1))), (69, .inl ((.fstore_n 2))), (70, .inl ((.fstore_n 3))), (71, .inl ((.dstore_n 0))), (72, .inl ((.dstore_n 1))), (73, .inl ((.dstore_n 2))), (74, .inl ((.dstore_n 3))), (75, .inl ((.astore_n 0))), (76, .inl ((.astore_n 1))), (77, .inl ((.astore_n 2))), (78, .inl ((.astore_n 3))), (79, .inl (.iastore))]
theorem opt_4 : AllG OPT_4 := ⟨gk1 (fun _ => rfl) (fun _ => rfl), gk1 (fun _ => rfl) (fun _ => rfl), gk1 (fun _ => rfl) (fun _ => rfl), gk1 (fun _ => rfl) (fun _ => rfl), gk1 (fun _ => rfl) (fun _ => rfl), gk1 (fun _ => rfl) (fun _ => rfl), gk1 (fun _ => rfl) (fun _ => rfl), gk1 (fun _ => rfl) (fun _ => rfl), gk1 (fun _ => rfl) (fun _ => rfl), gk1 (fun _ => rfl) (fun _ => rfl), gk1 (fun _ => rfl) (fun _ => rfl), gk1 (fun _ => rfl) (fun _ => rfl), gk1 (fun _ => rfl) (fun _ => rfl), gk1 (fun _ => rfl) (fun _ => rfl), gk1 (fun _ => rfl) (fun _ => rfl), gk1 (fun _ => rfl) (fun _ => rfl), trivial⟩
def OPT_5 : List (Nat × OPK) := [(83, .inl (.aastore)), (87, .inl (.pop)), (88, .inl (.pop2)), (89, .inl (.dup)), (92, .inl (.dup2))]
theorem opt_5 : AllG OPT_5 := ⟨gk1 (fun _ => rfl) (fun _ => rfl), gk1 (fun _ => rfl) (fun _ => rfl), gk1 (fun _ => rfl) (fun _ => rfl), gk1 (fun _ => rfl) (fun _ => rfl), gk1 (fun _ => rfl) (fun _ => rfl), trivial⟩
def OPT_6 : List (Nat × OPK) := [(96, .inl (.iadd)), (97, .inl (.ladd)), (100, .inl (.isub)), (101, .inl (.lsub)), (104, .inl (.imul)), (105, .inl (.lmul)), (108, .inl (.idiv)), (109, .inl (.ldiv))]
theorem opt_6 : AllG OPT_6 := ⟨gk1 (fun _ => rfl) (fun _ => rfl), gk1 (fun _ => rfl) (fun _ => rfl), gk1 (fun _ => rfl) (fun _ => rfl), gk1 (fun _ => rfl) (fun _ => rfl), gk1 (fun _ => rfl) (fun _ => rfl), gk1 (fun _ => rfl) (fun _ => rfl), gk1 (fun _ => rfl) (fun _ => rfl), gk1 (fun _ => rfl) (fun _ => rfl), trivial⟩
def OPT_7 : List (Nat × OPK) := [(112, .inl (.irem)), (113, .inl (.lrem)), (116, .inl (.ineg)), (117, .inl (.lneg)), (120, .inl (.ishl)), (122, .inl (.ishr)), (124, .inl (.iushr)), (126, .inl (.iand))]
theorem opt_7 : AllG OPT_7 := ⟨gk1 (fun _ => rfl) (fun _ => rfl), gk1 (fun _ => rfl) (fun _ => rfl), gk1 (fun _ => rfl) (fun _ => rfl), gk1 (fun _ => rfl) (fun _ => rfl), gk1 (fun _ => rfl) (fun _ => rfl), gk1 (fun _ => rfl) (fun _ => rfl), gk1 (fun _ => rfl) (fun _ => rfl), gk1 (fun _ => rfl) (fun _ => rfl), trivial⟩
def OPT_8 : List (Nat × OPK) := [(128, .inl (.ior)), (130, .inl (.ixor)), (132, .inr (.inr (.inr (.inr (.inr (fun v w => .iinc v w)))))), (133, .inl (.i2l))]
theorem opt_8 : AllG OPT_8 := ⟨gk1 (fun _ => rfl) (fun _ => rfl), gk1 (fun _ => rfl) (fun _ => rfl), gk6 (fun _ => rfl) (fun _ => rfl), gk1 (fun _ => rfl) (fun _ => rfl), trivial⟩
def OPT_9 : List (Nat × OPK) := [(148, .inl (.lcmp)), (153, .inr (.inr (.inr (.inr (.inl (fun v => .ifCond .eq v)))))), (154, .inr (.inr (.inr (.inr (.inl (fun v => .ifCond .ne v)))))), (155, .inr (.inr (.inr (.inr (.inl (fun v => .ifCond .lt v)))))), (156, .inr (.inr (.inr (.inr (.inl (fun v => .ifCond .ge v)))))), (157, .inr (.inr (.inr (.inr (.inl (fun v => .ifCond .gt v)))))), (158, .inr (.inr (.inr (.inr (.inl (fun v => .ifCond .le v)))))), (159, .inr (.inr (.inr (.inr (.inl (fun v => .if_icmp .eq v))))))]
theorem opt_9 : AllG OPT_9 := ⟨gk1 (fun _ => rfl) (fun _ => rfl), gk5 (fun _ => rfl) (fun _ => rfl), gk5 (fun _ => rfl) (fun _ => rfl), gk5 (fun _ => rfl) (fun _ => rfl), gk5 (fun _ => rfl) (fun _ => rfl), gk5 (fun _ => rfl) (fun _ => rfl), gk5 (fun _ => rfl) (fun _ => rfl), gk5 (fun _ => rfl) (fun _ => rfl), trivial⟩
def OPT_10 : List (Nat × OPK) := [(160, .inr (.inr (.inr (.inr (.inl (fun v => .if_icmp .ne v)))))), (161, .inr (.inr (.inr (.inr (.inl (fun v => .if_icmp .lt v)))))), (162, .inr (.inr (.inr (.inr (.inl (fun v => .if_icmp .ge v)))))), (163, .inr (.inr (.inr (.inr (.inl (fun v => .if_icmp .gt v)))))), (164, .inr (.inr (.inr (.inr (.inl (fun v => .if_icmp .le v)))))), (165, .inr (.inr (.inr (.inr (.inl (fun v => .if_acmp .eq v)))))), (166, .inr (.inr (.inr (.inr (.inl (fun v => .if_acmp .ne v)))))), (167, .inr (.inr (.inr (.inr (.inl (fun v => .goto v)))))), (172, .inl (.ireturn)), (173, .inl (.lreturn))]
theorem opt_10 : AllG OPT_10 := ⟨gk5 (fun _ => rfl) (fun _ => rfl), gk5 (fun _ => rfl) (fun _ => rfl), gk5 (fun _ => rfl) (fun _ => rfl), gk5 (fun _ => rfl) (fun _ => rfl), gk5 (fun _ => rfl) (fun _ => rfl), gk5 (fun _ => rfl) (fun _ => rfl), gk5 (fun _ => rfl) (fun _ => rfl), gk5 (fun _ => rfl) (fun _ => rfl), gk1 (fun _ => rfl) (fun _ => rfl), gk1 (fun _ => rfl) (fun _ => rfl), trivial⟩
def OPT_11 : List (Nat × OPK) := [(176, .inl (.areturn)), (177, .inl (.return_)), (180, .inr (.inr (.inr (.inl (fun v => .getfield v))))), (181, .inr (.inr (.inr (.inl (fun v => .putfield v))))), (182, .inr (.inr (.inr (.inl (fun v => .invokevirtual v))))), (183, .inr (.inr (.inr (.inl (fun v => .invokespecial v))))), (184, .inr (.inr (.inr (.inl (fun v => .invokestatic v))))), (187, .inr (.inr (.inr (.inl (fun v => .new v))))), (189, .inr (.inr (.inr (.inl (fun v => .anewarray v))))), (190, .inl (.arraylength))]
theorem opt_11 : AllG OPT_11 := ⟨gk1 (fun _ => rfl) (fun _ => rfl), gk1 (fun _ => rfl) (fun _ => rfl), gk4 (fun _ => rfl) (fun _ => rfl), gk4 (fun _ => rfl) (fun _ => rfl), gk4 (fun _ => rfl) (fun _ => rfl), gk4 (fun _ => rfl) (fun _ => rfl), gk4 (fun _ => rfl) (fun _ => rfl), gk4 (fun _ => rfl) (fun _ => rfl), gk4 (fun _ => rfl) (fun _ => rfl), gk1 (fun _ => rfl) (fun _ => rfl), trivial⟩
def OPT_12 : List (Nat × OPK) := [(198, .inr (.inr (.inr (.inr (.inl (fun v => .ifnull v)))))), (199, .inr (.inr (.inr (.inr (.inl (fun v => .ifnonnull v))))))]
theorem opt_12 : AllG OPT_12 := ⟨gk5 (fun _ => rfl) (fun _ => rfl), gk5 (fun _ => rfl) (fun _ => rfl), trivial⟩
def OPT : List (List (Nat × OPK)) := [OPT_0, OPT_1, OPT_2, OPT_3, OPT_4, OPT_5, OPT_6, OPT_7, OPT_8, OPT_9, OPT_10, OPT_11, OPT_12]
theorem opt_all : AllB OPT := ⟨opt_0, opt_1, opt_2, opt_3, opt_4, opt_5, opt_6, opt_7, opt_8, opt_9, opt_10, opt_11, opt_12, trivial⟩
theorem allG_lk {l : List (Nat × OPK)} {n : Nat} {k : OPK} (h : AllG l) (hk : lkO l n = some k) : goodK n k := by
  induction l with
  | nil => cases hk
  | cons q t ih =>
    obtain ⟨m, k'⟩ := q
    simp only [lkO] at hk
    cases hb : Nat.beq m n with
    | true =>
      rw [hb] at hk
      cases hk
      rw [← Nat.eq_of_beq_eq_true hb]
      exact h.1
    | false =>
      rw [hb] at hk
      exact ih h.2 hk
theorem allB_get {l : List (List (Nat × OPK))} {i : Nat} (h : AllB l) : AllG (l.getD i []) := by
  induction l generalizing i with
  | nil => exact trivial
  | cons q t ih =>
    cases i with
    | zero => exact h.1
    | succ i => exact ih h.2
def T3 (t : List UInt8) : Option (Instr × Nat) := match t with
  | [] => none
  | a :: r => (match lkO (OPT.getD (a.toNat / 16) []) a.toNat with
    | some k => apK k r
    | none => none)
theorem T3_ok {code : ByteArray} {pc : Nat} {t : List UInt8} {x : Instr × Nat} (ht : code.data.toList.drop pc = t) (h : T3 t = some x) : decode code pc = .ok x := by
  cases t with
  | nil => cases h
  | cons a r =>
    simp only [T3] at h
    cases hk : lkO (OPT.getD (a.toNat / 16) []) a.toNat with
    | none => rw [hk] at h; cases h
    | some k =>
      rw [hk] at h
      exact allG_lk (allB_get opt_all) hk code pc a r x rfl ht h
def chkT (M : MD) : List UInt8 → Nat → List BI → Bool
  | _, _, [] => true
  | t, pc, e :: b => (match T3 t with
    | some (i', n) => decide (n = e.2.1) && chk1 M pc i' n e.1 e.2.2
    | none => (match decode (mB M) pc with | .ok (i', n) => decide (n = e.2.1) && chk1 M pc i' n e.1 e.2.2 | .error _ => false)) && chkT M (t.drop e.2.1) (pc + e.2.1) b
theorem chkT_ok {M : MD} {b : List BI} {t : List UInt8} {pc : Nat} (ht : (mB M).data.toList.drop pc = t) (h : chkT M t pc b = true) : chkB M pc b = true := by
  induction b generalizing t pc with
  | nil => rfl
  | cons e b ih =>
    simp only [chkT, Bool.and_eq_true] at h
    simp only [chkB, Bool.and_eq_true]
    refine ⟨?_, ih (by rw [← List.drop_drop, ht]) h.2⟩
    have h1 := h.1
    cases hT : T3 t with
    | none => rw [hT] at h1; exact h1
    | some x =>
      rw [hT] at h1
      rw [T3_ok ht hT]
      exact h1
theorem J_blkT {M : MD} {pc : Nat} {b : List BI} {L : List (Option Value)} {st : List Value} {h : AH} {Q : Option Value → AH → Prop} (hw : wpL M pc b L st h Q) (hc : chkT M ((mB M).data.toList.drop pc) pc b = true) (ho : okB M b) : J M pc L st h Q := J_blk (chkT_ok rfl hc) ho hw
/-- a stretch of a code -/
def okL (code : ByteArray) : Nat → List (Instr × Nat) → Prop
  | _, [] => True
  | pc, (i, n) :: t => decode code pc = .ok (i, n) ∧ okL code (pc + n) t
def okLb (code : ByteArray) : List UInt8 → Nat → List (Instr × Nat) → Bool
  | _, _, [] => true
  | t, pc, (i, n) :: l => (match T3 t with | some x => decide (x = (i, n)) | none => decide (decode code pc = .ok (i, n))) && okLb code (t.drop n) (pc + n) l
theorem okL_of {code : ByteArray} {pc : Nat} {l : List (Instr × Nat)} {t : List UInt8} (ht : code.data.toList.drop pc = t) (h : okLb code t pc l = true) : okL code pc l := by
  induction l generalizing pc t with
  | nil => trivial
  | cons a l ih =>
    obtain ⟨i, n⟩ := a
    simp only [okLb, Bool.and_eq_true] at h
    refine ⟨?_, ih (by rw [← List.drop_drop, ht]) h.2⟩
    have h1 := h.1
    cases hT : T3 t with
    | none => rw [hT] at h1; exact of_decide_eq_true h1
    | some x =>
      rw [hT] at h1
      rw [T3_ok ht hT, of_decide_eq_true h1]
end
/-! links -/
section
abbrev N0_ : INF := .inl (0, 0, 0, [])
theorem kx_0 : clsOk 0 := ⟨by decide +kernel, by decide +kernel, by decide +kernel, (g9_ (i := 7) rfl rfl)⟩
theorem kx_1 : clsOk 1 := ⟨by decide +kernel, by decide +kernel, by decide +kernel, (g9_ (i := 6) rfl rfl)⟩
theorem kx_2 : clsOk 2 := ⟨by decide +kernel, by decide +kernel, by decide +kernel, (g9_ (i := 4) rfl rfl)⟩
theorem kx_3 : clsOk 3 := ⟨by decide +kernel, by decide +kernel, by decide +kernel, (g9_ (i := 3) rfl rfl)⟩
theorem kx_4 : clsOk 4 := ⟨by decide +kernel, by decide +kernel, by decide +kernel, (g9_ (i := 2) rfl rfl)⟩
theorem kx_5 : clsOk 5 := ⟨by decide +kernel, by decide +kernel, by decide +kernel, (g9_ (i := 5) rfl rfl)⟩
theorem kx_6 : clsOk 6 := ⟨by decide +kernel, by decide +kernel, by decide +kernel, (g9_ (i := 1) rfl rfl)⟩
theorem kx_7 : clsOk 7 := ⟨by decide +kernel, by decide +kernel, by decide +kernel, (g9_ (i := 8) rfl rfl)⟩
theorem kx_8 : clsOk 8 := ⟨by decide +kernel, by decide +kernel, by decide +kernel, (g9_ (i := 11) rfl rfl)⟩
theorem kd_0 : descOk "()V" 0 := by unfold descOk; decide +kernel
theorem kd_1 : descOk "(I)I" 1 := by unfold descOk; decide +kernel
theorem kd_2 : descOk "()I" 0 := by unfold descOk; decide +kernel
theorem kd_3 : descOk "(I)Z" 1 := by unfold descOk; decide +kernel
theorem kd_4 : descOk "(II)I" 2 := by unfold descOk; decide +kernel
theorem kd_5 : descOk "(III)I" 3 := by unfold descOk; decide +kernel
theorem kd_6 : descOk "(IIII)J" 4 := by unfold descOk; decide +kernel
theorem kd_7 : descOk "(I)J" 1 := by unfold descOk; decide +kernel
theorem kd_8 : descOk "(JI)J" 2 := by unfold descOk; decide +kernel
theorem kd_9 : descOk "(JJI)J" 3 := by unfold descOk; decide +kernel
theorem kd_10 : descOk "(JJ)J" 2 := by unfold descOk; decide +kernel
theorem kd_11 : descOk "(JJJ)Z" 3 := by unfold descOk; decide +kernel
theorem kd_12 : descOk "(II)Z" 2 := by unfold descOk; decide +kernel
theorem kd_13 : descOk "(I)V" 1 := by unfold descOk; decide +kernel
theorem kd_14 : descOk "(II)V" 2 := by unfold descOk; decide +kernel
theorem kd_15 : descOk "([IZ)V" 2 := by unfold descOk; decide +kernel
theorem kd_16 : descOk "(LCarriedHome$Realm;III)J" 4 := by unfold descOk; decide +kernel
theorem kd_17 : descOk "(LCarriedHome$Realm;IIZ)I" 4 := by unfold descOk; decide +kernel
theorem kd_18 : descOk "(LCarriedHome$Realm;)I" 1 := by unfold descOk; decide +kernel
theorem kd_19 : descOk "(LCarriedHome$Realm;I)I" 2 := by unfold descOk; decide +kernel
theorem kd_20 : descOk "(LCarriedHome$Realm;IZ)I" 3 := by unfold descOk; decide +kernel
theorem kd_21 : descOk "(LCarriedHome$Realm;LCarriedHome$Row;)I" 2 := by unfold descOk; decide +kernel
theorem kd_22 : descOk "(LCarriedHome$Row;)Z" 1 := by unfold descOk; decide +kernel
theorem kd_23 : descOk "(LCarriedHome$Realm;LCarriedHome$Row;I)I" 3 := by unfold descOk; decide +kernel
theorem kd_24 : descOk "(LCarriedHome$Row;I)Z" 2 := by unfold descOk; decide +kernel
theorem kd_25 : descOk "(LCarriedHome$Realm;III)I" 4 := by unfold descOk; decide +kernel
theorem kd_26 : descOk "()Z" 0 := by unfold descOk; decide +kernel
theorem kd_27 : descOk "(LCarriedHome$Realm;)V" 1 := by unfold descOk; decide +kernel
theorem ok_X_init : okM M_X_init := ⟨(g9_ (i := 16) rfl rfl), rfl, kx_6, kd_0, Nat.le_of_ble_eq_true rfl⟩
theorem ok_X_feed : okM M_X_feed := ⟨(g9_ (i := 180) rfl rfl), rfl, kx_6, kd_1, Nat.le_of_ble_eq_true rfl⟩
theorem ok_X_reign : okM M_X_reign := ⟨(g9_ (i := 196) rfl rfl), rfl, kx_6, kd_2, Nat.le_of_ble_eq_true rfl⟩
theorem ok_X_obeys : okM M_X_obeys := ⟨(g9_ (i := 228) rfl rfl), rfl, kx_6, kd_3, Nat.le_of_ble_eq_true rfl⟩
theorem ok_X_manOf : okM M_X_manOf := ⟨(ha_ (i := 92) rfl rfl), rfl, kx_6, kd_4, Nat.le_of_ble_eq_true rfl⟩
theorem ok_X_slope : okM M_X_slope := ⟨(ha_ (i := 115) rfl rfl), rfl, kx_6, kd_1, Nat.le_of_ble_eq_true rfl⟩
theorem ok_X_man : okM M_X_man := ⟨(ha_ (i := 121) rfl rfl), rfl, kx_6, kd_4, Nat.le_of_ble_eq_true rfl⟩
theorem ok_X_pardons : okM M_X_pardons := ⟨(ha_ (i := 126) rfl rfl), rfl, kx_6, kd_1, Nat.le_of_ble_eq_true rfl⟩
theorem ok_X_slopes : okM M_X_slopes := ⟨(ha_ (i := 139) rfl rfl), rfl, kx_6, kd_4, Nat.le_of_ble_eq_true rfl⟩
theorem ok_X_loads : okM M_X_loads := ⟨(ha_ (i := 143) rfl rfl), rfl, kx_6, kd_1, Nat.le_of_ble_eq_true rfl⟩
theorem ok_X_snows : okM M_X_snows := ⟨(ha_ (i := 147) rfl rfl), rfl, kx_6, kd_1, Nat.le_of_ble_eq_true rfl⟩
theorem ok_X_days : okM M_X_days := ⟨(ha_ (i := 151) rfl rfl), rfl, kx_6, kd_1, Nat.le_of_ble_eq_true rfl⟩
theorem ok_X_back : okM M_X_back := ⟨(ha_ (i := 155) rfl rfl), rfl, kx_6, kd_2, Nat.le_of_ble_eq_true rfl⟩
theorem ok_X_then : okM M_X_then := ⟨(ha_ (i := 163) rfl rfl), rfl, kx_6, kd_4, Nat.le_of_ble_eq_true rfl⟩
theorem ok_X_wornIn : okM M_X_wornIn := ⟨(ha_ (i := 171) rfl rfl), rfl, kx_6, kd_4, Nat.le_of_ble_eq_true rfl⟩
theorem ok_X_home : okM M_X_home := ⟨(ha_ (i := 175) rfl rfl), rfl, kx_6, kd_1, Nat.le_of_ble_eq_true rfl⟩
theorem ok_X_dies : okM M_X_dies := ⟨(ha_ (i := 188) rfl rfl), rfl, kx_6, kd_1, Nat.le_of_ble_eq_true rfl⟩
theorem ok_X_mercy : okM M_X_mercy := ⟨(ha_ (i := 201) rfl rfl), rfl, kx_6, kd_1, Nat.le_of_ble_eq_true rfl⟩
theorem ok_X_fewest : okM M_X_fewest := ⟨(ha_ (i := 214) rfl rfl), rfl, kx_6, kd_1, Nat.le_of_ble_eq_true rfl⟩
theorem ok_X_crown : okM M_X_crown := ⟨(ha_ (i := 233) rfl rfl), rfl, kx_6, kd_1, Nat.le_of_ble_eq_true rfl⟩
theorem ok_X_dig : okM M_X_dig := ⟨(hc_ (i := 1) rfl rfl), rfl, kx_6, kd_1, Nat.le_of_ble_eq_true rfl⟩
theorem ok_X_keep : okM M_X_keep := ⟨(hc_ (i := 10) rfl rfl), rfl, kx_6, kd_4, Nat.le_of_ble_eq_true rfl⟩
theorem ok_X_pairs : okM M_X_pairs := ⟨(hc_ (i := 21) rfl rfl), rfl, kx_6, kd_1, Nat.le_of_ble_eq_true rfl⟩
theorem ok_X_whoBore : okM M_X_whoBore := ⟨(hc_ (i := 49) rfl rfl), rfl, kx_6, kd_2, Nat.le_of_ble_eq_true rfl⟩
theorem ok_X_whatKind : okM M_X_whatKind := ⟨(hc_ (i := 65) rfl rfl), rfl, kx_6, kd_4, Nat.le_of_ble_eq_true rfl⟩
theorem ok_X_two : okM M_X_two := ⟨(hc_ (i := 90) rfl rfl), rfl, kx_6, kd_5, Nat.le_of_ble_eq_true rfl⟩
theorem ok_X_falls : okM M_X_falls := ⟨(hc_ (i := 98) rfl rfl), rfl, kx_6, kd_6, Nat.le_of_ble_eq_true rfl⟩
theorem ok_X_shares : okM M_X_shares := ⟨(hc_ (i := 124) rfl rfl), rfl, kx_6, kd_4, Nat.le_of_ble_eq_true rfl⟩
theorem ok_X_strongest : okM M_X_strongest := ⟨(hc_ (i := 128) rfl rfl), rfl, kx_6, kd_1, Nat.le_of_ble_eq_true rfl⟩
theorem ok_X_mean : okM M_X_mean := ⟨(hc_ (i := 138) rfl rfl), rfl, kx_6, kd_7, Nat.le_of_ble_eq_true rfl⟩
theorem ok_X_spare : okM M_X_spare := ⟨(hc_ (i := 146) rfl rfl), rfl, kx_6, kd_1, Nat.le_of_ble_eq_true rfl⟩
theorem ok_X_height : okM M_X_height := ⟨(hc_ (i := 151) rfl rfl), rfl, kx_6, kd_1, Nat.le_of_ble_eq_true rfl⟩
theorem ok_X_eased : okM M_X_eased := ⟨(hc_ (i := 166) rfl rfl), rfl, kx_6, kd_1, Nat.le_of_ble_eq_true rfl⟩
theorem ok_X_shoulders : okM M_X_shoulders := ⟨(hc_ (i := 174) rfl rfl), rfl, kx_6, kd_1, Nat.le_of_ble_eq_true rfl⟩
theorem ok_X_row : okM M_X_row := ⟨(hc_ (i := 182) rfl rfl), rfl, kx_6, kd_1, Nat.le_of_ble_eq_true rfl⟩
theorem ok_X_judge : okM M_X_judge := ⟨(hc_ (i := 194) rfl rfl), rfl, kx_6, kd_2, Nat.le_of_ble_eq_true rfl⟩
theorem ok_X_clear : okM M_X_clear := ⟨(hc_ (i := 203) rfl rfl), rfl, kx_6, kd_2, Nat.le_of_ble_eq_true rfl⟩
theorem ok_X_lots : okM M_X_lots := ⟨(hc_ (i := 207) rfl rfl), rfl, kx_6, kd_5, Nat.le_of_ble_eq_true rfl⟩
theorem ok_X_image : okM M_X_image := ⟨(hc_ (i := 225) rfl rfl), rfl, kx_6, kd_2, Nat.le_of_ble_eq_true rfl⟩
theorem ok_X_restore : okM M_X_restore := ⟨(hc_ (i := 229) rfl rfl), rfl, kx_6, kd_2, Nat.le_of_ble_eq_true rfl⟩
theorem ok_X_count : okM M_X_count := ⟨(hc_ (i := 233) rfl rfl), rfl, kx_6, kd_1, Nat.le_of_ble_eq_true rfl⟩
theorem ok_X_refuse : okM M_X_refuse := ⟨(g9_ (i := 184) rfl rfl), rfl, kx_6, kd_1, Nat.le_of_ble_eq_true rfl⟩
theorem ok_X_outside : okM M_X_outside := ⟨(ha_ (i := 23) rfl rfl), rfl, kx_6, kd_5, Nat.le_of_ble_eq_true rfl⟩
theorem ok_X_isStage : okM M_X_isStage := ⟨(ha_ (i := 20) rfl rfl), rfl, kx_6, kd_3, Nat.le_of_ble_eq_true rfl⟩
theorem ok_X_isKind : okM M_X_isKind := ⟨(ha_ (i := 5) rfl rfl), rfl, kx_6, kd_3, Nat.le_of_ble_eq_true rfl⟩
theorem ok_X_isOneOfTwo : okM M_X_isOneOfTwo := ⟨(hc_ (i := 13) rfl rfl), rfl, kx_6, kd_3, Nat.le_of_ble_eq_true rfl⟩
theorem ok_X_power : okM M_X_power := ⟨(hc_ (i := 113) rfl rfl), rfl, kx_6, kd_8, Nat.le_of_ble_eq_true rfl⟩
theorem ok_X_inLowestTerms : okM M_X_inLowestTerms := ⟨(hc_ (i := 117) rfl rfl), rfl, kx_6, kd_9, Nat.le_of_ble_eq_true rfl⟩
theorem ok_X_commonDivisor : okM M_X_commonDivisor := ⟨(hc_ (i := 120) rfl rfl), rfl, kx_6, kd_10, Nat.le_of_ble_eq_true rfl⟩
theorem ok_M_init : okM M_M_init := ⟨(hc_ (i := 238) rfl rfl), rfl, kx_7, kd_0, Nat.le_of_ble_eq_true rfl⟩
theorem ok_M_in : okM M_M_in := ⟨(hg_ (i := 135) rfl rfl), rfl, kx_7, kd_11, Nat.le_of_ble_eq_true rfl⟩
theorem ok_M_refuse : okM M_M_refuse := ⟨(hg_ (i := 107) rfl rfl), rfl, kx_7, kd_1, Nat.le_of_ble_eq_true rfl⟩
theorem ok_M_isMan : okM M_M_isMan := ⟨(hg_ (i := 163) rfl rfl), rfl, kx_7, kd_3, Nat.le_of_ble_eq_true rfl⟩
theorem ok_M_wrongNumber : okM M_M_wrongNumber := ⟨(hf_ (i := 7) rfl rfl), rfl, kx_7, kd_5, Nat.le_of_ble_eq_true rfl⟩
theorem ok_M_wrongBit : okM M_M_wrongBit := ⟨(hf_ (i := 38) rfl rfl), rfl, kx_7, kd_5, Nat.le_of_ble_eq_true rfl⟩
theorem ok_M_hasBit : okM M_M_hasBit := ⟨(hg_ (i := 187) rfl rfl), rfl, kx_7, kd_12, Nat.le_of_ble_eq_true rfl⟩
theorem ok_M_onesOf : okM M_M_onesOf := ⟨(hf_ (i := 82) rfl rfl), rfl, kx_7, kd_1, Nat.le_of_ble_eq_true rfl⟩
theorem ok_M_held : okM M_M_held := ⟨(hg_ (i := 210) rfl rfl), rfl, kx_7, kd_4, Nat.le_of_ble_eq_true rfl⟩
theorem ok_M_bearsOf : okM M_M_bearsOf := ⟨(hg_ (i := 191) rfl rfl), rfl, kx_7, kd_1, Nat.le_of_ble_eq_true rfl⟩
theorem ok_M_lastsOf : okM M_M_lastsOf := ⟨(hg_ (i := 214) rfl rfl), rfl, kx_7, kd_1, Nat.le_of_ble_eq_true rfl⟩
theorem ok_M_isFeuding : okM M_M_isFeuding := ⟨(hg_ (i := 207) rfl rfl), rfl, kx_7, kd_3, Nat.le_of_ble_eq_true rfl⟩
theorem ok_M_feudingIn : okM M_M_feudingIn := ⟨(hg_ (i := 203) rfl rfl), rfl, kx_7, kd_1, Nat.le_of_ble_eq_true rfl⟩
theorem ok_M_wearsOf : okM M_M_wearsOf := ⟨(hg_ (i := 199) rfl rfl), rfl, kx_7, kd_5, Nat.le_of_ble_eq_true rfl⟩
theorem ok_M_neededHere : okM M_M_neededHere := ⟨(hg_ (i := 195) rfl rfl), rfl, kx_7, kd_2, Nat.le_of_ble_eq_true rfl⟩
theorem ok_M_strongestBut : okM M_M_strongestBut := ⟨(hg_ (i := 184) rfl rfl), rfl, kx_7, kd_1, Nat.le_of_ble_eq_true rfl⟩
theorem ok_M_bearersNow : okM M_M_bearersNow := ⟨(hg_ (i := 180) rfl rfl), rfl, kx_7, kd_2, Nat.le_of_ble_eq_true rfl⟩
theorem ok_M_dayOn : okM M_M_dayOn := ⟨(hg_ (i := 176) rfl rfl), rfl, kx_7, kd_0, Nat.le_of_ble_eq_true rfl⟩
theorem ok_M_goDays : okM M_M_goDays := ⟨(hg_ (i := 172) rfl rfl), rfl, kx_7, kd_13, Nat.le_of_ble_eq_true rfl⟩
theorem ok_M_bitsOf : okM M_M_bitsOf := ⟨(hf_ (i := 46) rfl rfl), rfl, kx_7, kd_1, Nat.le_of_ble_eq_true rfl⟩
theorem ok_M_allBear : okM M_M_allBear := ⟨(hf_ (i := 118) rfl rfl), rfl, kx_7, kd_2, Nat.le_of_ble_eq_true rfl⟩
theorem ok_M_manComes : okM M_M_manComes := ⟨(hg_ (i := 155) rfl rfl), rfl, kx_7, kd_12, Nat.le_of_ble_eq_true rfl⟩
theorem ok_M_feed : okM M_M_feed := ⟨(hg_ (i := 103) rfl rfl), rfl, kx_7, kd_1, Nat.le_of_ble_eq_true rfl⟩
theorem ok_M_here : okM M_M_here := ⟨(hg_ (i := 119) rfl rfl), rfl, kx_7, kd_2, Nat.le_of_ble_eq_true rfl⟩
theorem ok_M_readDigits : okM M_M_readDigits := ⟨(hg_ (i := 130) rfl rfl), rfl, kx_7, kd_1, Nat.le_of_ble_eq_true rfl⟩
theorem ok_M_isLetter : okM M_M_isLetter := ⟨(hg_ (i := 122) rfl rfl), rfl, kx_7, kd_3, Nat.le_of_ble_eq_true rfl⟩
theorem ok_M_readNumbers : okM M_M_readNumbers := ⟨(hg_ (i := 126) rfl rfl), rfl, kx_7, kd_14, Nat.le_of_ble_eq_true rfl⟩
theorem ok_M_readStatement : okM M_M_readStatement := ⟨(hg_ (i := 115) rfl rfl), rfl, kx_7, kd_0, Nat.le_of_ble_eq_true rfl⟩
theorem ok_M_pardonTold : okM M_M_pardonTold := ⟨(hg_ (i := 159) rfl rfl), rfl, kx_7, kd_3, Nat.le_of_ble_eq_true rfl⟩
theorem ok_M_daysTold : okM M_M_daysTold := ⟨(hg_ (i := 168) rfl rfl), rfl, kx_7, kd_3, Nat.le_of_ble_eq_true rfl⟩
theorem ok_M_comesTold : okM M_M_comesTold := ⟨(hg_ (i := 151) rfl rfl), rfl, kx_7, kd_3, Nat.le_of_ble_eq_true rfl⟩
theorem ok_M_reign : okM M_M_reign := ⟨(hg_ (i := 111) rfl rfl), rfl, kx_7, kd_2, Nat.le_of_ble_eq_true rfl⟩
theorem ok_M_carry : okM M_M_carry := ⟨(hg_ (i := 147) rfl rfl), rfl, kx_7, kd_1, Nat.le_of_ble_eq_true rfl⟩
theorem ok_M_carryAll : okM M_M_carryAll := ⟨(hg_ (i := 143) rfl rfl), rfl, kx_7, kd_15, Nat.le_of_ble_eq_true rfl⟩
theorem ok_M_think : okM M_M_think := ⟨(hg_ (i := 139) rfl rfl), rfl, kx_7, kd_0, Nat.le_of_ble_eq_true rfl⟩
theorem ok_M_again : okM M_M_again := ⟨(hg_ (i := 218) rfl rfl), rfl, kx_7, kd_0, Nat.le_of_ble_eq_true rfl⟩
theorem ok_M_image : okM M_M_image := ⟨(hg_ (i := 222) rfl rfl), rfl, kx_7, kd_2, Nat.le_of_ble_eq_true rfl⟩
theorem ok_M_restore : okM M_M_restore := ⟨(hg_ (i := 226) rfl rfl), rfl, kx_7, kd_2, Nat.le_of_ble_eq_true rfl⟩
theorem ok_M_keepTurn : okM M_M_keepTurn := ⟨(hf_ (i := 15) rfl rfl), rfl, kx_7, kd_0, Nat.le_of_ble_eq_true rfl⟩
theorem ok_M_back : okM M_M_back := ⟨(hg_ (i := 230) rfl rfl), rfl, kx_7, kd_2, Nat.le_of_ble_eq_true rfl⟩
theorem ok_M_manOf : okM M_M_manOf := ⟨(hg_ (i := 234) rfl rfl), rfl, kx_7, kd_4, Nat.le_of_ble_eq_true rfl⟩
theorem ok_M_slope : okM M_M_slope := ⟨(hg_ (i := 239) rfl rfl), rfl, kx_7, kd_1, Nat.le_of_ble_eq_true rfl⟩
theorem ok_M_man : okM M_M_man := ⟨(hf_ (i := 4) rfl rfl), rfl, kx_7, kd_4, Nat.le_of_ble_eq_true rfl⟩
theorem ok_M_pardons : okM M_M_pardons := ⟨(hf_ (i := 11) rfl rfl), rfl, kx_7, kd_1, Nat.le_of_ble_eq_true rfl⟩
theorem ok_M_slopes : okM M_M_slopes := ⟨(hf_ (i := 19) rfl rfl), rfl, kx_7, kd_4, Nat.le_of_ble_eq_true rfl⟩
theorem ok_M_loads : okM M_M_loads := ⟨(hf_ (i := 23) rfl rfl), rfl, kx_7, kd_1, Nat.le_of_ble_eq_true rfl⟩
theorem ok_M_snows : okM M_M_snows := ⟨(hf_ (i := 27) rfl rfl), rfl, kx_7, kd_1, Nat.le_of_ble_eq_true rfl⟩
theorem ok_M_days : okM M_M_days := ⟨(hf_ (i := 31) rfl rfl), rfl, kx_7, kd_1, Nat.le_of_ble_eq_true rfl⟩
theorem ok_M_waitsIn : okM M_M_waitsIn := ⟨(hf_ (i := 42) rfl rfl), rfl, kx_7, kd_1, Nat.le_of_ble_eq_true rfl⟩
theorem ok_M_then : okM M_M_then := ⟨(hf_ (i := 35) rfl rfl), rfl, kx_7, kd_4, Nat.le_of_ble_eq_true rfl⟩
theorem ok_M_wornIn : okM M_M_wornIn := ⟨(hf_ (i := 50) rfl rfl), rfl, kx_7, kd_4, Nat.le_of_ble_eq_true rfl⟩
theorem ok_M_homeIn : okM M_M_homeIn := ⟨(hf_ (i := 58) rfl rfl), rfl, kx_7, kd_2, Nat.le_of_ble_eq_true rfl⟩
theorem ok_M_home : okM M_M_home := ⟨(hf_ (i := 54) rfl rfl), rfl, kx_7, kd_1, Nat.le_of_ble_eq_true rfl⟩
theorem ok_M_diesIn : okM M_M_diesIn := ⟨(hf_ (i := 67) rfl rfl), rfl, kx_7, kd_1, Nat.le_of_ble_eq_true rfl⟩
theorem ok_M_dies : okM M_M_dies := ⟨(hf_ (i := 62) rfl rfl), rfl, kx_7, kd_1, Nat.le_of_ble_eq_true rfl⟩
theorem ok_M_kingThen : okM M_M_kingThen := ⟨(hf_ (i := 75) rfl rfl), rfl, kx_7, kd_1, Nat.le_of_ble_eq_true rfl⟩
theorem ok_M_mercy : okM M_M_mercy := ⟨(hf_ (i := 71) rfl rfl), rfl, kx_7, kd_1, Nat.le_of_ble_eq_true rfl⟩
theorem ok_M_fewest : okM M_M_fewest := ⟨(hf_ (i := 79) rfl rfl), rfl, kx_7, kd_1, Nat.le_of_ble_eq_true rfl⟩
theorem ok_M_crown : okM M_M_crown := ⟨(hf_ (i := 86) rfl rfl), rfl, kx_7, kd_1, Nat.le_of_ble_eq_true rfl⟩
theorem ok_M_dig : okM M_M_dig := ⟨(hf_ (i := 90) rfl rfl), rfl, kx_7, kd_1, Nat.le_of_ble_eq_true rfl⟩
theorem ok_M_keep : okM M_M_keep := ⟨(hf_ (i := 94) rfl rfl), rfl, kx_7, kd_4, Nat.le_of_ble_eq_true rfl⟩
theorem ok_M_pairsNow : okM M_M_pairsNow := ⟨(hf_ (i := 102) rfl rfl), rfl, kx_7, kd_2, Nat.le_of_ble_eq_true rfl⟩
theorem ok_M_bearIn : okM M_M_bearIn := ⟨(hf_ (i := 110) rfl rfl), rfl, kx_7, kd_1, Nat.le_of_ble_eq_true rfl⟩
theorem ok_M_leastPoles : okM M_M_leastPoles := ⟨(hf_ (i := 106) rfl rfl), rfl, kx_7, kd_2, Nat.le_of_ble_eq_true rfl⟩
theorem ok_M_owing : okM M_M_owing := ⟨(hf_ (i := 114) rfl rfl), rfl, kx_7, kd_2, Nat.le_of_ble_eq_true rfl⟩
theorem ok_M_pairs : okM M_M_pairs := ⟨(hf_ (i := 98) rfl rfl), rfl, kx_7, kd_1, Nat.le_of_ble_eq_true rfl⟩
theorem ok_M_isRow : okM M_M_isRow := ⟨(hf_ (i := 127) rfl rfl), rfl, kx_7, kd_3, Nat.le_of_ble_eq_true rfl⟩
theorem ok_M_whoBore : okM M_M_whoBore := ⟨(hf_ (i := 123) rfl rfl), rfl, kx_7, kd_2, Nat.le_of_ble_eq_true rfl⟩
theorem ok_M_whatKind : okM M_M_whatKind := ⟨(hf_ (i := 131) rfl rfl), rfl, kx_7, kd_4, Nat.le_of_ble_eq_true rfl⟩
theorem ok_M_two : okM M_M_two := ⟨(hf_ (i := 135) rfl rfl), rfl, kx_7, kd_5, Nat.le_of_ble_eq_true rfl⟩
theorem ok_M_divisor : okM M_M_divisor := ⟨(hf_ (i := 146) rfl rfl), rfl, kx_7, kd_10, Nat.le_of_ble_eq_true rfl⟩
theorem ok_M_partOf : okM M_M_partOf := ⟨(hf_ (i := 143) rfl rfl), rfl, kx_7, kd_9, Nat.le_of_ble_eq_true rfl⟩
theorem ok_M_falls : okM M_M_falls := ⟨(hf_ (i := 139) rfl rfl), rfl, kx_7, kd_6, Nat.le_of_ble_eq_true rfl⟩
theorem ok_M_shares : okM M_M_shares := ⟨(hf_ (i := 150) rfl rfl), rfl, kx_7, kd_4, Nat.le_of_ble_eq_true rfl⟩
theorem ok_M_steepestStage : okM M_M_steepestStage := ⟨(hf_ (i := 158) rfl rfl), rfl, kx_7, kd_2, Nat.le_of_ble_eq_true rfl⟩
theorem ok_M_strongest : okM M_M_strongest := ⟨(hf_ (i := 154) rfl rfl), rfl, kx_7, kd_1, Nat.le_of_ble_eq_true rfl⟩
theorem ok_M_slopesLeft : okM M_M_slopesLeft := ⟨(hf_ (i := 166) rfl rfl), rfl, kx_7, kd_2, Nat.le_of_ble_eq_true rfl⟩
theorem ok_M_mean : okM M_M_mean := ⟨(hf_ (i := 162) rfl rfl), rfl, kx_7, kd_7, Nat.le_of_ble_eq_true rfl⟩
theorem ok_M_spare : okM M_M_spare := ⟨(hf_ (i := 170) rfl rfl), rfl, kx_7, kd_1, Nat.le_of_ble_eq_true rfl⟩
theorem ok_M_stuckAt : okM M_M_stuckAt := ⟨(hf_ (i := 178) rfl rfl), rfl, kx_7, kd_2, Nat.le_of_ble_eq_true rfl⟩
theorem ok_M_lameDays : okM M_M_lameDays := ⟨(hf_ (i := 182) rfl rfl), rfl, kx_7, kd_2, Nat.le_of_ble_eq_true rfl⟩
theorem ok_M_height : okM M_M_height := ⟨(hf_ (i := 174) rfl rfl), rfl, kx_7, kd_1, Nat.le_of_ble_eq_true rfl⟩
theorem ok_M_eased : okM M_M_eased := ⟨(hf_ (i := 186) rfl rfl), rfl, kx_7, kd_1, Nat.le_of_ble_eq_true rfl⟩
theorem ok_M_shoulders : okM M_M_shoulders := ⟨(hf_ (i := 190) rfl rfl), rfl, kx_7, kd_1, Nat.le_of_ble_eq_true rfl⟩
theorem ok_M_row : okM M_M_row := ⟨(hf_ (i := 194) rfl rfl), rfl, kx_7, kd_1, Nat.le_of_ble_eq_true rfl⟩
theorem ok_M_judge : okM M_M_judge := ⟨(hf_ (i := 198) rfl rfl), rfl, kx_7, kd_2, Nat.le_of_ble_eq_true rfl⟩
theorem ok_M_clear : okM M_M_clear := ⟨(hf_ (i := 202) rfl rfl), rfl, kx_7, kd_2, Nat.le_of_ble_eq_true rfl⟩
theorem ok_M_drawBelow : okM M_M_drawBelow := ⟨(hf_ (i := 210) rfl rfl), rfl, kx_7, kd_1, Nat.le_of_ble_eq_true rfl⟩
theorem ok_M_lots : okM M_M_lots := ⟨(hf_ (i := 206) rfl rfl), rfl, kx_7, kd_5, Nat.le_of_ble_eq_true rfl⟩
theorem ok_M_count : okM M_M_count := ⟨(hf_ (i := 217) rfl rfl), rfl, kx_7, kd_1, Nat.le_of_ble_eq_true rfl⟩
theorem ok_Ch_init : okM M_Ch_init := ⟨(g9_ (i := 135) rfl rfl), rfl, kx_0, kd_0, Nat.le_of_ble_eq_true rfl⟩
theorem ok_Ch_waysToBeAt : okM M_Ch_waysToBeAt := ⟨(hc_ (i := 103) rfl rfl), rfl, kx_0, kd_16, Nat.le_of_ble_eq_true rfl⟩
theorem ok_Ch_reignsByLot : okM M_Ch_reignsByLot := ⟨(hc_ (i := 211) rfl rfl), rfl, kx_0, kd_17, Nat.le_of_ble_eq_true rfl⟩
theorem ok_Ch_drawDigit : okM M_Ch_drawDigit := ⟨(hc_ (i := 215) rfl rfl), rfl, kx_0, kd_2, Nat.le_of_ble_eq_true rfl⟩
theorem ok_Co_init : okM M_Co_init := ⟨(g9_ (i := 117) rfl rfl), rfl, kx_1, kd_0, Nat.le_of_ble_eq_true rfl⟩
theorem ok_Co_daysToHome : okM M_Co_daysToHome := ⟨(ha_ (i := 179) rfl rfl), rfl, kx_1, kd_18, Nat.le_of_ble_eq_true rfl⟩
theorem ok_Co_daysToDeath : okM M_Co_daysToDeath := ⟨(ha_ (i := 197) rfl rfl), rfl, kx_1, kd_19, Nat.le_of_ble_eq_true rfl⟩
theorem ok_Co_firstToDie : okM M_Co_firstToDie := ⟨(ha_ (i := 192) rfl rfl), rfl, kx_1, kd_18, Nat.le_of_ble_eq_true rfl⟩
theorem ok_Co_whomToPardon : okM M_Co_whomToPardon := ⟨(ha_ (i := 205) rfl rfl), rfl, kx_1, kd_19, Nat.le_of_ble_eq_true rfl⟩
theorem ok_Co_fewestToPardon : okM M_Co_fewestToPardon := ⟨(ha_ (i := 218) rfl rfl), rfl, kx_1, kd_19, Nat.le_of_ble_eq_true rfl⟩
theorem ok_Co_pardonInMind : okM M_Co_pardonInMind := ⟨(ha_ (i := 229) rfl rfl), rfl, kx_1, kd_13, Nat.le_of_ble_eq_true rfl⟩
theorem ok_Co_greatestLoad : okM M_Co_greatestLoad := ⟨(ha_ (i := 237) rfl rfl), rfl, kx_1, kd_19, Nat.le_of_ble_eq_true rfl⟩
theorem ok_Co_whereToDig : okM M_Co_whereToDig := ⟨(hc_ (i := 5) rfl rfl), rfl, kx_1, kd_19, Nat.le_of_ble_eq_true rfl⟩
theorem ok_Co_cheapestToCondemn : okM M_Co_cheapestToCondemn := ⟨(hc_ (i := 17) rfl rfl), rfl, kx_1, kd_20, Nat.le_of_ble_eq_true rfl⟩
theorem ok_Co_fewestPoles : okM M_Co_fewestPoles := ⟨(hc_ (i := 33) rfl rfl), rfl, kx_1, kd_18, Nat.le_of_ble_eq_true rfl⟩
theorem ok_Co_whoFits : okM M_Co_whoFits := ⟨(hc_ (i := 53) rfl rfl), rfl, kx_1, kd_21, Nat.le_of_ble_eq_true rfl⟩
theorem ok_Co_kingGoesAs : okM M_Co_kingGoesAs := ⟨(hc_ (i := 57) rfl rfl), rfl, kx_1, kd_22, Nat.le_of_ble_eq_true rfl⟩
theorem ok_Co_kindsThatFit : okM M_Co_kindsThatFit := ⟨(hc_ (i := 69) rfl rfl), rfl, kx_1, kd_23, Nat.le_of_ble_eq_true rfl⟩
theorem ok_Co_figuresThatFit : okM M_Co_figuresThatFit := ⟨(hc_ (i := 82) rfl rfl), rfl, kx_1, kd_23, Nat.le_of_ble_eq_true rfl⟩
theorem ok_Co_isWornAs : okM M_Co_isWornAs := ⟨(hc_ (i := 77) rfl rfl), rfl, kx_1, kd_24, Nat.le_of_ble_eq_true rfl⟩
theorem ok_Co_choiceOfTwo : okM M_Co_choiceOfTwo := ⟨(hc_ (i := 94) rfl rfl), rfl, kx_1, kd_25, Nat.le_of_ble_eq_true rfl⟩
theorem ok_Co_longestWait : okM M_Co_longestWait := ⟨(hc_ (i := 161) rfl rfl), rfl, kx_1, kd_18, Nat.le_of_ble_eq_true rfl⟩
theorem ok_Co_gainWithoutSnow : okM M_Co_gainWithoutSnow := ⟨(hc_ (i := 170) rfl rfl), rfl, kx_1, kd_19, Nat.le_of_ble_eq_true rfl⟩
theorem ok_Le_init : okM M_Le_init := ⟨(g9_ (i := 88) rfl rfl), rfl, kx_2, kd_0, Nat.le_of_ble_eq_true rfl⟩
theorem ok_Le_isFull : okM M_Le_isFull := ⟨(g9_ (i := 188) rfl rfl), rfl, kx_2, kd_26, Nat.le_of_ble_eq_true rfl⟩
theorem ok_Le_add : okM M_Le_add := ⟨(g9_ (i := 192) rfl rfl), rfl, kx_2, kd_13, Nat.le_of_ble_eq_true rfl⟩
theorem ok_Le_forget : okM M_Le_forget := ⟨(ha_ (i := 88) rfl rfl), rfl, kx_2, kd_0, Nat.le_of_ble_eq_true rfl⟩
theorem ok_Le_at : okM M_Le_at := ⟨(g9_ (i := 204) rfl rfl), rfl, kx_2, kd_1, Nat.le_of_ble_eq_true rfl⟩
theorem ok_Le_isDigit : okM M_Le_isDigit := ⟨(g9_ (i := 217) rfl rfl), rfl, kx_2, kd_3, Nat.le_of_ble_eq_true rfl⟩
theorem ok_Le_digit : okM M_Le_digit := ⟨(g9_ (i := 232) rfl rfl), rfl, kx_2, kd_1, Nat.le_of_ble_eq_true rfl⟩
theorem ok_Le_twoDigits : okM M_Le_twoDigits := ⟨(g9_ (i := 236) rfl rfl), rfl, kx_2, kd_1, Nat.le_of_ble_eq_true rfl⟩
theorem ok_Le_digitsBehind : okM M_Le_digitsBehind := ⟨(g9_ (i := 207) rfl rfl), rfl, kx_2, kd_1, Nat.le_of_ble_eq_true rfl⟩
theorem ok_Le_lengthOf : okM M_Le_lengthOf := ⟨(g9_ (i := 210) rfl rfl), rfl, kx_2, kd_1, Nat.le_of_ble_eq_true rfl⟩
theorem ok_Le_faultOfForm : okM M_Le_faultOfForm := ⟨(g9_ (i := 200) rfl rfl), rfl, kx_2, kd_2, Nat.le_of_ble_eq_true rfl⟩
theorem ok_Pa_init : okM M_Pa_init := ⟨(g9_ (i := 71) rfl rfl), rfl, kx_3, kd_0, Nat.le_of_ble_eq_true rfl⟩
theorem ok_Pa_remember : okM M_Pa_remember := ⟨(ha_ (i := 130) rfl rfl), rfl, kx_3, kd_27, Nat.le_of_ble_eq_true rfl⟩
theorem ok_Pa_dropOldest : okM M_Pa_dropOldest := ⟨(ha_ (i := 134) rfl rfl), rfl, kx_3, kd_0, Nat.le_of_ble_eq_true rfl⟩
theorem ok_Pa_takeBack : okM M_Pa_takeBack := ⟨(ha_ (i := 159) rfl rfl), rfl, kx_3, kd_27, Nat.le_of_ble_eq_true rfl⟩
theorem ok_Pa_forget : okM M_Pa_forget := ⟨(ha_ (i := 84) rfl rfl), rfl, kx_3, kd_0, Nat.le_of_ble_eq_true rfl⟩
theorem ok_Re_init : okM M_Re_init := ⟨(g9_ (i := 24) rfl rfl), rfl, kx_4, kd_0, Nat.le_of_ble_eq_true rfl⟩
theorem ok_Re_become : okM M_Re_become := ⟨(g9_ (i := 221) rfl rfl), rfl, kx_4, kd_27, Nat.le_of_ble_eq_true rfl⟩
theorem ok_Re_has : okM M_Re_has := ⟨(ha_ (i := 13) rfl rfl), rfl, kx_4, kd_3, Nat.le_of_ble_eq_true rfl⟩
theorem ok_Re_kindOf : okM M_Re_kindOf := ⟨(ha_ (i := 97) rfl rfl), rfl, kx_4, kd_1, Nat.le_of_ble_eq_true rfl⟩
theorem ok_Re_figureOf : okM M_Re_figureOf := ⟨(ha_ (i := 101) rfl rfl), rfl, kx_4, kd_1, Nat.le_of_ble_eq_true rfl⟩
theorem ok_Re_fateOf : okM M_Re_fateOf := ⟨(ha_ (i := 105) rfl rfl), rfl, kx_4, kd_1, Nat.le_of_ble_eq_true rfl⟩
theorem ok_Re_wornOf : okM M_Re_wornOf := ⟨(ha_ (i := 109) rfl rfl), rfl, kx_4, kd_1, Nat.le_of_ble_eq_true rfl⟩
theorem ok_Re_slopeOf : okM M_Re_slopeOf := ⟨(ha_ (i := 47) rfl rfl), rfl, kx_4, kd_1, Nat.le_of_ble_eq_true rfl⟩
theorem ok_Re_makeKind : okM M_Re_makeKind := ⟨(hc_ (i := 73) rfl rfl), rfl, kx_4, kd_14, Nat.le_of_ble_eq_true rfl⟩
theorem ok_Re_makeFigure : okM M_Re_makeFigure := ⟨(hc_ (i := 86) rfl rfl), rfl, kx_4, kd_14, Nat.le_of_ble_eq_true rfl⟩
theorem ok_Re_makeFate : okM M_Re_makeFate := ⟨(ha_ (i := 210) rfl rfl), rfl, kx_4, kd_14, Nat.le_of_ble_eq_true rfl⟩
theorem ok_Re_isHome : okM M_Re_isHome := ⟨(ha_ (i := 35) rfl rfl), rfl, kx_4, kd_26, Nat.le_of_ble_eq_true rfl⟩
theorem ok_Re_takesIn : okM M_Re_takesIn := ⟨(ha_ (i := 2) rfl rfl), rfl, kx_4, kd_12, Nat.le_of_ble_eq_true rfl⟩
theorem ok_Re_turns : okM M_Re_turns := ⟨(ha_ (i := 9) rfl rfl), rfl, kx_4, kd_3, Nat.le_of_ble_eq_true rfl⟩
theorem ok_Re_levels : okM M_Re_levels := ⟨(ha_ (i := 17) rfl rfl), rfl, kx_4, kd_12, Nat.le_of_ble_eq_true rfl⟩
theorem ok_Re_menWhoAre : okM M_Re_menWhoAre := ⟨(ha_ (i := 167) rfl rfl), rfl, kx_4, kd_1, Nat.le_of_ble_eq_true rfl⟩
theorem ok_Re_bears : okM M_Re_bears := ⟨(ha_ (i := 55) rfl rfl), rfl, kx_4, kd_1, Nat.le_of_ble_eq_true rfl⟩
theorem ok_Re_wears : okM M_Re_wears := ⟨(ha_ (i := 63) rfl rfl), rfl, kx_4, kd_4, Nat.le_of_ble_eq_true rfl⟩
theorem ok_Re_isFeudAmong : okM M_Re_isFeudAmong := ⟨(ha_ (i := 67) rfl rfl), rfl, kx_4, kd_3, Nat.le_of_ble_eq_true rfl⟩
theorem ok_Re_lasts : okM M_Re_lasts := ⟨(ha_ (i := 78) rfl rfl), rfl, kx_4, kd_1, Nat.le_of_ble_eq_true rfl⟩
theorem ok_Re_needed : okM M_Re_needed := ⟨(ha_ (i := 43) rfl rfl), rfl, kx_4, kd_2, Nat.le_of_ble_eq_true rfl⟩
theorem ok_Re_strengthOf : okM M_Re_strengthOf := ⟨(hc_ (i := 37) rfl rfl), rfl, kx_4, kd_1, Nat.le_of_ble_eq_true rfl⟩
theorem ok_Re_strongestBut : okM M_Re_strongestBut := ⟨(ha_ (i := 51) rfl rfl), rfl, kx_4, kd_1, Nat.le_of_ble_eq_true rfl⟩
theorem ok_Re_bearers : okM M_Re_bearers := ⟨(ha_ (i := 39) rfl rfl), rfl, kx_4, kd_2, Nat.le_of_ble_eq_true rfl⟩
theorem ok_Re_waitsOneDay : okM M_Re_waitsOneDay := ⟨(ha_ (i := 31) rfl rfl), rfl, kx_4, kd_26, Nat.le_of_ble_eq_true rfl⟩
theorem ok_Re_passDays : okM M_Re_passDays := ⟨(ha_ (i := 27) rfl rfl), rfl, kx_4, kd_1, Nat.le_of_ble_eq_true rfl⟩
theorem ok_Re_wearOut : okM M_Re_wearOut := ⟨(ha_ (i := 59) rfl rfl), rfl, kx_4, kd_13, Nat.le_of_ble_eq_true rfl⟩
theorem ok_Re_buryTheWornOut : okM M_Re_buryTheWornOut := ⟨(ha_ (i := 74) rfl rfl), rfl, kx_4, kd_0, Nat.le_of_ble_eq_true rfl⟩
theorem ok_Re_snowMore : okM M_Re_snowMore := ⟨(hc_ (i := 108) rfl rfl), rfl, kx_4, kd_13, Nat.le_of_ble_eq_true rfl⟩
theorem ok_Re_slopesAhead : okM M_Re_slopesAhead := ⟨(hc_ (i := 142) rfl rfl), rfl, kx_4, kd_2, Nat.le_of_ble_eq_true rfl⟩
theorem ok_Re_steepest : okM M_Re_steepest := ⟨(hc_ (i := 133) rfl rfl), rfl, kx_4, kd_2, Nat.le_of_ble_eq_true rfl⟩
theorem ok_Re_firstTooSteep : okM M_Re_firstTooSteep := ⟨(hc_ (i := 155) rfl rfl), rfl, kx_4, kd_2, Nat.le_of_ble_eq_true rfl⟩
theorem ok_Re_twosInStep : okM M_Re_twosInStep := ⟨(hc_ (i := 25) rfl rfl), rfl, kx_4, kd_2, Nat.le_of_ble_eq_true rfl⟩
theorem ok_Re_oneWhoBears : okM M_Re_oneWhoBears := ⟨(hc_ (i := 29) rfl rfl), rfl, kx_4, kd_4, Nat.le_of_ble_eq_true rfl⟩
theorem ok_Re_howManyOwe : okM M_Re_howManyOwe := ⟨(hc_ (i := 42) rfl rfl), rfl, kx_4, kd_2, Nat.le_of_ble_eq_true rfl⟩
theorem ok_Re_pardonedOfKind : okM M_Re_pardonedOfKind := ⟨(hc_ (i := 178) rfl rfl), rfl, kx_4, kd_1, Nat.le_of_ble_eq_true rfl⟩
theorem ok_Ro_init : okM M_Ro_init := ⟨(g9_ (i := 102) rfl rfl), rfl, kx_5, kd_0, Nat.le_of_ble_eq_true rfl⟩
theorem ok_Ro_isFull : okM M_Ro_isFull := ⟨(hc_ (i := 186) rfl rfl), rfl, kx_5, kd_26, Nat.le_of_ble_eq_true rfl⟩
theorem ok_Ro_add : okM M_Ro_add := ⟨(hc_ (i := 190) rfl rfl), rfl, kx_5, kd_13, Nat.le_of_ble_eq_true rfl⟩
theorem ok_Ro_at : okM M_Ro_at := ⟨(hc_ (i := 61) rfl rfl), rfl, kx_5, kd_1, Nat.le_of_ble_eq_true rfl⟩
theorem ok_Ro_forget : okM M_Ro_forget := ⟨(hc_ (i := 199) rfl rfl), rfl, kx_5, kd_0, Nat.le_of_ble_eq_true rfl⟩
theorem ok_In_bitCount : okM M_In_bitCount := ⟨(ha_ (i := 222) rfl rfl), rfl, kx_8, kd_1, Nat.le_of_ble_eq_true rfl⟩
theorem kk_6_65 : linkV 6 65 M_X_refuse := ⟨ok_X_refuse, (g9_ (i := 181) rfl rfl), (g9_ (i := 183) rfl rfl), (inP (i := 0) rfl rfl)⟩
theorem kf_6_32 : linkF 6 32 6 4 := ⟨RX6, TX6, 10, rfl, Nat.le_of_ble_eq_true rfl, rfl, Or.inl (g9_ (i := 150) rfl rfl)⟩
theorem kk_6_69 : linkV 6 69 M_Le_isFull := ⟨ok_Le_isFull, (g9_ (i := 185) rfl rfl), (g9_ (i := 186) rfl rfl), (g9_ (i := 187) rfl rfl)⟩
theorem kk_6_73 : linkV 6 73 M_Le_add := ⟨ok_Le_add, (g9_ (i := 189) rfl rfl), (g9_ (i := 190) rfl rfl), (g9_ (i := 191) rfl rfl)⟩
theorem kf_6_77 : linkF 6 77 2 1 := ⟨RX2, TX2, 2, rfl, Nat.le_of_ble_eq_true rfl, rfl, Or.inr (inN0 (i := 92) rfl rfl)⟩
theorem kk_6_81 : linkV 6 81 M_Le_faultOfForm := ⟨ok_Le_faultOfForm, (g9_ (i := 197) rfl rfl), (g9_ (i := 198) rfl rfl), (g9_ (i := 199) rfl rfl)⟩
theorem kf_6_16 : linkF 6 16 6 1 := ⟨RX6, TX6, 10, rfl, Nat.le_of_ble_eq_true rfl, rfl, Or.inl (g9_ (i := 147) rfl rfl)⟩
theorem kf_6_10 : linkF 6 10 6 0 := ⟨RX6, TX6, 10, rfl, Nat.le_of_ble_eq_true rfl, rfl, Or.inl (g9_ (i := 146) rfl rfl)⟩
theorem kk_6_85 : linkV 6 85 M_Re_become := ⟨ok_Re_become, (g9_ (i := 218) rfl rfl), (g9_ (i := 219) rfl rfl), (g9_ (i := 220) rfl rfl)⟩
theorem kk_6_89 : linkV 6 89 M_X_obeys := ⟨ok_X_obeys, (g9_ (i := 225) rfl rfl), (g9_ (i := 227) rfl rfl), (inP (i := 1) rfl rfl)⟩
theorem kk_6_93 : linkV 6 93 M_Le_at := ⟨ok_Le_at, (g9_ (i := 238) rfl rfl), (g9_ (i := 202) rfl rfl), (g9_ (i := 203) rfl rfl)⟩
theorem kk_6_96 : linkS 6 96 M_Le_lengthOf := ⟨ok_Le_lengthOf, Or.inl (ha_ (i := 80) rfl rfl), (g9_ (i := 209) rfl rfl)⟩
theorem kf_6_25 : linkF 6 25 6 3 := ⟨RX6, TX6, 10, rfl, Nat.le_of_ble_eq_true rfl, rfl, Or.inl (g9_ (i := 149) rfl rfl)⟩
theorem kk_6_99 : linkV 6 99 M_Pa_forget := ⟨ok_Pa_forget, (ha_ (i := 81) rfl rfl), (ha_ (i := 82) rfl rfl), (ha_ (i := 83) rfl rfl)⟩
theorem kk_6_102 : linkV 6 102 M_Le_forget := ⟨ok_Le_forget, (ha_ (i := 85) rfl rfl), (ha_ (i := 86) rfl rfl), (ha_ (i := 87) rfl rfl)⟩
theorem kk_6_103 : linkV 6 103 M_Le_digit := ⟨ok_Le_digit, (g9_ (i := 229) rfl rfl), (g9_ (i := 230) rfl rfl), (g9_ (i := 231) rfl rfl)⟩
theorem kk_6_106 : linkV 6 106 M_Le_twoDigits := ⟨ok_Le_twoDigits, (g9_ (i := 233) rfl rfl), (g9_ (i := 234) rfl rfl), (g9_ (i := 235) rfl rfl)⟩
theorem kk_6_109 : linkV 6 109 M_Re_takesIn := ⟨ok_Re_takesIn, (g9_ (i := 239) rfl rfl), (ha_ (i := 0) rfl rfl), (ha_ (i := 1) rfl rfl)⟩
theorem kk_6_113 : linkV 6 113 M_Re_turns := ⟨ok_Re_turns, (ha_ (i := 6) rfl rfl), (ha_ (i := 7) rfl rfl), (ha_ (i := 8) rfl rfl)⟩
theorem kk_6_116 : linkV 6 116 M_Re_levels := ⟨ok_Re_levels, (ha_ (i := 14) rfl rfl), (ha_ (i := 15) rfl rfl), (ha_ (i := 16) rfl rfl)⟩
theorem kk_6_119 : linkS 6 119 M_X_outside := ⟨ok_X_outside, Or.inl (ha_ (i := 21) rfl rfl), (ha_ (i := 22) rfl rfl)⟩
theorem kf_6_123 : linkF 6 123 4 7 := ⟨RX4, TX4, 10, rfl, Nat.le_of_ble_eq_true rfl, rfl, Or.inr (inN0 (i := 38) rfl rfl)⟩
theorem kp_4_7 : linkP 4 7 0 := ⟨RX4, TX4, 10, rfl, rfl, by decide +kernel⟩
theorem kf_6_126 : linkF 6 126 4 6 := ⟨RX4, TX4, 10, rfl, Nat.le_of_ble_eq_true rfl, rfl, Or.inr (inN0 (i := 35) rfl rfl)⟩
theorem kp_4_6 : linkP 4 6 0 := ⟨RX4, TX4, 10, rfl, rfl, by decide +kernel⟩
theorem kf_6_129 : linkF 6 129 4 8 := ⟨RX4, TX4, 10, rfl, Nat.le_of_ble_eq_true rfl, rfl, Or.inr (inN0 (i := 41) rfl rfl)⟩
theorem kp_4_8 : linkP 4 8 0 := ⟨RX4, TX4, 10, rfl, rfl, by decide +kernel⟩
theorem kf_6_132 : linkF 6 132 4 9 := ⟨RX4, TX4, 10, rfl, Nat.le_of_ble_eq_true rfl, rfl, Or.inr (inN0 (i := 44) rfl rfl)⟩
theorem kk_6_135 : linkV 6 135 M_Re_passDays := ⟨ok_Re_passDays, (ha_ (i := 24) rfl rfl), (ha_ (i := 25) rfl rfl), (ha_ (i := 26) rfl rfl)⟩
theorem kk_6_138 : linkV 6 138 M_Re_has := ⟨ok_Re_has, (ha_ (i := 93) rfl rfl), (ha_ (i := 11) rfl rfl), (ha_ (i := 12) rfl rfl)⟩
theorem kk_6_141 : linkV 6 141 M_Re_kindOf := ⟨ok_Re_kindOf, (ha_ (i := 94) rfl rfl), (ha_ (i := 95) rfl rfl), (ha_ (i := 96) rfl rfl)⟩
theorem kk_6_144 : linkV 6 144 M_Re_figureOf := ⟨ok_Re_figureOf, (ha_ (i := 98) rfl rfl), (ha_ (i := 99) rfl rfl), (ha_ (i := 100) rfl rfl)⟩
theorem kk_6_147 : linkV 6 147 M_Re_fateOf := ⟨ok_Re_fateOf, (ha_ (i := 102) rfl rfl), (ha_ (i := 103) rfl rfl), (ha_ (i := 104) rfl rfl)⟩
theorem kk_6_150 : linkV 6 150 M_Re_wornOf := ⟨ok_Re_wornOf, (ha_ (i := 106) rfl rfl), (ha_ (i := 107) rfl rfl), (ha_ (i := 108) rfl rfl)⟩
theorem kk_6_153 : linkV 6 153 M_Re_bears := ⟨ok_Re_bears, (ha_ (i := 110) rfl rfl), (ha_ (i := 53) rfl rfl), (ha_ (i := 54) rfl rfl)⟩
theorem kk_6_156 : linkV 6 156 M_Re_lasts := ⟨ok_Re_lasts, (ha_ (i := 111) rfl rfl), (ha_ (i := 76) rfl rfl), (ha_ (i := 77) rfl rfl)⟩
theorem kk_6_159 : linkS 6 159 M_X_isStage := ⟨ok_X_isStage, Or.inl (ha_ (i := 116) rfl rfl), (ha_ (i := 19) rfl rfl)⟩
theorem kk_6_162 : linkV 6 162 M_Re_slopeOf := ⟨ok_Re_slopeOf, (ha_ (i := 117) rfl rfl), (ha_ (i := 45) rfl rfl), (ha_ (i := 46) rfl rfl)⟩
theorem kk_6_165 : linkS 6 165 M_X_isKind := ⟨ok_X_isKind, Or.inl (ha_ (i := 122) rfl rfl), (ha_ (i := 4) rfl rfl)⟩
theorem kf_6_168 : linkF 6 168 4 5 := ⟨RX4, TX4, 10, rfl, Nat.le_of_ble_eq_true rfl, rfl, Or.inr (inN0 (i := 32) rfl rfl)⟩
theorem kk_6_171 : linkV 6 171 M_Pa_remember := ⟨ok_Pa_remember, (ha_ (i := 127) rfl rfl), (ha_ (i := 128) rfl rfl), (ha_ (i := 129) rfl rfl)⟩
theorem kf_6_174 : linkF 6 174 3 1 := ⟨RX3, TX3, 2, rfl, Nat.le_of_ble_eq_true rfl, rfl, Or.inr (inN0 (i := 78) rfl rfl)⟩
theorem kk_6_175 : linkV 6 175 M_Pa_takeBack := ⟨ok_Pa_takeBack, (ha_ (i := 156) rfl rfl), (ha_ (i := 157) rfl rfl), (ha_ (i := 158) rfl rfl)⟩
theorem kk_6_178 : linkV 6 178 M_Re_menWhoAre := ⟨ok_Re_menWhoAre, (ha_ (i := 164) rfl rfl), (ha_ (i := 165) rfl rfl), (ha_ (i := 166) rfl rfl)⟩
theorem kf_6_46 : linkF 6 46 6 6 := ⟨RX6, TX6, 10, rfl, Nat.le_of_ble_eq_true rfl, rfl, Or.inl (g9_ (i := 152) rfl rfl)⟩
theorem kk_6_181 : linkV 6 181 M_Co_daysToHome := ⟨ok_Co_daysToHome, (ha_ (i := 176) rfl rfl), (ha_ (i := 177) rfl rfl), (ha_ (i := 178) rfl rfl)⟩
theorem kk_6_185 : linkV 6 185 M_Re_isHome := ⟨ok_Re_isHome, (ha_ (i := 183) rfl rfl), (ha_ (i := 33) rfl rfl), (ha_ (i := 34) rfl rfl)⟩
theorem kk_6_188 : linkV 6 188 M_Re_bearers := ⟨ok_Re_bearers, (ha_ (i := 184) rfl rfl), (ha_ (i := 37) rfl rfl), (ha_ (i := 38) rfl rfl)⟩
theorem kk_6_191 : linkV 6 191 M_Co_firstToDie := ⟨ok_Co_firstToDie, (ha_ (i := 189) rfl rfl), (ha_ (i := 190) rfl rfl), (ha_ (i := 191) rfl rfl)⟩
theorem kk_6_194 : linkV 6 194 M_Co_daysToDeath := ⟨ok_Co_daysToDeath, (ha_ (i := 194) rfl rfl), (ha_ (i := 195) rfl rfl), (ha_ (i := 196) rfl rfl)⟩
theorem kk_6_198 : linkV 6 198 M_Co_whomToPardon := ⟨ok_Co_whomToPardon, (ha_ (i := 202) rfl rfl), (ha_ (i := 203) rfl rfl), (ha_ (i := 204) rfl rfl)⟩
theorem kk_6_201 : linkV 6 201 M_Co_fewestToPardon := ⟨ok_Co_fewestToPardon, (ha_ (i := 215) rfl rfl), (ha_ (i := 216) rfl rfl), (ha_ (i := 217) rfl rfl)⟩
theorem kk_6_204 : linkV 6 204 M_Co_greatestLoad := ⟨ok_Co_greatestLoad, (ha_ (i := 234) rfl rfl), (ha_ (i := 235) rfl rfl), (ha_ (i := 236) rfl rfl)⟩
theorem kk_6_207 : linkV 6 207 M_Co_whereToDig := ⟨ok_Co_whereToDig, (hc_ (i := 2) rfl rfl), (hc_ (i := 3) rfl rfl), (hc_ (i := 4) rfl rfl)⟩
theorem kk_6_210 : linkS 6 210 M_X_isOneOfTwo := ⟨ok_X_isOneOfTwo, Or.inl (hc_ (i := 11) rfl rfl), (hc_ (i := 12) rfl rfl)⟩
theorem kk_6_213 : linkV 6 213 M_Co_cheapestToCondemn := ⟨ok_Co_cheapestToCondemn, (hc_ (i := 14) rfl rfl), (hc_ (i := 15) rfl rfl), (hc_ (i := 16) rfl rfl)⟩
theorem kk_6_217 : linkV 6 217 M_Re_twosInStep := ⟨ok_Re_twosInStep, (hc_ (i := 22) rfl rfl), (hc_ (i := 23) rfl rfl), (hc_ (i := 24) rfl rfl)⟩
theorem kk_6_220 : linkV 6 220 M_Co_fewestPoles := ⟨ok_Co_fewestPoles, (hc_ (i := 30) rfl rfl), (hc_ (i := 31) rfl rfl), (hc_ (i := 32) rfl rfl)⟩
theorem kk_6_223 : linkV 6 223 M_Re_howManyOwe := ⟨ok_Re_howManyOwe, (hc_ (i := 39) rfl rfl), (hc_ (i := 40) rfl rfl), (hc_ (i := 41) rfl rfl)⟩
theorem kk_6_226 : linkV 6 226 M_Re_strengthOf := ⟨ok_Re_strengthOf, (hc_ (i := 43) rfl rfl), (hc_ (i := 35) rfl rfl), (hc_ (i := 36) rfl rfl)⟩
theorem kk_6_229 : linkV 6 229 M_Re_needed := ⟨ok_Re_needed, (hc_ (i := 44) rfl rfl), (ha_ (i := 41) rfl rfl), (ha_ (i := 42) rfl rfl)⟩
theorem kc_6_232 : linkC 6 232 1000000000 := (hc_ (i := 45) rfl rfl)
theorem kf_6_39 : linkF 6 39 6 5 := ⟨RX6, TX6, 10, rfl, Nat.le_of_ble_eq_true rfl, rfl, Or.inl (g9_ (i := 151) rfl rfl)⟩
theorem kk_6_233 : linkV 6 233 M_Co_whoFits := ⟨ok_Co_whoFits, (hc_ (i := 50) rfl rfl), (hc_ (i := 51) rfl rfl), (hc_ (i := 52) rfl rfl)⟩
theorem kk_6_237 : linkV 6 237 M_Co_kindsThatFit := ⟨ok_Co_kindsThatFit, (hc_ (i := 66) rfl rfl), (hc_ (i := 67) rfl rfl), (hc_ (i := 68) rfl rfl)⟩
theorem kk_6_241 : linkV 6 241 M_Co_figuresThatFit := ⟨ok_Co_figuresThatFit, (hc_ (i := 79) rfl rfl), (hc_ (i := 80) rfl rfl), (hc_ (i := 81) rfl rfl)⟩
theorem kk_6_244 : linkV 6 244 M_Co_choiceOfTwo := ⟨ok_Co_choiceOfTwo, (hc_ (i := 91) rfl rfl), (hc_ (i := 92) rfl rfl), (hc_ (i := 93) rfl rfl)⟩
theorem kj_6_248 : linkJ 6 248 4000000000000000000 := (hc_ (i := 99) rfl rfl)
theorem kf_6_53 : linkF 6 53 6 7 := ⟨RX6, TX6, 10, rfl, Nat.le_of_ble_eq_true rfl, rfl, Or.inl (g9_ (i := 153) rfl rfl)⟩
theorem kk_6_250 : linkV 6 250 M_Ch_waysToBeAt := ⟨ok_Ch_waysToBeAt, (hc_ (i := 100) rfl rfl), (hc_ (i := 101) rfl rfl), (hc_ (i := 102) rfl rfl)⟩
theorem kk_6_254 : linkS 6 254 M_X_power := ⟨ok_X_power, Or.inl (hc_ (i := 114) rfl rfl), (hc_ (i := 112) rfl rfl)⟩
theorem kk_6_258 : linkS 6 258 M_X_inLowestTerms := ⟨ok_X_inLowestTerms, Or.inl (hc_ (i := 115) rfl rfl), (hc_ (i := 116) rfl rfl)⟩
theorem kk_6_262 : linkV 6 262 M_Re_strongestBut := ⟨ok_Re_strongestBut, (hc_ (i := 129) rfl rfl), (ha_ (i := 49) rfl rfl), (ha_ (i := 50) rfl rfl)⟩
theorem kk_6_265 : linkV 6 265 M_Re_steepest := ⟨ok_Re_steepest, (hc_ (i := 130) rfl rfl), (hc_ (i := 131) rfl rfl), (hc_ (i := 132) rfl rfl)⟩
theorem kk_6_268 : linkS 6 268 M_In_bitCount := ⟨ok_In_bitCount, Or.inl (hc_ (i := 134) rfl rfl), (ha_ (i := 221) rfl rfl)⟩
theorem kk_6_273 : linkV 6 273 M_Re_slopesAhead := ⟨ok_Re_slopesAhead, (hc_ (i := 139) rfl rfl), (hc_ (i := 140) rfl rfl), (hc_ (i := 141) rfl rfl)⟩
theorem kn_6_276 : linkN 6 276 1 := ⟨(hc_ (i := 147) rfl rfl), (g9_ (i := 212) rfl rfl), (g9_ (i := 9) rfl rfl), (g9_ (i := 213) rfl rfl)⟩
theorem kk_6_282 : linkV 6 282 M_Re_firstTooSteep := ⟨ok_Re_firstTooSteep, (hc_ (i := 152) rfl rfl), (hc_ (i := 153) rfl rfl), (hc_ (i := 154) rfl rfl)⟩
theorem kk_6_285 : linkV 6 285 M_Co_longestWait := ⟨ok_Co_longestWait, (hc_ (i := 158) rfl rfl), (hc_ (i := 159) rfl rfl), (hc_ (i := 160) rfl rfl)⟩
theorem kk_6_288 : linkV 6 288 M_Co_gainWithoutSnow := ⟨ok_Co_gainWithoutSnow, (hc_ (i := 167) rfl rfl), (hc_ (i := 168) rfl rfl), (hc_ (i := 169) rfl rfl)⟩
theorem kk_6_291 : linkV 6 291 M_Re_pardonedOfKind := ⟨ok_Re_pardonedOfKind, (hc_ (i := 175) rfl rfl), (hc_ (i := 176) rfl rfl), (hc_ (i := 177) rfl rfl)⟩
theorem kk_6_294 : linkV 6 294 M_Ro_isFull := ⟨ok_Ro_isFull, (hc_ (i := 183) rfl rfl), (hc_ (i := 184) rfl rfl), (hc_ (i := 185) rfl rfl)⟩
theorem kk_6_295 : linkV 6 295 M_Ro_add := ⟨ok_Ro_add, (hc_ (i := 187) rfl rfl), (hc_ (i := 188) rfl rfl), (hc_ (i := 189) rfl rfl)⟩
theorem kf_6_296 : linkF 6 296 5 1 := ⟨RX5, TX5, 2, rfl, Nat.le_of_ble_eq_true rfl, rfl, Or.inr (inN0 (i := 107) rfl rfl)⟩
theorem kk_6_297 : linkV 6 297 M_Ro_at := ⟨ok_Ro_at, (hc_ (i := 195) rfl rfl), (hc_ (i := 59) rfl rfl), (hc_ (i := 60) rfl rfl)⟩
theorem kk_6_298 : linkV 6 298 M_Ro_forget := ⟨ok_Ro_forget, (hc_ (i := 196) rfl rfl), (hc_ (i := 197) rfl rfl), (hc_ (i := 198) rfl rfl)⟩
theorem kk_6_299 : linkV 6 299 M_Ch_reignsByLot := ⟨ok_Ch_reignsByLot, (hc_ (i := 208) rfl rfl), (hc_ (i := 209) rfl rfl), (hc_ (i := 210) rfl rfl)⟩
theorem kf_6_19 : linkF 6 19 6 2 := ⟨RX6, TX6, 10, rfl, Nat.le_of_ble_eq_true rfl, rfl, Or.inl (g9_ (i := 148) rfl rfl)⟩
theorem kf_6_61 : linkF 6 61 6 9 := ⟨RX6, TX6, 10, rfl, Nat.le_of_ble_eq_true rfl, rfl, Or.inl (g9_ (i := 155) rfl rfl)⟩
theorem kp_6_9 : linkP 6 9 1 := ⟨RX6, TX6, 10, rfl, rfl, by decide +kernel⟩
theorem kf_6_57 : linkF 6 57 6 8 := ⟨RX6, TX6, 10, rfl, Nat.le_of_ble_eq_true rfl, rfl, Or.inl (g9_ (i := 154) rfl rfl)⟩
theorem kk_6_303 : linkS 6 303 M_X_commonDivisor := ⟨ok_X_commonDivisor, Or.inl (hc_ (i := 118) rfl rfl), (hc_ (i := 119) rfl rfl)⟩
theorem kf_7_25 : linkF 7 25 7 11 := ⟨RX7, TX7, 33, rfl, Nat.le_of_ble_eq_true rfl, rfl, Or.inl (hg_ (i := 11) rfl rfl)⟩
theorem kf_7_65 : linkF 7 65 7 3 := ⟨RX7, TX7, 33, rfl, Nat.le_of_ble_eq_true rfl, rfl, Or.inl (hg_ (i := 3) rfl rfl)⟩
theorem kk_7_68 : linkS 7 68 M_M_in := ⟨ok_M_in, Or.inl (hg_ (i := 133) rfl rfl), (hg_ (i := 134) rfl rfl)⟩
theorem kf_7_16 : linkF 7 16 7 5 := ⟨RX7, TX7, 33, rfl, Nat.le_of_ble_eq_true rfl, rfl, Or.inl (hg_ (i := 5) rfl rfl)⟩
theorem kf_7_13 : linkF 7 13 7 4 := ⟨RX7, TX7, 33, rfl, Nat.le_of_ble_eq_true rfl, rfl, Or.inl (hg_ (i := 4) rfl rfl)⟩
theorem kf_7_22 : linkF 7 22 7 7 := ⟨RX7, TX7, 33, rfl, Nat.le_of_ble_eq_true rfl, rfl, Or.inl (hg_ (i := 7) rfl rfl)⟩
theorem kk_7_72 : linkS 7 72 M_M_hasBit := ⟨ok_M_hasBit, Or.inl (hg_ (i := 185) rfl rfl), (hg_ (i := 186) rfl rfl)⟩
theorem kk_7_76 : linkV 7 76 M_M_isFeuding := ⟨ok_M_isFeuding, (hg_ (i := 204) rfl rfl), (hg_ (i := 206) rfl rfl), (inP (i := 23) rfl rfl)⟩
theorem kk_7_80 : linkV 7 80 M_M_feudingIn := ⟨ok_M_feudingIn, (hg_ (i := 200) rfl rfl), (hg_ (i := 202) rfl rfl), (inP (i := 22) rfl rfl)⟩
theorem kf_7_62 : linkF 7 62 7 2 := ⟨RX7, TX7, 33, rfl, Nat.le_of_ble_eq_true rfl, rfl, Or.inl (hg_ (i := 2) rfl rfl)⟩
theorem kf_7_84 : linkF 7 84 7 8 := ⟨RX7, TX7, 33, rfl, Nat.le_of_ble_eq_true rfl, rfl, Or.inl (hg_ (i := 8) rfl rfl)⟩
theorem kf_7_87 : linkF 7 87 7 1 := ⟨RX7, TX7, 33, rfl, Nat.le_of_ble_eq_true rfl, rfl, Or.inl (hg_ (i := 1) rfl rfl)⟩
theorem kf_7_7 : linkF 7 7 7 0 := ⟨RX7, TX7, 33, rfl, Nat.le_of_ble_eq_true rfl, rfl, Or.inl (hg_ (i := 0) rfl rfl)⟩
theorem kf_7_19 : linkF 7 19 7 6 := ⟨RX7, TX7, 33, rfl, Nat.le_of_ble_eq_true rfl, rfl, Or.inl (hg_ (i := 6) rfl rfl)⟩
theorem kk_7_90 : linkV 7 90 M_M_bearsOf := ⟨ok_M_bearsOf, (hg_ (i := 188) rfl rfl), (hg_ (i := 190) rfl rfl), (inP (i := 19) rfl rfl)⟩
theorem kk_7_93 : linkV 7 93 M_M_strongestBut := ⟨ok_M_strongestBut, (hg_ (i := 181) rfl rfl), (hg_ (i := 183) rfl rfl), (inP (i := 18) rfl rfl)⟩
theorem kk_7_96 : linkV 7 96 M_M_neededHere := ⟨ok_M_neededHere, (hg_ (i := 192) rfl rfl), (hg_ (i := 194) rfl rfl), (inP (i := 20) rfl rfl)⟩
theorem kf_7_100 : linkF 7 100 7 9 := ⟨RX7, TX7, 33, rfl, Nat.le_of_ble_eq_true rfl, rfl, Or.inl (hg_ (i := 9) rfl rfl)⟩
theorem kp_7_9 : linkP 7 9 0 := ⟨RX7, TX7, 33, rfl, rfl, by decide +kernel⟩
theorem kk_7_103 : linkV 7 103 M_M_bearersNow := ⟨ok_M_bearersNow, (hg_ (i := 177) rfl rfl), (hg_ (i := 179) rfl rfl), (inP (i := 17) rfl rfl)⟩
theorem kk_7_106 : linkV 7 106 M_M_wearsOf := ⟨ok_M_wearsOf, (hg_ (i := 196) rfl rfl), (hg_ (i := 198) rfl rfl), (inP (i := 21) rfl rfl)⟩
theorem kk_7_110 : linkS 7 110 M_M_held := ⟨ok_M_held, Or.inl (hg_ (i := 208) rfl rfl), (hg_ (i := 209) rfl rfl)⟩
theorem kk_7_114 : linkV 7 114 M_M_lastsOf := ⟨ok_M_lastsOf, (hg_ (i := 211) rfl rfl), (hg_ (i := 213) rfl rfl), (inP (i := 24) rfl rfl)⟩
theorem kp_7_1 : linkP 7 1 0 := ⟨RX7, TX7, 33, rfl, rfl, by decide +kernel⟩
theorem kp_7_8 : linkP 7 8 0 := ⟨RX7, TX7, 33, rfl, rfl, by decide +kernel⟩
theorem kk_7_117 : linkV 7 117 M_M_dayOn := ⟨ok_M_dayOn, (hg_ (i := 173) rfl rfl), (hg_ (i := 175) rfl rfl), (inP (i := 16) rfl rfl)⟩
theorem kp_7_3 : linkP 7 3 0 := ⟨RX7, TX7, 33, rfl, rfl, by decide +kernel⟩
theorem kf_7_58 : linkF 7 58 7 10 := ⟨RX7, TX7, 33, rfl, Nat.le_of_ble_eq_true rfl, rfl, Or.inl (hg_ (i := 10) rfl rfl)⟩
theorem kp_7_10 : linkP 7 10 0 := ⟨RX7, TX7, 33, rfl, rfl, by decide +kernel⟩
theorem kk_7_120 : linkV 7 120 M_M_refuse := ⟨ok_M_refuse, (hg_ (i := 104) rfl rfl), (hg_ (i := 106) rfl rfl), (inP (i := 2) rfl rfl)⟩
theorem kf_7_123 : linkF 7 123 7 13 := ⟨RX7, TX7, 33, rfl, Nat.le_of_ble_eq_true rfl, rfl, Or.inl (hg_ (i := 13) rfl rfl)⟩
theorem kf_7_28 : linkF 7 28 7 12 := ⟨RX7, TX7, 33, rfl, Nat.le_of_ble_eq_true rfl, rfl, Or.inl (hg_ (i := 12) rfl rfl)⟩
theorem kp_7_13 : linkP 7 13 0 := ⟨RX7, TX7, 33, rfl, rfl, by decide +kernel⟩
theorem kf_7_126 : linkF 7 126 7 14 := ⟨RX7, TX7, 33, rfl, Nat.le_of_ble_eq_true rfl, rfl, Or.inl (hg_ (i := 14) rfl rfl)⟩
theorem kf_7_129 : linkF 7 129 7 15 := ⟨RX7, TX7, 33, rfl, Nat.le_of_ble_eq_true rfl, rfl, Or.inl (hg_ (i := 15) rfl rfl)⟩
theorem kk_7_133 : linkV 7 133 M_M_here := ⟨ok_M_here, (hg_ (i := 116) rfl rfl), (hg_ (i := 118) rfl rfl), (inP (i := 4) rfl rfl)⟩
theorem kj_7_136 : linkJ 7 136 48 := (hg_ (i := 131) rfl rfl)
theorem kj_7_138 : linkJ 7 138 57 := (hg_ (i := 132) rfl rfl)
theorem kp_7_15 : linkP 7 15 1 := ⟨RX7, TX7, 33, rfl, rfl, by decide +kernel⟩
theorem kp_7_14 : linkP 7 14 0 := ⟨RX7, TX7, 33, rfl, rfl, by decide +kernel⟩
theorem kf_7_37 : linkF 7 37 7 19 := ⟨RX7, TX7, 33, rfl, Nat.le_of_ble_eq_true rfl, rfl, Or.inl (hg_ (i := 19) rfl rfl)⟩
theorem kk_7_140 : linkV 7 140 M_M_readDigits := ⟨ok_M_readDigits, (hg_ (i := 127) rfl rfl), (hg_ (i := 129) rfl rfl), (inP (i := 6) rfl rfl)⟩
theorem kf_7_143 : linkF 7 143 7 16 := ⟨RX7, TX7, 33, rfl, Nat.le_of_ble_eq_true rfl, rfl, Or.inl (hg_ (i := 16) rfl rfl)⟩
theorem kf_7_31 : linkF 7 31 7 17 := ⟨RX7, TX7, 33, rfl, Nat.le_of_ble_eq_true rfl, rfl, Or.inl (hg_ (i := 17) rfl rfl)⟩
theorem kf_7_34 : linkF 7 34 7 18 := ⟨RX7, TX7, 33, rfl, Nat.le_of_ble_eq_true rfl, rfl, Or.inl (hg_ (i := 18) rfl rfl)⟩
theorem kk_7_146 : linkS 7 146 M_M_isLetter := ⟨ok_M_isLetter, Or.inl (hg_ (i := 120) rfl rfl), (hg_ (i := 121) rfl rfl)⟩
theorem kk_7_149 : linkV 7 149 M_M_readNumbers := ⟨ok_M_readNumbers, (hg_ (i := 123) rfl rfl), (hg_ (i := 125) rfl rfl), (inP (i := 5) rfl rfl)⟩
theorem kp_7_16 : linkP 7 16 0 := ⟨RX7, TX7, 33, rfl, rfl, by decide +kernel⟩
theorem kk_7_153 : linkV 7 153 M_M_isMan := ⟨ok_M_isMan, (hg_ (i := 160) rfl rfl), (hg_ (i := 162) rfl rfl), (inP (i := 13) rfl rfl)⟩
theorem kj_7_156 : linkJ 7 156 60 := (hg_ (i := 164) rfl rfl)
theorem kk_7_158 : linkV 7 158 M_M_goDays := ⟨ok_M_goDays, (hg_ (i := 169) rfl rfl), (hg_ (i := 171) rfl rfl), (inP (i := 15) rfl rfl)⟩
theorem kk_7_162 : linkV 7 162 M_M_manComes := ⟨ok_M_manComes, (hg_ (i := 152) rfl rfl), (hg_ (i := 154) rfl rfl), (inP (i := 11) rfl rfl)⟩
theorem kk_7_165 : linkV 7 165 M_M_pardonTold := ⟨ok_M_pardonTold, (hg_ (i := 156) rfl rfl), (hg_ (i := 158) rfl rfl), (inP (i := 12) rfl rfl)⟩
theorem kp_7_2 : linkP 7 2 0 := ⟨RX7, TX7, 33, rfl, rfl, by decide +kernel⟩
theorem kk_7_168 : linkV 7 168 M_M_daysTold := ⟨ok_M_daysTold, (hg_ (i := 165) rfl rfl), (hg_ (i := 167) rfl rfl), (inP (i := 14) rfl rfl)⟩
theorem kk_7_171 : linkV 7 171 M_M_readStatement := ⟨ok_M_readStatement, (hg_ (i := 112) rfl rfl), (hg_ (i := 114) rfl rfl), (inP (i := 3) rfl rfl)⟩
theorem kk_7_174 : linkV 7 174 M_M_think := ⟨ok_M_think, (hg_ (i := 136) rfl rfl), (hg_ (i := 138) rfl rfl), (inP (i := 7) rfl rfl)⟩
theorem kk_7_177 : linkV 7 177 M_M_comesTold := ⟨ok_M_comesTold, (hg_ (i := 148) rfl rfl), (hg_ (i := 150) rfl rfl), (inP (i := 10) rfl rfl)⟩
theorem kk_7_180 : linkV 7 180 M_M_again := ⟨ok_M_again, (hg_ (i := 215) rfl rfl), (hg_ (i := 217) rfl rfl), (inP (i := 25) rfl rfl)⟩
theorem kf_7_183 : linkF 7 183 7 28 := ⟨RX7, TX7, 33, rfl, Nat.le_of_ble_eq_true rfl, rfl, Or.inl (hg_ (i := 28) rfl rfl)⟩
theorem kp_7_28 : linkP 7 28 0 := ⟨RX7, TX7, 33, rfl, rfl, by decide +kernel⟩
theorem kf_7_186 : linkF 7 186 7 24 := ⟨RX7, TX7, 33, rfl, Nat.le_of_ble_eq_true rfl, rfl, Or.inl (hg_ (i := 24) rfl rfl)⟩
theorem kf_7_189 : linkF 7 189 7 25 := ⟨RX7, TX7, 33, rfl, Nat.le_of_ble_eq_true rfl, rfl, Or.inl (hg_ (i := 25) rfl rfl)⟩
theorem kf_7_192 : linkF 7 192 7 23 := ⟨RX7, TX7, 33, rfl, Nat.le_of_ble_eq_true rfl, rfl, Or.inl (hg_ (i := 23) rfl rfl)⟩
theorem kp_7_23 : linkP 7 23 0 := ⟨RX7, TX7, 33, rfl, rfl, by decide +kernel⟩
theorem kp_7_25 : linkP 7 25 2 := ⟨RX7, TX7, 33, rfl, rfl, by decide +kernel⟩
theorem kp_7_24 : linkP 7 24 1 := ⟨RX7, TX7, 33, rfl, rfl, by decide +kernel⟩
theorem kk_7_195 : linkV 7 195 M_M_carry := ⟨ok_M_carry, (hg_ (i := 144) rfl rfl), (hg_ (i := 146) rfl rfl), (inP (i := 9) rfl rfl)⟩
theorem kf_7_40 : linkF 7 40 7 20 := ⟨RX7, TX7, 33, rfl, Nat.le_of_ble_eq_true rfl, rfl, Or.inl (hg_ (i := 20) rfl rfl)⟩
theorem kk_7_198 : linkV 7 198 M_M_carryAll := ⟨ok_M_carryAll, (hg_ (i := 140) rfl rfl), (hg_ (i := 142) rfl rfl), (inP (i := 8) rfl rfl)⟩
theorem kf_7_202 : linkF 7 202 7 22 := ⟨RX7, TX7, 33, rfl, Nat.le_of_ble_eq_true rfl, rfl, Or.inl (hg_ (i := 22) rfl rfl)⟩
theorem kp_7_22 : linkP 7 22 1 := ⟨RX7, TX7, 33, rfl, rfl, by decide +kernel⟩
theorem kf_7_43 : linkF 7 43 7 21 := ⟨RX7, TX7, 33, rfl, Nat.le_of_ble_eq_true rfl, rfl, Or.inl (hg_ (i := 21) rfl rfl)⟩
theorem kf_7_46 : linkF 7 46 7 26 := ⟨RX7, TX7, 33, rfl, Nat.le_of_ble_eq_true rfl, rfl, Or.inl (hg_ (i := 26) rfl rfl)⟩
theorem kf_7_49 : linkF 7 49 7 27 := ⟨RX7, TX7, 33, rfl, Nat.le_of_ble_eq_true rfl, rfl, Or.inl (hg_ (i := 27) rfl rfl)⟩
theorem kj_7_205 : linkJ 7 205 5 := (hg_ (i := 235) rfl rfl)
theorem kj_7_207 : linkJ 7 207 11 := (hf_ (i := 0) rfl rfl)
theorem kk_7_209 : linkS 7 209 M_M_wrongNumber := ⟨ok_M_wrongNumber, Or.inl (hf_ (i := 5) rfl rfl), (hf_ (i := 6) rfl rfl)⟩
theorem kk_7_212 : linkV 7 212 M_M_keepTurn := ⟨ok_M_keepTurn, (hf_ (i := 12) rfl rfl), (hf_ (i := 14) rfl rfl), (inP (i := 26) rfl rfl)⟩
theorem kk_7_215 : linkS 7 215 M_M_wrongBit := ⟨ok_M_wrongBit, Or.inl (hf_ (i := 36) rfl rfl), (hf_ (i := 37) rfl rfl)⟩
theorem kk_7_218 : linkV 7 218 M_M_waitsIn := ⟨ok_M_waitsIn, (hf_ (i := 39) rfl rfl), (hf_ (i := 41) rfl rfl), (inP (i := 27) rfl rfl)⟩
theorem kk_7_221 : linkV 7 221 M_M_bitsOf := ⟨ok_M_bitsOf, (hf_ (i := 43) rfl rfl), (hf_ (i := 45) rfl rfl), (inP (i := 28) rfl rfl)⟩
theorem kk_7_224 : linkV 7 224 M_M_homeIn := ⟨ok_M_homeIn, (hf_ (i := 55) rfl rfl), (hf_ (i := 57) rfl rfl), (inP (i := 29) rfl rfl)⟩
theorem kj_7_227 : linkJ 7 227 (-1) := (hf_ (i := 63) rfl rfl)
theorem kk_7_229 : linkV 7 229 M_M_diesIn := ⟨ok_M_diesIn, (hf_ (i := 64) rfl rfl), (hf_ (i := 66) rfl rfl), (inP (i := 30) rfl rfl)⟩
theorem kk_7_232 : linkV 7 232 M_M_kingThen := ⟨ok_M_kingThen, (hf_ (i := 72) rfl rfl), (hf_ (i := 74) rfl rfl), (inP (i := 31) rfl rfl)⟩
theorem kk_7_235 : linkS 7 235 M_M_onesOf := ⟨ok_M_onesOf, Or.inl (hf_ (i := 80) rfl rfl), (hf_ (i := 81) rfl rfl)⟩
theorem kk_7_238 : linkV 7 238 M_M_bearIn := ⟨ok_M_bearIn, (hf_ (i := 107) rfl rfl), (hf_ (i := 109) rfl rfl), (inP (i := 34) rfl rfl)⟩
theorem kk_7_241 : linkV 7 241 M_M_pairsNow := ⟨ok_M_pairsNow, (hf_ (i := 99) rfl rfl), (hf_ (i := 101) rfl rfl), (inP (i := 32) rfl rfl)⟩
theorem kk_7_244 : linkV 7 244 M_M_leastPoles := ⟨ok_M_leastPoles, (hf_ (i := 103) rfl rfl), (hf_ (i := 105) rfl rfl), (inP (i := 33) rfl rfl)⟩
theorem kk_7_247 : linkV 7 247 M_M_owing := ⟨ok_M_owing, (hf_ (i := 111) rfl rfl), (hf_ (i := 113) rfl rfl), (inP (i := 35) rfl rfl)⟩
theorem kk_7_250 : linkV 7 250 M_M_allBear := ⟨ok_M_allBear, (hf_ (i := 115) rfl rfl), (hf_ (i := 117) rfl rfl), (inP (i := 36) rfl rfl)⟩
theorem kc_7_253 : linkC 7 253 1000000000 := (hf_ (i := 119) rfl rfl)
theorem kf_7_254 : linkF 7 254 7 30 := ⟨RX7, TX7, 33, rfl, Nat.le_of_ble_eq_true rfl, rfl, Or.inl (hg_ (i := 30) rfl rfl)⟩
theorem kf_7_52 : linkF 7 52 7 29 := ⟨RX7, TX7, 33, rfl, Nat.le_of_ble_eq_true rfl, rfl, Or.inl (hg_ (i := 29) rfl rfl)⟩
theorem kk_7_257 : linkV 7 257 M_M_isRow := ⟨ok_M_isRow, (hf_ (i := 124) rfl rfl), (hf_ (i := 126) rfl rfl), (inP (i := 37) rfl rfl)⟩
theorem kf_7_55 : linkF 7 55 7 31 := ⟨RX7, TX7, 33, rfl, Nat.le_of_ble_eq_true rfl, rfl, Or.inl (hg_ (i := 31) rfl rfl)⟩
theorem kk_7_260 : linkS 7 260 M_M_divisor := ⟨ok_M_divisor, Or.inl (hf_ (i := 144) rfl rfl), (hf_ (i := 145) rfl rfl)⟩
theorem kj_7_264 : linkJ 7 264 4000000000000000000 := (hf_ (i := 140) rfl rfl)
theorem kk_7_266 : linkS 7 266 M_M_partOf := ⟨ok_M_partOf, Or.inl (hf_ (i := 141) rfl rfl), (hf_ (i := 142) rfl rfl)⟩
theorem kk_7_270 : linkV 7 270 M_M_steepestStage := ⟨ok_M_steepestStage, (hf_ (i := 155) rfl rfl), (hf_ (i := 157) rfl rfl), (inP (i := 38) rfl rfl)⟩
theorem kk_7_273 : linkV 7 273 M_M_slopesLeft := ⟨ok_M_slopesLeft, (hf_ (i := 163) rfl rfl), (hf_ (i := 165) rfl rfl), (inP (i := 39) rfl rfl)⟩
theorem kk_7_276 : linkV 7 276 M_M_stuckAt := ⟨ok_M_stuckAt, (hf_ (i := 175) rfl rfl), (hf_ (i := 177) rfl rfl), (inP (i := 40) rfl rfl)⟩
theorem kk_7_279 : linkV 7 279 M_M_lameDays := ⟨ok_M_lameDays, (hf_ (i := 179) rfl rfl), (hf_ (i := 181) rfl rfl), (inP (i := 41) rfl rfl)⟩
theorem kp_7_30 : linkP 7 30 0 := ⟨RX7, TX7, 33, rfl, rfl, by decide +kernel⟩
theorem kf_7_282 : linkF 7 282 7 32 := ⟨RX7, TX7, 33, rfl, Nat.le_of_ble_eq_true rfl, rfl, Or.inl (hg_ (i := 32) rfl rfl)⟩
theorem kc_7_285 : linkC 7 285 1103515245 := (hf_ (i := 211) rfl rfl)
theorem kp_7_32 : linkP 7 32 0 := ⟨RX7, TX7, 33, rfl, rfl, by decide +kernel⟩
theorem kc_7_286 : linkC 7 286 2147483647 := (hf_ (i := 212) rfl rfl)
theorem kc_7_287 : linkC 7 287 65536 := (hf_ (i := 213) rfl rfl)
theorem kk_7_288 : linkV 7 288 M_M_drawBelow := ⟨ok_M_drawBelow, (hf_ (i := 207) rfl rfl), (hf_ (i := 209) rfl rfl), (inP (i := 42) rfl rfl)⟩
theorem kj_7_291 : linkJ 7 291 16 := (hf_ (i := 218) rfl rfl)
theorem kf_0_12 : linkF 0 12 0 0 := ⟨RX0, TX0, 2, rfl, Nat.le_of_ble_eq_true rfl, rfl, Or.inl (g9_ (i := 139) rfl rfl)⟩
theorem kk_0_22 : linkV 0 22 M_Re_become := ⟨ok_Re_become, (hc_ (i := 104) rfl rfl), (g9_ (i := 219) rfl rfl), (g9_ (i := 220) rfl rfl)⟩
theorem kk_0_26 : linkV 0 26 M_Re_snowMore := ⟨ok_Re_snowMore, (hc_ (i := 105) rfl rfl), (hc_ (i := 106) rfl rfl), (hc_ (i := 107) rfl rfl)⟩
theorem kk_0_30 : linkV 0 30 M_Re_waitsOneDay := ⟨ok_Re_waitsOneDay, (hc_ (i := 109) rfl rfl), (ha_ (i := 29) rfl rfl), (ha_ (i := 30) rfl rfl)⟩
theorem kf_0_34 : linkF 0 34 4 6 := ⟨RX4, TX4, 10, rfl, Nat.le_of_ble_eq_true rfl, rfl, Or.inr (inN0 (i := 34) rfl rfl)⟩
theorem kk_0_37 : linkS 0 37 M_In_bitCount := ⟨ok_In_bitCount, Or.inl (hc_ (i := 110) rfl rfl), (ha_ (i := 221) rfl rfl)⟩
theorem kk_0_43 : linkS 0 43 M_X_power := ⟨ok_X_power, Or.inr (inN2 (i := 111) rfl rfl), (hc_ (i := 112) rfl rfl)⟩
theorem kf_0_18 : linkF 0 18 0 1 := ⟨RX0, TX0, 2, rfl, Nat.le_of_ble_eq_true rfl, rfl, Or.inl (g9_ (i := 140) rfl rfl)⟩
theorem kp_0_1 : linkP 0 1 0 := ⟨RX0, TX0, 2, rfl, rfl, by decide +kernel⟩
theorem kk_0_47 : linkV 0 47 M_Ch_drawDigit := ⟨ok_Ch_drawDigit, (hc_ (i := 212) rfl rfl), (hc_ (i := 213) rfl rfl), (hc_ (i := 214) rfl rfl)⟩
theorem kk_0_51 : linkV 0 51 M_Re_levels := ⟨ok_Re_levels, (hc_ (i := 219) rfl rfl), (ha_ (i := 15) rfl rfl), (ha_ (i := 16) rfl rfl)⟩
theorem kk_0_55 : linkV 0 55 M_Re_passDays := ⟨ok_Re_passDays, (hc_ (i := 220) rfl rfl), (ha_ (i := 25) rfl rfl), (ha_ (i := 26) rfl rfl)⟩
theorem kk_0_58 : linkV 0 58 M_Re_menWhoAre := ⟨ok_Re_menWhoAre, (hc_ (i := 221) rfl rfl), (ha_ (i := 165) rfl rfl), (ha_ (i := 166) rfl rfl)⟩
theorem kc_0_61 : linkC 0 61 1103515245 := (hc_ (i := 216) rfl rfl)
theorem kc_0_62 : linkC 0 62 2147483647 := (hc_ (i := 217) rfl rfl)
theorem kc_0_63 : linkC 0 63 65536 := (hc_ (i := 218) rfl rfl)
theorem kf_1_12 : linkF 1 12 1 0 := ⟨RX1, TX1, 3, rfl, Nat.le_of_ble_eq_true rfl, rfl, Or.inl (g9_ (i := 121) rfl rfl)⟩
theorem kk_1_25 : linkV 1 25 M_Re_become := ⟨ok_Re_become, (ha_ (i := 180) rfl rfl), (g9_ (i := 219) rfl rfl), (g9_ (i := 220) rfl rfl)⟩
theorem kk_1_29 : linkV 1 29 M_Re_isHome := ⟨ok_Re_isHome, (ha_ (i := 181) rfl rfl), (ha_ (i := 33) rfl rfl), (ha_ (i := 34) rfl rfl)⟩
theorem kk_1_33 : linkV 1 33 M_Re_waitsOneDay := ⟨ok_Re_waitsOneDay, (ha_ (i := 182) rfl rfl), (ha_ (i := 29) rfl rfl), (ha_ (i := 30) rfl rfl)⟩
theorem kk_1_36 : linkV 1 36 M_Re_fateOf := ⟨ok_Re_fateOf, (ha_ (i := 193) rfl rfl), (ha_ (i := 103) rfl rfl), (ha_ (i := 104) rfl rfl)⟩
theorem kk_1_40 : linkV 1 40 M_Re_passDays := ⟨ok_Re_passDays, (ha_ (i := 206) rfl rfl), (ha_ (i := 25) rfl rfl), (ha_ (i := 26) rfl rfl)⟩
theorem kf_1_43 : linkF 1 43 4 6 := ⟨RX4, TX4, 10, rfl, Nat.le_of_ble_eq_true rfl, rfl, Or.inr (inN0 (i := 36) rfl rfl)⟩
theorem kk_1_47 : linkV 1 47 M_Re_makeFate := ⟨ok_Re_makeFate, (ha_ (i := 207) rfl rfl), (ha_ (i := 208) rfl rfl), (ha_ (i := 209) rfl rfl)⟩
theorem kk_1_51 : linkV 1 51 M_Re_menWhoAre := ⟨ok_Re_menWhoAre, (ha_ (i := 219) rfl rfl), (ha_ (i := 165) rfl rfl), (ha_ (i := 166) rfl rfl)⟩
theorem kk_1_54 : linkS 1 54 M_In_bitCount := ⟨ok_In_bitCount, Or.inl (ha_ (i := 220) rfl rfl), (ha_ (i := 221) rfl rfl)⟩
theorem kk_1_59 : linkV 1 59 M_Co_pardonInMind := ⟨ok_Co_pardonInMind, (ha_ (i := 226) rfl rfl), (ha_ (i := 227) rfl rfl), (ha_ (i := 228) rfl rfl)⟩
theorem kf_1_63 : linkF 1 63 4 7 := ⟨RX4, TX4, 10, rfl, Nat.le_of_ble_eq_true rfl, rfl, Or.inr (inN0 (i := 39) rfl rfl)⟩
theorem kk_1_66 : linkV 1 66 M_Re_levels := ⟨ok_Re_levels, (hc_ (i := 6) rfl rfl), (ha_ (i := 15) rfl rfl), (ha_ (i := 16) rfl rfl)⟩
theorem kk_1_70 : linkV 1 70 M_Re_strengthOf := ⟨ok_Re_strengthOf, (hc_ (i := 34) rfl rfl), (hc_ (i := 35) rfl rfl), (hc_ (i := 36) rfl rfl)⟩
theorem kk_1_73 : linkV 1 73 M_Re_needed := ⟨ok_Re_needed, (hc_ (i := 38) rfl rfl), (ha_ (i := 41) rfl rfl), (ha_ (i := 42) rfl rfl)⟩
theorem kk_1_77 : linkV 1 77 M_Co_kingGoesAs := ⟨ok_Co_kingGoesAs, (hc_ (i := 54) rfl rfl), (hc_ (i := 55) rfl rfl), (hc_ (i := 56) rfl rfl)⟩
theorem kf_1_81 : linkF 1 81 5 1 := ⟨RX5, TX5, 2, rfl, Nat.le_of_ble_eq_true rfl, rfl, Or.inr (inN0 (i := 106) rfl rfl)⟩
theorem kk_1_86 : linkV 1 86 M_Ro_at := ⟨ok_Ro_at, (hc_ (i := 58) rfl rfl), (hc_ (i := 59) rfl rfl), (hc_ (i := 60) rfl rfl)⟩
theorem kk_1_89 : linkV 1 89 M_Re_makeKind := ⟨ok_Re_makeKind, (hc_ (i := 70) rfl rfl), (hc_ (i := 71) rfl rfl), (hc_ (i := 72) rfl rfl)⟩
theorem kk_1_92 : linkV 1 92 M_Co_isWornAs := ⟨ok_Co_isWornAs, (hc_ (i := 74) rfl rfl), (hc_ (i := 75) rfl rfl), (hc_ (i := 76) rfl rfl)⟩
theorem kk_1_96 : linkV 1 96 M_Re_makeFigure := ⟨ok_Re_makeFigure, (hc_ (i := 83) rfl rfl), (hc_ (i := 84) rfl rfl), (hc_ (i := 85) rfl rfl)⟩
theorem kk_1_99 : linkV 1 99 M_Re_wornOf := ⟨ok_Re_wornOf, (hc_ (i := 78) rfl rfl), (ha_ (i := 107) rfl rfl), (ha_ (i := 108) rfl rfl)⟩
theorem kf_1_18 : linkF 1 18 1 1 := ⟨RX1, TX1, 3, rfl, Nat.le_of_ble_eq_true rfl, rfl, Or.inl (g9_ (i := 122) rfl rfl)⟩
theorem kf_1_22 : linkF 1 22 1 2 := ⟨RX1, TX1, 3, rfl, Nat.le_of_ble_eq_true rfl, rfl, Or.inl (g9_ (i := 123) rfl rfl)⟩
theorem kn_1_102 : linkN 1 102 1 := ⟨(hc_ (i := 162) rfl rfl), (g9_ (i := 212) rfl rfl), (g9_ (i := 9) rfl rfl), (g9_ (i := 213) rfl rfl)⟩
theorem kf_1_108 : linkF 1 108 4 8 := ⟨RX4, TX4, 10, rfl, Nat.le_of_ble_eq_true rfl, rfl, Or.inr (inN0 (i := 42) rfl rfl)⟩
theorem kf_2_15 : linkF 2 15 2 1 := ⟨RX2, TX2, 2, rfl, Nat.le_of_ble_eq_true rfl, rfl, Or.inl (g9_ (i := 91) rfl rfl)⟩
theorem kf_2_9 : linkF 2 9 2 0 := ⟨RX2, TX2, 2, rfl, Nat.le_of_ble_eq_true rfl, rfl, Or.inl (g9_ (i := 90) rfl rfl)⟩
theorem kp_2_1 : linkP 2 1 0 := ⟨RX2, TX2, 2, rfl, rfl, by decide +kernel⟩
theorem kk_2_19 : linkV 2 19 M_Le_at := ⟨ok_Le_at, (g9_ (i := 201) rfl rfl), (g9_ (i := 202) rfl rfl), (g9_ (i := 203) rfl rfl)⟩
theorem kk_2_23 : linkV 2 23 M_Le_isDigit := ⟨ok_Le_isDigit, (g9_ (i := 214) rfl rfl), (g9_ (i := 215) rfl rfl), (g9_ (i := 216) rfl rfl)⟩
theorem kk_2_27 : linkV 2 27 M_Le_digit := ⟨ok_Le_digit, (g9_ (i := 237) rfl rfl), (g9_ (i := 230) rfl rfl), (g9_ (i := 231) rfl rfl)⟩
theorem kk_2_30 : linkS 2 30 M_Le_digitsBehind := ⟨ok_Le_digitsBehind, Or.inl (g9_ (i := 205) rfl rfl), (g9_ (i := 206) rfl rfl)⟩
theorem kn_2_33 : linkN 2 33 1 := ⟨(g9_ (i := 211) rfl rfl), (g9_ (i := 212) rfl rfl), (g9_ (i := 9) rfl rfl), (g9_ (i := 213) rfl rfl)⟩
theorem kk_2_39 : linkS 2 39 M_Le_lengthOf := ⟨ok_Le_lengthOf, Or.inl (g9_ (i := 208) rfl rfl), (g9_ (i := 209) rfl rfl)⟩
theorem kf_3_17 : linkF 3 17 3 1 := ⟨RX3, TX3, 2, rfl, Nat.le_of_ble_eq_true rfl, rfl, Or.inl (g9_ (i := 77) rfl rfl)⟩
theorem kk_3_22 : linkV 3 22 M_Pa_dropOldest := ⟨ok_Pa_dropOldest, (ha_ (i := 131) rfl rfl), (ha_ (i := 132) rfl rfl), (ha_ (i := 133) rfl rfl)⟩
theorem kf_3_11 : linkF 3 11 3 0 := ⟨RX3, TX3, 2, rfl, Nat.le_of_ble_eq_true rfl, rfl, Or.inl (g9_ (i := 76) rfl rfl)⟩
theorem kk_3_25 : linkV 3 25 M_Re_become := ⟨ok_Re_become, (ha_ (i := 135) rfl rfl), (g9_ (i := 219) rfl rfl), (g9_ (i := 220) rfl rfl)⟩
theorem kp_3_1 : linkP 3 1 0 := ⟨RX3, TX3, 2, rfl, rfl, by decide +kernel⟩
theorem kf_4_9 : linkF 4 9 4 0 := ⟨RX4, TX4, 10, rfl, Nat.le_of_ble_eq_true rfl, rfl, Or.inl (g9_ (i := 26) rfl rfl)⟩
theorem kn_4_43 : linkN 4 43 3 := ⟨(g9_ (i := 222) rfl rfl), (g9_ (i := 223) rfl rfl), (g9_ (i := 10) rfl rfl), (g9_ (i := 224) rfl rfl)⟩
theorem kf_4_15 : linkF 4 15 4 1 := ⟨RX4, TX4, 10, rfl, Nat.le_of_ble_eq_true rfl, rfl, Or.inl (g9_ (i := 27) rfl rfl)⟩
theorem kf_4_18 : linkF 4 18 4 2 := ⟨RX4, TX4, 10, rfl, Nat.le_of_ble_eq_true rfl, rfl, Or.inl (g9_ (i := 28) rfl rfl)⟩
theorem kf_4_21 : linkF 4 21 4 3 := ⟨RX4, TX4, 10, rfl, Nat.le_of_ble_eq_true rfl, rfl, Or.inl (g9_ (i := 29) rfl rfl)⟩
theorem kf_4_24 : linkF 4 24 4 4 := ⟨RX4, TX4, 10, rfl, Nat.le_of_ble_eq_true rfl, rfl, Or.inl (g9_ (i := 30) rfl rfl)⟩
theorem kf_4_27 : linkF 4 27 4 5 := ⟨RX4, TX4, 10, rfl, Nat.le_of_ble_eq_true rfl, rfl, Or.inl (g9_ (i := 31) rfl rfl)⟩
theorem kp_4_5 : linkP 4 5 0 := ⟨RX4, TX4, 10, rfl, rfl, by decide +kernel⟩
theorem kf_4_31 : linkF 4 31 4 6 := ⟨RX4, TX4, 10, rfl, Nat.le_of_ble_eq_true rfl, rfl, Or.inl (g9_ (i := 33) rfl rfl)⟩
theorem kf_4_34 : linkF 4 34 4 7 := ⟨RX4, TX4, 10, rfl, Nat.le_of_ble_eq_true rfl, rfl, Or.inl (g9_ (i := 37) rfl rfl)⟩
theorem kf_4_37 : linkF 4 37 4 8 := ⟨RX4, TX4, 10, rfl, Nat.le_of_ble_eq_true rfl, rfl, Or.inl (g9_ (i := 40) rfl rfl)⟩
theorem kf_4_40 : linkF 4 40 4 9 := ⟨RX4, TX4, 10, rfl, Nat.le_of_ble_eq_true rfl, rfl, Or.inl (g9_ (i := 43) rfl rfl)⟩
theorem kp_4_9 : linkP 4 9 0 := ⟨RX4, TX4, 10, rfl, rfl, by decide +kernel⟩
theorem kk_4_49 : linkV 4 49 M_Re_has := ⟨ok_Re_has, (ha_ (i := 10) rfl rfl), (ha_ (i := 11) rfl rfl), (ha_ (i := 12) rfl rfl)⟩
theorem kk_4_53 : linkS 4 53 M_X_isKind := ⟨ok_X_isKind, Or.inr (inN1 (i := 3) rfl rfl), (ha_ (i := 4) rfl rfl)⟩
theorem kk_4_56 : linkS 4 56 M_X_isStage := ⟨ok_X_isStage, Or.inr (inN1 (i := 18) rfl rfl), (ha_ (i := 19) rfl rfl)⟩
theorem kk_4_59 : linkV 4 59 M_Re_slopeOf := ⟨ok_Re_slopeOf, (ha_ (i := 44) rfl rfl), (ha_ (i := 45) rfl rfl), (ha_ (i := 46) rfl rfl)⟩
theorem kk_4_63 : linkV 4 63 M_Re_isFeudAmong := ⟨ok_Re_isFeudAmong, (ha_ (i := 64) rfl rfl), (ha_ (i := 65) rfl rfl), (ha_ (i := 66) rfl rfl)⟩
theorem kk_4_66 : linkV 4 66 M_Re_bears := ⟨ok_Re_bears, (ha_ (i := 52) rfl rfl), (ha_ (i := 53) rfl rfl), (ha_ (i := 54) rfl rfl)⟩
theorem kk_4_69 : linkV 4 69 M_Re_needed := ⟨ok_Re_needed, (ha_ (i := 40) rfl rfl), (ha_ (i := 41) rfl rfl), (ha_ (i := 42) rfl rfl)⟩
theorem kk_4_73 : linkV 4 73 M_Re_strongestBut := ⟨ok_Re_strongestBut, (ha_ (i := 48) rfl rfl), (ha_ (i := 49) rfl rfl), (ha_ (i := 50) rfl rfl)⟩
theorem kk_4_76 : linkV 4 76 M_Re_isHome := ⟨ok_Re_isHome, (ha_ (i := 32) rfl rfl), (ha_ (i := 33) rfl rfl), (ha_ (i := 34) rfl rfl)⟩
theorem kk_4_80 : linkV 4 80 M_Re_bearers := ⟨ok_Re_bearers, (ha_ (i := 36) rfl rfl), (ha_ (i := 37) rfl rfl), (ha_ (i := 38) rfl rfl)⟩
theorem kk_4_83 : linkV 4 83 M_Re_wearOut := ⟨ok_Re_wearOut, (ha_ (i := 56) rfl rfl), (ha_ (i := 57) rfl rfl), (ha_ (i := 58) rfl rfl)⟩
theorem kk_4_87 : linkV 4 87 M_Re_buryTheWornOut := ⟨ok_Re_buryTheWornOut, (ha_ (i := 71) rfl rfl), (ha_ (i := 72) rfl rfl), (ha_ (i := 73) rfl rfl)⟩
theorem kn_4_90 : linkN 4 90 1 := ⟨(ha_ (i := 79) rfl rfl), (g9_ (i := 212) rfl rfl), (g9_ (i := 9) rfl rfl), (g9_ (i := 213) rfl rfl)⟩
theorem kk_4_96 : linkV 4 96 M_Re_waitsOneDay := ⟨ok_Re_waitsOneDay, (ha_ (i := 28) rfl rfl), (ha_ (i := 29) rfl rfl), (ha_ (i := 30) rfl rfl)⟩
theorem kk_4_99 : linkV 4 99 M_Re_wears := ⟨ok_Re_wears, (ha_ (i := 60) rfl rfl), (ha_ (i := 61) rfl rfl), (ha_ (i := 62) rfl rfl)⟩
theorem kn_4_102 : linkN 4 102 2 := ⟨(ha_ (i := 68) rfl rfl), (ha_ (i := 69) rfl rfl), (g9_ (i := 9) rfl rfl), (ha_ (i := 70) rfl rfl)⟩
theorem kk_4_105 : linkV 4 105 M_Re_lasts := ⟨ok_Re_lasts, (ha_ (i := 75) rfl rfl), (ha_ (i := 76) rfl rfl), (ha_ (i := 77) rfl rfl)⟩
theorem kk_4_108 : linkV 4 108 M_Re_menWhoAre := ⟨ok_Re_menWhoAre, (hc_ (i := 156) rfl rfl), (ha_ (i := 165) rfl rfl), (ha_ (i := 166) rfl rfl)⟩
theorem kk_4_111 : linkV 4 111 M_Re_strengthOf := ⟨ok_Re_strengthOf, (hc_ (i := 157) rfl rfl), (hc_ (i := 35) rfl rfl), (hc_ (i := 36) rfl rfl)⟩
theorem kk_4_114 : linkV 4 114 M_Re_oneWhoBears := ⟨ok_Re_oneWhoBears, (hc_ (i := 26) rfl rfl), (hc_ (i := 27) rfl rfl), (hc_ (i := 28) rfl rfl)⟩
theorem kf_5_15 : linkF 5 15 5 1 := ⟨RX5, TX5, 2, rfl, Nat.le_of_ble_eq_true rfl, rfl, Or.inl (g9_ (i := 105) rfl rfl)⟩
theorem kf_5_9 : linkF 5 9 5 0 := ⟨RX5, TX5, 2, rfl, Nat.le_of_ble_eq_true rfl, rfl, Or.inl (g9_ (i := 104) rfl rfl)⟩
theorem kp_5_1 : linkP 5 1 0 := ⟨RX5, TX5, 2, rfl, rfl, by decide +kernel⟩
theorem kc_8_265 : linkC 8 265 1431655765 := (ha_ (i := 223) rfl rfl)
theorem kc_8_266 : linkC 8 266 858993459 := (ha_ (i := 224) rfl rfl)
theorem kc_8_267 : linkC 8 267 252645135 := (ha_ (i := 225) rfl rfl)
end
