section
-- ===== PART A: goes FIRST, ahead of the names: the tables' words, and 'selects' of the private methods out of them =====
/-- a private method of a class that the tables say can be made, by its rows of tables_1 -/
def lw_okq (q : MethodName × Nat) : Prop := (q.1.cls ≠ "java/lang/invoke/MethodHandle" ∧ q.1.cls ≠ "java/lang/invoke/VarHandle") ∧ Cond.instantiable q.1.cls q.2 ∈ tables_1 ∧ Cond.privateMethod q.1 ∈ tables_1 ∧ Cond.instanceMethod q.1 ∈ tables_1
theorem lw_p0 : lw_okq (⟨"LandingTree$Reader", "clause", "(Ljava/lang/String;)Z"⟩, 6) := ⟨⟨by decide +kernel, by decide +kernel⟩, List.mem_of_getElem? (i := 251) (by decide +kernel), List.mem_of_getElem? (i := 536) (by decide +kernel), List.mem_of_getElem? (i := 537) (by decide +kernel)⟩
theorem lw_p1 : lw_okq (⟨"LandingTree$Reader", "peek", "()I"⟩, 6) := ⟨⟨by decide +kernel, by decide +kernel⟩, List.mem_of_getElem? (i := 251) (by decide +kernel), List.mem_of_getElem? (i := 540) (by decide +kernel), List.mem_of_getElem? (i := 541) (by decide +kernel)⟩
theorem lw_p2 : lw_okq (⟨"LandingTree$Reader", "fail", "(I)Z"⟩, 6) := ⟨⟨by decide +kernel, by decide +kernel⟩, List.mem_of_getElem? (i := 251) (by decide +kernel), List.mem_of_getElem? (i := 632) (by decide +kernel), List.mem_of_getElem? (i := 633) (by decide +kernel)⟩
theorem lw_p3 : lw_okq (⟨"LandingTree$Reader", "sum", "()Z"⟩, 6) := ⟨⟨by decide +kernel, by decide +kernel⟩, List.mem_of_getElem? (i := 251) (by decide +kernel), List.mem_of_getElem? (i := 640) (by decide +kernel), List.mem_of_getElem? (i := 641) (by decide +kernel)⟩
theorem lw_p4 : lw_okq (⟨"LandingTree$Reader", "term", "()Z"⟩, 6) := ⟨⟨by decide +kernel, by decide +kernel⟩, List.mem_of_getElem? (i := 251) (by decide +kernel), List.mem_of_getElem? (i := 644) (by decide +kernel), List.mem_of_getElem? (i := 645) (by decide +kernel)⟩
theorem lw_p5 : lw_okq (⟨"LandingTree$Reader", "factor", "()Z"⟩, 6) := ⟨⟨by decide +kernel, by decide +kernel⟩, List.mem_of_getElem? (i := 251) (by decide +kernel), List.mem_of_getElem? (i := 648) (by decide +kernel), List.mem_of_getElem? (i := 649) (by decide +kernel)⟩
theorem lw_p6 : lw_okq (⟨"LandingTree$Reader", "bracket", "(C)Z"⟩, 6) := ⟨⟨by decide +kernel, by decide +kernel⟩, List.mem_of_getElem? (i := 251) (by decide +kernel), List.mem_of_getElem? (i := 652) (by decide +kernel), List.mem_of_getElem? (i := 653) (by decide +kernel)⟩
theorem lw_p7 : lw_okq (⟨"LandingTree$Reader", "enter", "()Z"⟩, 6) := ⟨⟨by decide +kernel, by decide +kernel⟩, List.mem_of_getElem? (i := 251) (by decide +kernel), List.mem_of_getElem? (i := 656) (by decide +kernel), List.mem_of_getElem? (i := 657) (by decide +kernel)⟩
theorem lw_p8 : lw_okq (⟨"LandingTree$Reader", "condition", "()Z"⟩, 6) := ⟨⟨by decide +kernel, by decide +kernel⟩, List.mem_of_getElem? (i := 251) (by decide +kernel), List.mem_of_getElem? (i := 660) (by decide +kernel), List.mem_of_getElem? (i := 661) (by decide +kernel)⟩
theorem lw_p9 : lw_okq (⟨"LandingTree$Reader", "conditionPart", "()Z"⟩, 6) := ⟨⟨by decide +kernel, by decide +kernel⟩, List.mem_of_getElem? (i := 251) (by decide +kernel), List.mem_of_getElem? (i := 664) (by decide +kernel), List.mem_of_getElem? (i := 665) (by decide +kernel)⟩
theorem lw_p10 : lw_okq (⟨"LandingTree$Reader", "piece", "()Z"⟩, 6) := ⟨⟨by decide +kernel, by decide +kernel⟩, List.mem_of_getElem? (i := 251) (by decide +kernel), List.mem_of_getElem? (i := 668) (by decide +kernel), List.mem_of_getElem? (i := 669) (by decide +kernel)⟩
theorem lw_p11 : lw_okq (⟨"LandingTree$Reader", "comparison", "()Z"⟩, 6) := ⟨⟨by decide +kernel, by decide +kernel⟩, List.mem_of_getElem? (i := 251) (by decide +kernel), List.mem_of_getElem? (i := 672) (by decide +kernel), List.mem_of_getElem? (i := 673) (by decide +kernel)⟩
theorem lw_p12 : lw_okq (⟨"LandingTree$Reader", "sign", "(C)Z"⟩, 6) := ⟨⟨by decide +kernel, by decide +kernel⟩, List.mem_of_getElem? (i := 251) (by decide +kernel), List.mem_of_getElem? (i := 693) (by decide +kernel), List.mem_of_getElem? (i := 694) (by decide +kernel)⟩
theorem lw_p13 : lw_okq (⟨"LandingTree$Reader", "number", "()Z"⟩, 6) := ⟨⟨by decide +kernel, by decide +kernel⟩, List.mem_of_getElem? (i := 251) (by decide +kernel), List.mem_of_getElem? (i := 700) (by decide +kernel), List.mem_of_getElem? (i := 701) (by decide +kernel)⟩
theorem lw_p14 : lw_okq (⟨"LandingTree$Landing", "oneDay", "(LLandingTree$Book;)V"⟩, 8) := ⟨⟨by decide +kernel, by decide +kernel⟩, List.mem_of_getElem? (i := 32) (by decide +kernel), List.mem_of_getElem? (i := 735) (by decide +kernel), List.mem_of_getElem? (i := 736) (by decide +kernel)⟩
theorem lw_p15 : lw_okq (⟨"LandingTree$Asker", "run", "(LLandingTree$Text;II)I"⟩, 4) := ⟨⟨by decide +kernel, by decide +kernel⟩, List.mem_of_getElem? (i := 232) (by decide +kernel), List.mem_of_getElem? (i := 777) (by decide +kernel), List.mem_of_getElem? (i := 778) (by decide +kernel)⟩
def lw_privs_1 : List (MethodName × Nat) := [(⟨"LandingTree$Reader", "clause", "(Ljava/lang/String;)Z"⟩, 6), (⟨"LandingTree$Reader", "peek", "()I"⟩, 6), (⟨"LandingTree$Reader", "fail", "(I)Z"⟩, 6), (⟨"LandingTree$Reader", "sum", "()Z"⟩, 6), (⟨"LandingTree$Reader", "term", "()Z"⟩, 6), (⟨"LandingTree$Reader", "factor", "()Z"⟩, 6), (⟨"LandingTree$Reader", "bracket", "(C)Z"⟩, 6), (⟨"LandingTree$Reader", "enter", "()Z"⟩, 6), (⟨"LandingTree$Reader", "condition", "()Z"⟩, 6), (⟨"LandingTree$Reader", "conditionPart", "()Z"⟩, 6), (⟨"LandingTree$Reader", "piece", "()Z"⟩, 6), (⟨"LandingTree$Reader", "comparison", "()Z"⟩, 6), (⟨"LandingTree$Reader", "sign", "(C)Z"⟩, 6), (⟨"LandingTree$Reader", "number", "()Z"⟩, 6), (⟨"LandingTree$Landing", "oneDay", "(LLandingTree$Book;)V"⟩, 8), (⟨"LandingTree$Asker", "run", "(LLandingTree$Text;II)I"⟩, 4)]
theorem lw_r1 : ∀ q ∈ lw_privs_1, lw_okq q := List.forall_mem_cons.mpr ⟨lw_p0, List.forall_mem_cons.mpr ⟨lw_p1, List.forall_mem_cons.mpr ⟨lw_p2, List.forall_mem_cons.mpr ⟨lw_p3, List.forall_mem_cons.mpr ⟨lw_p4, List.forall_mem_cons.mpr ⟨lw_p5, List.forall_mem_cons.mpr ⟨lw_p6, List.forall_mem_cons.mpr ⟨lw_p7, List.forall_mem_cons.mpr ⟨lw_p8, List.forall_mem_cons.mpr ⟨lw_p9, List.forall_mem_cons.mpr ⟨lw_p10, List.forall_mem_cons.mpr ⟨lw_p11, List.forall_mem_cons.mpr ⟨lw_p12, List.forall_mem_cons.mpr ⟨lw_p13, List.forall_mem_cons.mpr ⟨lw_p14, List.forall_mem_cons.mpr ⟨lw_p15, fun _ h => absurd h List.not_mem_nil⟩⟩⟩⟩⟩⟩⟩⟩⟩⟩⟩⟩⟩⟩⟩⟩
theorem lw_p16 : lw_okq (⟨"LandingTree$Asker", "push", "(I)V"⟩, 4) := ⟨⟨by decide +kernel, by decide +kernel⟩, List.mem_of_getElem? (i := 232) (by decide +kernel), List.mem_of_getElem? (i := 781) (by decide +kernel), List.mem_of_getElem? (i := 782) (by decide +kernel)⟩
theorem lw_p17 : lw_okq (⟨"LandingTree$Asker", "pop", "()I"⟩, 4) := ⟨⟨by decide +kernel, by decide +kernel⟩, List.mem_of_getElem? (i := 232) (by decide +kernel), List.mem_of_getElem? (i := 785) (by decide +kernel), List.mem_of_getElem? (i := 786) (by decide +kernel)⟩
theorem lw_p18 : lw_okq (⟨"LandingTree$Asker", "reckon", "(III)I"⟩, 4) := ⟨⟨by decide +kernel, by decide +kernel⟩, List.mem_of_getElem? (i := 232) (by decide +kernel), List.mem_of_getElem? (i := 789) (by decide +kernel), List.mem_of_getElem? (i := 790) (by decide +kernel)⟩
theorem lw_p19 : lw_okq (⟨"LandingTree", "canTry", "(I)Z"⟩, 12) := ⟨⟨by decide +kernel, by decide +kernel⟩, List.mem_of_getElem? (i := 24) (by decide +kernel), List.mem_of_getElem? (i := 821) (by decide +kernel), List.mem_of_getElem? (i := 822) (by decide +kernel)⟩
theorem lw_p20 : lw_okq (⟨"LandingTree", "canReckon", "(III)Z"⟩, 12) := ⟨⟨by decide +kernel, by decide +kernel⟩, List.mem_of_getElem? (i := 24) (by decide +kernel), List.mem_of_getElem? (i := 865) (by decide +kernel), List.mem_of_getElem? (i := 866) (by decide +kernel)⟩
theorem lw_p21 : lw_okq (⟨"LandingTree", "areTold", "(I)Z"⟩, 12) := ⟨⟨by decide +kernel, by decide +kernel⟩, List.mem_of_getElem? (i := 24) (by decide +kernel), List.mem_of_getElem? (i := 869) (by decide +kernel), List.mem_of_getElem? (i := 870) (by decide +kernel)⟩
theorem lw_p22 : lw_okq (⟨"LandingTree", "livesAsItIs", "(III)J"⟩, 12) := ⟨⟨by decide +kernel, by decide +kernel⟩, List.mem_of_getElem? (i := 24) (by decide +kernel), List.mem_of_getElem? (i := 874) (by decide +kernel), List.mem_of_getElem? (i := 875) (by decide +kernel)⟩
theorem lw_p23 : lw_okq (⟨"LandingTree$Chances", "clear", "()V"⟩, 17) := ⟨⟨by decide +kernel, by decide +kernel⟩, List.mem_of_getElem? (i := 304) (by decide +kernel), List.mem_of_getElem? (i := 894) (by decide +kernel), List.mem_of_getElem? (i := 895) (by decide +kernel)⟩
theorem lw_p24 : lw_okq (⟨"LandingTree$Chances", "add", "(IJ)V"⟩, 17) := ⟨⟨by decide +kernel, by decide +kernel⟩, List.mem_of_getElem? (i := 304) (by decide +kernel), List.mem_of_getElem? (i := 904) (by decide +kernel), List.mem_of_getElem? (i := 905) (by decide +kernel)⟩
theorem lw_p25 : lw_okq (⟨"LandingTree$Chances", "goOn", "()V"⟩, 17) := ⟨⟨by decide +kernel, by decide +kernel⟩, List.mem_of_getElem? (i := 304) (by decide +kernel), List.mem_of_getElem? (i := 908) (by decide +kernel), List.mem_of_getElem? (i := 909) (by decide +kernel)⟩
theorem lw_p26 : lw_okq (⟨"LandingTree$Chances", "comeBy", "(LLandingTree$Asker;LLandingTree$Text;I)V"⟩, 17) := ⟨⟨by decide +kernel, by decide +kernel⟩, List.mem_of_getElem? (i := 304) (by decide +kernel), List.mem_of_getElem? (i := 921) (by decide +kernel), List.mem_of_getElem? (i := 922) (by decide +kernel)⟩
theorem lw_p27 : lw_okq (⟨"LandingTree$Chances", "isDead", "(I)Z"⟩, 17) := ⟨⟨by decide +kernel, by decide +kernel⟩, List.mem_of_getElem? (i := 304) (by decide +kernel), List.mem_of_getElem? (i := 925) (by decide +kernel), List.mem_of_getElem? (i := 926) (by decide +kernel)⟩
theorem lw_p28 : lw_okq (⟨"LandingTree$Chances", "lookAt", "(LLandingTree$Asker;I)V"⟩, 17) := ⟨⟨by decide +kernel, by decide +kernel⟩, List.mem_of_getElem? (i := 304) (by decide +kernel), List.mem_of_getElem? (i := 936) (by decide +kernel), List.mem_of_getElem? (i := 937) (by decide +kernel)⟩
theorem lw_p29 : lw_okq (⟨"LandingTree$Chances", "gift", "(LLandingTree$Asker;LLandingTree$Text;I)I"⟩, 17) := ⟨⟨by decide +kernel, by decide +kernel⟩, List.mem_of_getElem? (i := 304) (by decide +kernel), List.mem_of_getElem? (i := 940) (by decide +kernel), List.mem_of_getElem? (i := 941) (by decide +kernel)⟩
theorem lw_p30 : lw_okq (⟨"LandingTree$Chances", "goDry", "(LLandingTree$Asker;LLandingTree$Text;)V"⟩, 17) := ⟨⟨by decide +kernel, by decide +kernel⟩, List.mem_of_getElem? (i := 304) (by decide +kernel), List.mem_of_getElem? (i := 946) (by decide +kernel), List.mem_of_getElem? (i := 947) (by decide +kernel)⟩
theorem lw_p31 : lw_okq (⟨"LandingTree$Chances", "behind", "(II)I"⟩, 17) := ⟨⟨by decide +kernel, by decide +kernel⟩, List.mem_of_getElem? (i := 304) (by decide +kernel), List.mem_of_getElem? (i := 950) (by decide +kernel), List.mem_of_getElem? (i := 951) (by decide +kernel)⟩
def lw_privs_2 : List (MethodName × Nat) := [(⟨"LandingTree$Asker", "push", "(I)V"⟩, 4), (⟨"LandingTree$Asker", "pop", "()I"⟩, 4), (⟨"LandingTree$Asker", "reckon", "(III)I"⟩, 4), (⟨"LandingTree", "canTry", "(I)Z"⟩, 12), (⟨"LandingTree", "canReckon", "(III)Z"⟩, 12), (⟨"LandingTree", "areTold", "(I)Z"⟩, 12), (⟨"LandingTree", "livesAsItIs", "(III)J"⟩, 12), (⟨"LandingTree$Chances", "clear", "()V"⟩, 17), (⟨"LandingTree$Chances", "add", "(IJ)V"⟩, 17), (⟨"LandingTree$Chances", "goOn", "()V"⟩, 17), (⟨"LandingTree$Chances", "comeBy", "(LLandingTree$Asker;LLandingTree$Text;I)V"⟩, 17), (⟨"LandingTree$Chances", "isDead", "(I)Z"⟩, 17), (⟨"LandingTree$Chances", "lookAt", "(LLandingTree$Asker;I)V"⟩, 17), (⟨"LandingTree$Chances", "gift", "(LLandingTree$Asker;LLandingTree$Text;I)I"⟩, 17), (⟨"LandingTree$Chances", "goDry", "(LLandingTree$Asker;LLandingTree$Text;)V"⟩, 17), (⟨"LandingTree$Chances", "behind", "(II)I"⟩, 17)]
theorem lw_r2 : ∀ q ∈ lw_privs_2, lw_okq q := List.forall_mem_cons.mpr ⟨lw_p16, List.forall_mem_cons.mpr ⟨lw_p17, List.forall_mem_cons.mpr ⟨lw_p18, List.forall_mem_cons.mpr ⟨lw_p19, List.forall_mem_cons.mpr ⟨lw_p20, List.forall_mem_cons.mpr ⟨lw_p21, List.forall_mem_cons.mpr ⟨lw_p22, List.forall_mem_cons.mpr ⟨lw_p23, List.forall_mem_cons.mpr ⟨lw_p24, List.forall_mem_cons.mpr ⟨lw_p25, List.forall_mem_cons.mpr ⟨lw_p26, List.forall_mem_cons.mpr ⟨lw_p27, List.forall_mem_cons.mpr ⟨lw_p28, List.forall_mem_cons.mpr ⟨lw_p29, List.forall_mem_cons.mpr ⟨lw_p30, List.forall_mem_cons.mpr ⟨lw_p31, fun _ h => absurd h List.not_mem_nil⟩⟩⟩⟩⟩⟩⟩⟩⟩⟩⟩⟩⟩⟩⟩⟩
theorem lw_p32 : lw_okq (⟨"LandingTree$Chances", "living", "()J"⟩, 17) := ⟨⟨by decide +kernel, by decide +kernel⟩, List.mem_of_getElem? (i := 304) (by decide +kernel), List.mem_of_getElem? (i := 955) (by decide +kernel), List.mem_of_getElem? (i := 956) (by decide +kernel)⟩
theorem lw_p33 : lw_okq (⟨"LandingTree", "lastsWith", "(II)I"⟩, 12) := ⟨⟨by decide +kernel, by decide +kernel⟩, List.mem_of_getElem? (i := 24) (by decide +kernel), List.mem_of_getElem? (i := 1002) (by decide +kernel), List.mem_of_getElem? (i := 1003) (by decide +kernel)⟩
theorem lw_p34 : lw_okq (⟨"LandingTree$Week", "takeRow", "(II)V"⟩, 8) := ⟨⟨by decide +kernel, by decide +kernel⟩, List.mem_of_getElem? (i := 367) (by decide +kernel), List.mem_of_getElem? (i := 1025) (by decide +kernel), List.mem_of_getElem? (i := 1026) (by decide +kernel)⟩
theorem lw_p35 : lw_okq (⟨"LandingTree", "fillLasting", "(I)V"⟩, 12) := ⟨⟨by decide +kernel, by decide +kernel⟩, List.mem_of_getElem? (i := 24) (by decide +kernel), List.mem_of_getElem? (i := 1050) (by decide +kernel), List.mem_of_getElem? (i := 1051) (by decide +kernel)⟩
theorem lw_p36 : lw_okq (⟨"LandingTree", "spreadBest", "(I)I"⟩, 12) := ⟨⟨by decide +kernel, by decide +kernel⟩, List.mem_of_getElem? (i := 24) (by decide +kernel), List.mem_of_getElem? (i := 1054) (by decide +kernel), List.mem_of_getElem? (i := 1055) (by decide +kernel)⟩
theorem lw_p37 : lw_okq (⟨"LandingTree", "least", "(III)I"⟩, 12) := ⟨⟨by decide +kernel, by decide +kernel⟩, List.mem_of_getElem? (i := 24) (by decide +kernel), List.mem_of_getElem? (i := 1058) (by decide +kernel), List.mem_of_getElem? (i := 1059) (by decide +kernel)⟩
theorem lw_p38 : lw_okq (⟨"LandingTree", "fillOdds", "(I)Z"⟩, 12) := ⟨⟨by decide +kernel, by decide +kernel⟩, List.mem_of_getElem? (i := 24) (by decide +kernel), List.mem_of_getElem? (i := 1067) (by decide +kernel), List.mem_of_getElem? (i := 1068) (by decide +kernel)⟩
theorem lw_p39 : lw_okq (⟨"LandingTree", "theOne", "()I"⟩, 12) := ⟨⟨by decide +kernel, by decide +kernel⟩, List.mem_of_getElem? (i := 24) (by decide +kernel), List.mem_of_getElem? (i := 1084) (by decide +kernel), List.mem_of_getElem? (i := 1085) (by decide +kernel)⟩
theorem lw_p40 : lw_okq (⟨"LandingTree$Rota", "add", "(II)V"⟩, 2) := ⟨⟨by decide +kernel, by decide +kernel⟩, List.mem_of_getElem? (i := 402) (by decide +kernel), List.mem_of_getElem? (i := 1108) (by decide +kernel), List.mem_of_getElem? (i := 1109) (by decide +kernel)⟩
theorem lw_p41 : lw_okq (⟨"LandingTree", "rotaOn", "(II)I"⟩, 12) := ⟨⟨by decide +kernel, by decide +kernel⟩, List.mem_of_getElem? (i := 24) (by decide +kernel), List.mem_of_getElem? (i := 1116) (by decide +kernel), List.mem_of_getElem? (i := 1117) (by decide +kernel)⟩
theorem lw_p42 : lw_okq (⟨"LandingTree", "evenTenths", "(I)I"⟩, 12) := ⟨⟨by decide +kernel, by decide +kernel⟩, List.mem_of_getElem? (i := 24) (by decide +kernel), List.mem_of_getElem? (i := 1138) (by decide +kernel), List.mem_of_getElem? (i := 1139) (by decide +kernel)⟩
theorem lw_p43 : lw_okq (⟨"LandingTree", "nobodyGains", "(II)Z"⟩, 12) := ⟨⟨by decide +kernel, by decide +kernel⟩, List.mem_of_getElem? (i := 24) (by decide +kernel), List.mem_of_getElem? (i := 1142) (by decide +kernel), List.mem_of_getElem? (i := 1143) (by decide +kernel)⟩
theorem lw_p44 : lw_okq (⟨"LandingTree", "worthOf", "(II)I"⟩, 12) := ⟨⟨by decide +kernel, by decide +kernel⟩, List.mem_of_getElem? (i := 24) (by decide +kernel), List.mem_of_getElem? (i := 1146) (by decide +kernel), List.mem_of_getElem? (i := 1147) (by decide +kernel)⟩
theorem lw_p45 : lw_okq (⟨"LandingTree", "fits", "(II)Z"⟩, 12) := ⟨⟨by decide +kernel, by decide +kernel⟩, List.mem_of_getElem? (i := 24) (by decide +kernel), List.mem_of_getElem? (i := 1154) (by decide +kernel), List.mem_of_getElem? (i := 1155) (by decide +kernel)⟩
theorem lw_p46 : lw_okq (⟨"LandingTree", "countPerson", "(II)I"⟩, 12) := ⟨⟨by decide +kernel, by decide +kernel⟩, List.mem_of_getElem? (i := 24) (by decide +kernel), List.mem_of_getElem? (i := 1188) (by decide +kernel), List.mem_of_getElem? (i := 1189) (by decide +kernel)⟩
theorem lw_p47 : lw_okq (⟨"LandingTreeModel", "isPlant", "(I)Z"⟩, 54) := ⟨⟨by decide +kernel, by decide +kernel⟩, List.mem_of_getElem? (i := 1196) (by decide +kernel), List.mem_of_getElem? (i := 1380) (by decide +kernel), List.mem_of_getElem? (i := 1381) (by decide +kernel)⟩
def lw_privs_3 : List (MethodName × Nat) := [(⟨"LandingTree$Chances", "living", "()J"⟩, 17), (⟨"LandingTree", "lastsWith", "(II)I"⟩, 12), (⟨"LandingTree$Week", "takeRow", "(II)V"⟩, 8), (⟨"LandingTree", "fillLasting", "(I)V"⟩, 12), (⟨"LandingTree", "spreadBest", "(I)I"⟩, 12), (⟨"LandingTree", "least", "(III)I"⟩, 12), (⟨"LandingTree", "fillOdds", "(I)Z"⟩, 12), (⟨"LandingTree", "theOne", "()I"⟩, 12), (⟨"LandingTree$Rota", "add", "(II)V"⟩, 2), (⟨"LandingTree", "rotaOn", "(II)I"⟩, 12), (⟨"LandingTree", "evenTenths", "(I)I"⟩, 12), (⟨"LandingTree", "nobodyGains", "(II)Z"⟩, 12), (⟨"LandingTree", "worthOf", "(II)I"⟩, 12), (⟨"LandingTree", "fits", "(II)Z"⟩, 12), (⟨"LandingTree", "countPerson", "(II)I"⟩, 12), (⟨"LandingTreeModel", "isPlant", "(I)Z"⟩, 54)]
theorem lw_r3 : ∀ q ∈ lw_privs_3, lw_okq q := List.forall_mem_cons.mpr ⟨lw_p32, List.forall_mem_cons.mpr ⟨lw_p33, List.forall_mem_cons.mpr ⟨lw_p34, List.forall_mem_cons.mpr ⟨lw_p35, List.forall_mem_cons.mpr ⟨lw_p36, List.forall_mem_cons.mpr ⟨lw_p37, List.forall_mem_cons.mpr ⟨lw_p38, List.forall_mem_cons.mpr ⟨lw_p39, List.forall_mem_cons.mpr ⟨lw_p40, List.forall_mem_cons.mpr ⟨lw_p41, List.forall_mem_cons.mpr ⟨lw_p42, List.forall_mem_cons.mpr ⟨lw_p43, List.forall_mem_cons.mpr ⟨lw_p44, List.forall_mem_cons.mpr ⟨lw_p45, List.forall_mem_cons.mpr ⟨lw_p46, List.forall_mem_cons.mpr ⟨lw_p47, fun _ h => absurd h List.not_mem_nil⟩⟩⟩⟩⟩⟩⟩⟩⟩⟩⟩⟩⟩⟩⟩⟩
theorem lw_p48 : lw_okq (⟨"LandingTreeModel", "lives", "(I)Z"⟩, 54) := ⟨⟨by decide +kernel, by decide +kernel⟩, List.mem_of_getElem? (i := 1196) (by decide +kernel), List.mem_of_getElem? (i := 1391) (by decide +kernel), List.mem_of_getElem? (i := 1392) (by decide +kernel)⟩
theorem lw_p49 : lw_okq (⟨"LandingTreeModel", "types", "(I)V"⟩, 54) := ⟨⟨by decide +kernel, by decide +kernel⟩, List.mem_of_getElem? (i := 1196) (by decide +kernel), List.mem_of_getElem? (i := 1402) (by decide +kernel), List.mem_of_getElem? (i := 1403) (by decide +kernel)⟩
theorem lw_p50 : lw_okq (⟨"LandingTreeModel", "reads", "(II)I"⟩, 54) := ⟨⟨by decide +kernel, by decide +kernel⟩, List.mem_of_getElem? (i := 1196) (by decide +kernel), List.mem_of_getElem? (i := 1410) (by decide +kernel), List.mem_of_getElem? (i := 1411) (by decide +kernel)⟩
theorem lw_p51 : lw_okq (⟨"LandingTreeModel", "readsClause", "(I)Z"⟩, 54) := ⟨⟨by decide +kernel, by decide +kernel⟩, List.mem_of_getElem? (i := 1196) (by decide +kernel), List.mem_of_getElem? (i := 1414) (by decide +kernel), List.mem_of_getElem? (i := 1415) (by decide +kernel)⟩
theorem lw_p52 : lw_okq (⟨"LandingTreeModel", "here", "()I"⟩, 54) := ⟨⟨by decide +kernel, by decide +kernel⟩, List.mem_of_getElem? (i := 1196) (by decide +kernel), List.mem_of_getElem? (i := 1418) (by decide +kernel), List.mem_of_getElem? (i := 1419) (by decide +kernel)⟩
theorem lw_p53 : lw_okq (⟨"LandingTreeModel", "wrongAt", "(II)Z"⟩, 54) := ⟨⟨by decide +kernel, by decide +kernel⟩, List.mem_of_getElem? (i := 1196) (by decide +kernel), List.mem_of_getElem? (i := 1425) (by decide +kernel), List.mem_of_getElem? (i := 1426) (by decide +kernel)⟩
theorem lw_p54 : lw_okq (⟨"LandingTreeModel", "readsSum", "()Z"⟩, 54) := ⟨⟨by decide +kernel, by decide +kernel⟩, List.mem_of_getElem? (i := 1196) (by decide +kernel), List.mem_of_getElem? (i := 1429) (by decide +kernel), List.mem_of_getElem? (i := 1430) (by decide +kernel)⟩
theorem lw_p55 : lw_okq (⟨"LandingTreeModel", "readsFactor", "()Z"⟩, 54) := ⟨⟨by decide +kernel, by decide +kernel⟩, List.mem_of_getElem? (i := 1196) (by decide +kernel), List.mem_of_getElem? (i := 1433) (by decide +kernel), List.mem_of_getElem? (i := 1434) (by decide +kernel)⟩
theorem lw_p56 : lw_okq (⟨"LandingTreeModel", "opens", "(I)Z"⟩, 54) := ⟨⟨by decide +kernel, by decide +kernel⟩, List.mem_of_getElem? (i := 1196) (by decide +kernel), List.mem_of_getElem? (i := 1437) (by decide +kernel), List.mem_of_getElem? (i := 1438) (by decide +kernel)⟩
theorem lw_p57 : lw_okq (⟨"LandingTreeModel", "isDigit", "()Z"⟩, 54) := ⟨⟨by decide +kernel, by decide +kernel⟩, List.mem_of_getElem? (i := 1196) (by decide +kernel), List.mem_of_getElem? (i := 1442) (by decide +kernel), List.mem_of_getElem? (i := 1443) (by decide +kernel)⟩
theorem lw_p58 : lw_okq (⟨"LandingTreeModel", "readsNumber", "()Z"⟩, 54) := ⟨⟨by decide +kernel, by decide +kernel⟩, List.mem_of_getElem? (i := 1196) (by decide +kernel), List.mem_of_getElem? (i := 1446) (by decide +kernel), List.mem_of_getElem? (i := 1447) (by decide +kernel)⟩
theorem lw_p59 : lw_okq (⟨"LandingTreeModel", "notes", "(II)V"⟩, 54) := ⟨⟨by decide +kernel, by decide +kernel⟩, List.mem_of_getElem? (i := 1196) (by decide +kernel), List.mem_of_getElem? (i := 1450) (by decide +kernel), List.mem_of_getElem? (i := 1451) (by decide +kernel)⟩
theorem lw_p60 : lw_okq (⟨"LandingTreeModel", "closesSums", "(Z)V"⟩, 54) := ⟨⟨by decide +kernel, by decide +kernel⟩, List.mem_of_getElem? (i := 1196) (by decide +kernel), List.mem_of_getElem? (i := 1460) (by decide +kernel), List.mem_of_getElem? (i := 1461) (by decide +kernel)⟩
theorem lw_p61 : lw_okq (⟨"LandingTreeModel", "waitTop", "()I"⟩, 54) := ⟨⟨by decide +kernel, by decide +kernel⟩, List.mem_of_getElem? (i := 1196) (by decide +kernel), List.mem_of_getElem? (i := 1464) (by decide +kernel), List.mem_of_getElem? (i := 1465) (by decide +kernel)⟩
theorem lw_p62 : lw_okq (⟨"LandingTreeModel", "hasOpenSum", "(I)Z"⟩, 54) := ⟨⟨by decide +kernel, by decide +kernel⟩, List.mem_of_getElem? (i := 1196) (by decide +kernel), List.mem_of_getElem? (i := 1468) (by decide +kernel), List.mem_of_getElem? (i := 1469) (by decide +kernel)⟩
theorem lw_p63 : lw_okq (⟨"LandingTreeModel", "readsCondition", "()Z"⟩, 54) := ⟨⟨by decide +kernel, by decide +kernel⟩, List.mem_of_getElem? (i := 1196) (by decide +kernel), List.mem_of_getElem? (i := 1472) (by decide +kernel), List.mem_of_getElem? (i := 1473) (by decide +kernel)⟩
def lw_privs_4 : List (MethodName × Nat) := [(⟨"LandingTreeModel", "lives", "(I)Z"⟩, 54), (⟨"LandingTreeModel", "types", "(I)V"⟩, 54), (⟨"LandingTreeModel", "reads", "(II)I"⟩, 54), (⟨"LandingTreeModel", "readsClause", "(I)Z"⟩, 54), (⟨"LandingTreeModel", "here", "()I"⟩, 54), (⟨"LandingTreeModel", "wrongAt", "(II)Z"⟩, 54), (⟨"LandingTreeModel", "readsSum", "()Z"⟩, 54), (⟨"LandingTreeModel", "readsFactor", "()Z"⟩, 54), (⟨"LandingTreeModel", "opens", "(I)Z"⟩, 54), (⟨"LandingTreeModel", "isDigit", "()Z"⟩, 54), (⟨"LandingTreeModel", "readsNumber", "()Z"⟩, 54), (⟨"LandingTreeModel", "notes", "(II)V"⟩, 54), (⟨"LandingTreeModel", "closesSums", "(Z)V"⟩, 54), (⟨"LandingTreeModel", "waitTop", "()I"⟩, 54), (⟨"LandingTreeModel", "hasOpenSum", "(I)Z"⟩, 54), (⟨"LandingTreeModel", "readsCondition", "()Z"⟩, 54)]
theorem lw_r4 : ∀ q ∈ lw_privs_4, lw_okq q := List.forall_mem_cons.mpr ⟨lw_p48, List.forall_mem_cons.mpr ⟨lw_p49, List.forall_mem_cons.mpr ⟨lw_p50, List.forall_mem_cons.mpr ⟨lw_p51, List.forall_mem_cons.mpr ⟨lw_p52, List.forall_mem_cons.mpr ⟨lw_p53, List.forall_mem_cons.mpr ⟨lw_p54, List.forall_mem_cons.mpr ⟨lw_p55, List.forall_mem_cons.mpr ⟨lw_p56, List.forall_mem_cons.mpr ⟨lw_p57, List.forall_mem_cons.mpr ⟨lw_p58, List.forall_mem_cons.mpr ⟨lw_p59, List.forall_mem_cons.mpr ⟨lw_p60, List.forall_mem_cons.mpr ⟨lw_p61, List.forall_mem_cons.mpr ⟨lw_p62, List.forall_mem_cons.mpr ⟨lw_p63, fun _ h => absurd h List.not_mem_nil⟩⟩⟩⟩⟩⟩⟩⟩⟩⟩⟩⟩⟩⟩⟩⟩
theorem lw_p64 : lw_okq (⟨"LandingTreeModel", "readsCompared", "()Z"⟩, 54) := ⟨⟨by decide +kernel, by decide +kernel⟩, List.mem_of_getElem? (i := 1196) (by decide +kernel), List.mem_of_getElem? (i := 1476) (by decide +kernel), List.mem_of_getElem? (i := 1477) (by decide +kernel)⟩
theorem lw_p65 : lw_okq (⟨"LandingTreeModel", "endsPiece", "()V"⟩, 54) := ⟨⟨by decide +kernel, by decide +kernel⟩, List.mem_of_getElem? (i := 1196) (by decide +kernel), List.mem_of_getElem? (i := 1480) (by decide +kernel), List.mem_of_getElem? (i := 1481) (by decide +kernel)⟩
theorem lw_p66 : lw_okq (⟨"LandingTreeModel", "lands", "(Z)V"⟩, 54) := ⟨⟨by decide +kernel, by decide +kernel⟩, List.mem_of_getElem? (i := 1196) (by decide +kernel), List.mem_of_getElem? (i := 1484) (by decide +kernel), List.mem_of_getElem? (i := 1485) (by decide +kernel)⟩
theorem lw_p67 : lw_okq (⟨"LandingTreeModel", "jumps", "(I)V"⟩, 54) := ⟨⟨by decide +kernel, by decide +kernel⟩, List.mem_of_getElem? (i := 1196) (by decide +kernel), List.mem_of_getElem? (i := 1488) (by decide +kernel), List.mem_of_getElem? (i := 1489) (by decide +kernel)⟩
theorem lw_p68 : lw_okq (⟨"LandingTreeModel", "takes", "(I)Z"⟩, 54) := ⟨⟨by decide +kernel, by decide +kernel⟩, List.mem_of_getElem? (i := 1196) (by decide +kernel), List.mem_of_getElem? (i := 1492) (by decide +kernel), List.mem_of_getElem? (i := 1493) (by decide +kernel)⟩
theorem lw_p69 : lw_okq (⟨"LandingTreeModel", "isPerson", "(I)Z"⟩, 54) := ⟨⟨by decide +kernel, by decide +kernel⟩, List.mem_of_getElem? (i := 1196) (by decide +kernel), List.mem_of_getElem? (i := 1504) (by decide +kernel), List.mem_of_getElem? (i := 1505) (by decide +kernel)⟩
theorem lw_p70 : lw_okq (⟨"LandingTreeModel", "cupsOf", "(II)I"⟩, 54) := ⟨⟨by decide +kernel, by decide +kernel⟩, List.mem_of_getElem? (i := 1196) (by decide +kernel), List.mem_of_getElem? (i := 1508) (by decide +kernel), List.mem_of_getElem? (i := 1509) (by decide +kernel)⟩
theorem lw_p71 : lw_okq (⟨"LandingTreeModel", "feelsPlant", "(I)V"⟩, 54) := ⟨⟨by decide +kernel, by decide +kernel⟩, List.mem_of_getElem? (i := 1196) (by decide +kernel), List.mem_of_getElem? (i := 1512) (by decide +kernel), List.mem_of_getElem? (i := 1513) (by decide +kernel)⟩
theorem lw_p72 : lw_okq (⟨"LandingTreeModel", "feels", "()V"⟩, 54) := ⟨⟨by decide +kernel, by decide +kernel⟩, List.mem_of_getElem? (i := 1196) (by decide +kernel), List.mem_of_getElem? (i := 1516) (by decide +kernel), List.mem_of_getElem? (i := 1517) (by decide +kernel)⟩
theorem lw_p73 : lw_okq (⟨"LandingTreeModel", "byText", "(III)I"⟩, 54) := ⟨⟨by decide +kernel, by decide +kernel⟩, List.mem_of_getElem? (i := 1196) (by decide +kernel), List.mem_of_getElem? (i := 1523) (by decide +kernel), List.mem_of_getElem? (i := 1524) (by decide +kernel)⟩
theorem lw_p74 : lw_okq (⟨"LandingTreeModel", "comesTo", "(II)I"⟩, 54) := ⟨⟨by decide +kernel, by decide +kernel⟩, List.mem_of_getElem? (i := 1196) (by decide +kernel), List.mem_of_getElem? (i := 1527) (by decide +kernel), List.mem_of_getElem? (i := 1528) (by decide +kernel)⟩
theorem lw_p75 : lw_okq (⟨"LandingTreeModel", "daysGo", "(I)V"⟩, 54) := ⟨⟨by decide +kernel, by decide +kernel⟩, List.mem_of_getElem? (i := 1196) (by decide +kernel), List.mem_of_getElem? (i := 1538) (by decide +kernel), List.mem_of_getElem? (i := 1539) (by decide +kernel)⟩
theorem lw_p76 : lw_okq (⟨"LandingTreeModel", "dayGoes", "()V"⟩, 54) := ⟨⟨by decide +kernel, by decide +kernel⟩, List.mem_of_getElem? (i := 1196) (by decide +kernel), List.mem_of_getElem? (i := 1542) (by decide +kernel), List.mem_of_getElem? (i := 1543) (by decide +kernel)⟩
theorem lw_p77 : lw_okq (⟨"LandingTreeModel", "draws", "()I"⟩, 54) := ⟨⟨by decide +kernel, by decide +kernel⟩, List.mem_of_getElem? (i := 1196) (by decide +kernel), List.mem_of_getElem? (i := 1546) (by decide +kernel), List.mem_of_getElem? (i := 1547) (by decide +kernel)⟩
theorem lw_p78 : lw_okq (⟨"LandingTreeModel", "waters", "(II)V"⟩, 54) := ⟨⟨by decide +kernel, by decide +kernel⟩, List.mem_of_getElem? (i := 1196) (by decide +kernel), List.mem_of_getElem? (i := 1551) (by decide +kernel), List.mem_of_getElem? (i := 1552) (by decide +kernel)⟩
theorem lw_p79 : lw_okq (⟨"LandingTreeModel", "dries", "(IZ)V"⟩, 54) := ⟨⟨by decide +kernel, by decide +kernel⟩, List.mem_of_getElem? (i := 1196) (by decide +kernel), List.mem_of_getElem? (i := 1555) (by decide +kernel), List.mem_of_getElem? (i := 1556) (by decide +kernel)⟩
def lw_privs_5 : List (MethodName × Nat) := [(⟨"LandingTreeModel", "readsCompared", "()Z"⟩, 54), (⟨"LandingTreeModel", "endsPiece", "()V"⟩, 54), (⟨"LandingTreeModel", "lands", "(Z)V"⟩, 54), (⟨"LandingTreeModel", "jumps", "(I)V"⟩, 54), (⟨"LandingTreeModel", "takes", "(I)Z"⟩, 54), (⟨"LandingTreeModel", "isPerson", "(I)Z"⟩, 54), (⟨"LandingTreeModel", "cupsOf", "(II)I"⟩, 54), (⟨"LandingTreeModel", "feelsPlant", "(I)V"⟩, 54), (⟨"LandingTreeModel", "feels", "()V"⟩, 54), (⟨"LandingTreeModel", "byText", "(III)I"⟩, 54), (⟨"LandingTreeModel", "comesTo", "(II)I"⟩, 54), (⟨"LandingTreeModel", "daysGo", "(I)V"⟩, 54), (⟨"LandingTreeModel", "dayGoes", "()V"⟩, 54), (⟨"LandingTreeModel", "draws", "()I"⟩, 54), (⟨"LandingTreeModel", "waters", "(II)V"⟩, 54), (⟨"LandingTreeModel", "dries", "(IZ)V"⟩, 54)]
theorem lw_r5 : ∀ q ∈ lw_privs_5, lw_okq q := List.forall_mem_cons.mpr ⟨lw_p64, List.forall_mem_cons.mpr ⟨lw_p65, List.forall_mem_cons.mpr ⟨lw_p66, List.forall_mem_cons.mpr ⟨lw_p67, List.forall_mem_cons.mpr ⟨lw_p68, List.forall_mem_cons.mpr ⟨lw_p69, List.forall_mem_cons.mpr ⟨lw_p70, List.forall_mem_cons.mpr ⟨lw_p71, List.forall_mem_cons.mpr ⟨lw_p72, List.forall_mem_cons.mpr ⟨lw_p73, List.forall_mem_cons.mpr ⟨lw_p74, List.forall_mem_cons.mpr ⟨lw_p75, List.forall_mem_cons.mpr ⟨lw_p76, List.forall_mem_cons.mpr ⟨lw_p77, List.forall_mem_cons.mpr ⟨lw_p78, List.forall_mem_cons.mpr ⟨lw_p79, fun _ h => absurd h List.not_mem_nil⟩⟩⟩⟩⟩⟩⟩⟩⟩⟩⟩⟩⟩⟩⟩⟩
theorem lw_p80 : lw_okq (⟨"LandingTreeModel", "canGo", "(III)Z"⟩, 54) := ⟨⟨by decide +kernel, by decide +kernel⟩, List.mem_of_getElem? (i := 1196) (by decide +kernel), List.mem_of_getElem? (i := 1577) (by decide +kernel), List.mem_of_getElem? (i := 1578) (by decide +kernel)⟩
theorem lw_p81 : lw_okq (⟨"LandingTreeModel", "laysSome", "(I)Z"⟩, 54) := ⟨⟨by decide +kernel, by decide +kernel⟩, List.mem_of_getElem? (i := 1196) (by decide +kernel), List.mem_of_getElem? (i := 1581) (by decide +kernel), List.mem_of_getElem? (i := 1582) (by decide +kernel)⟩
theorem lw_p82 : lw_okq (⟨"LandingTreeModel", "goesThrough", "(II)J"⟩, 54) := ⟨⟨by decide +kernel, by decide +kernel⟩, List.mem_of_getElem? (i := 1196) (by decide +kernel), List.mem_of_getElem? (i := 1586) (by decide +kernel), List.mem_of_getElem? (i := 1587) (by decide +kernel)⟩
theorem lw_p83 : lw_okq (⟨"LandingTreeModel", "comesBy", "(II)V"⟩, 54) := ⟨⟨by decide +kernel, by decide +kernel⟩, List.mem_of_getElem? (i := 1196) (by decide +kernel), List.mem_of_getElem? (i := 1597) (by decide +kernel), List.mem_of_getElem? (i := 1598) (by decide +kernel)⟩
theorem lw_p84 : lw_okq (⟨"LandingTreeModel", "cupsIn", "(III)I"⟩, 54) := ⟨⟨by decide +kernel, by decide +kernel⟩, List.mem_of_getElem? (i := 1196) (by decide +kernel), List.mem_of_getElem? (i := 1601) (by decide +kernel), List.mem_of_getElem? (i := 1602) (by decide +kernel)⟩
theorem lw_p85 : lw_okq (⟨"LandingTreeModel", "feelsState", "(II)V"⟩, 54) := ⟨⟨by decide +kernel, by decide +kernel⟩, List.mem_of_getElem? (i := 1196) (by decide +kernel), List.mem_of_getElem? (i := 1605) (by decide +kernel), List.mem_of_getElem? (i := 1606) (by decide +kernel)⟩
theorem lw_p86 : lw_okq (⟨"LandingTreeModel", "sunBy", "(IIZ)V"⟩, 54) := ⟨⟨by decide +kernel, by decide +kernel⟩, List.mem_of_getElem? (i := 1196) (by decide +kernel), List.mem_of_getElem? (i := 1615) (by decide +kernel), List.mem_of_getElem? (i := 1616) (by decide +kernel)⟩
theorem lw_p87 : lw_okq (⟨"LandingTreeModel", "lastsWith", "(II)I"⟩, 54) := ⟨⟨by decide +kernel, by decide +kernel⟩, List.mem_of_getElem? (i := 1196) (by decide +kernel), List.mem_of_getElem? (i := 1645) (by decide +kernel), List.mem_of_getElem? (i := 1646) (by decide +kernel)⟩
theorem lw_p88 : lw_okq (⟨"LandingTreeModel", "laysSpread", "(I)I"⟩, 54) := ⟨⟨by decide +kernel, by decide +kernel⟩, List.mem_of_getElem? (i := 1196) (by decide +kernel), List.mem_of_getElem? (i := 1653) (by decide +kernel), List.mem_of_getElem? (i := 1654) (by decide +kernel)⟩
theorem lw_p89 : lw_okq (⟨"LandingTreeModel", "mayBe", "(I)Z"⟩, 54) := ⟨⟨by decide +kernel, by decide +kernel⟩, List.mem_of_getElem? (i := 1196) (by decide +kernel), List.mem_of_getElem? (i := 1657) (by decide +kernel), List.mem_of_getElem? (i := 1658) (by decide +kernel)⟩
theorem lw_p90 : lw_okq (⟨"LandingTreeModel", "leastBy", "()I"⟩, 54) := ⟨⟨by decide +kernel, by decide +kernel⟩, List.mem_of_getElem? (i := 1196) (by decide +kernel), List.mem_of_getElem? (i := 1661) (by decide +kernel), List.mem_of_getElem? (i := 1662) (by decide +kernel)⟩
theorem lw_p91 : lw_okq (⟨"LandingTreeModel", "wetBehind", "(III)I"⟩, 54) := ⟨⟨by decide +kernel, by decide +kernel⟩, List.mem_of_getElem? (i := 1196) (by decide +kernel), List.mem_of_getElem? (i := 1683) (by decide +kernel), List.mem_of_getElem? (i := 1684) (by decide +kernel)⟩
theorem lw_p92 : lw_okq (⟨"LandingTreeModel", "areTenths", "(I)Z"⟩, 54) := ⟨⟨by decide +kernel, by decide +kernel⟩, List.mem_of_getElem? (i := 1196) (by decide +kernel), List.mem_of_getElem? (i := 1691) (by decide +kernel), List.mem_of_getElem? (i := 1692) (by decide +kernel)⟩
theorem lw_p93 : lw_okq (⟨"LandingTreeModel", "laysComes", "(I)V"⟩, 54) := ⟨⟨by decide +kernel, by decide +kernel⟩, List.mem_of_getElem? (i := 1196) (by decide +kernel), List.mem_of_getElem? (i := 1696) (by decide +kernel), List.mem_of_getElem? (i := 1697) (by decide +kernel)⟩
theorem lw_p94 : lw_okq (⟨"LandingTreeModel", "readsWeek", "()Z"⟩, 54) := ⟨⟨by decide +kernel, by decide +kernel⟩, List.mem_of_getElem? (i := 1196) (by decide +kernel), List.mem_of_getElem? (i := 1714) (by decide +kernel), List.mem_of_getElem? (i := 1715) (by decide +kernel)⟩
theorem lw_p95 : lw_okq (⟨"LandingTreeModel", "goesByRota", "(I)V"⟩, 54) := ⟨⟨by decide +kernel, by decide +kernel⟩, List.mem_of_getElem? (i := 1196) (by decide +kernel), List.mem_of_getElem? (i := 1721) (by decide +kernel), List.mem_of_getElem? (i := 1722) (by decide +kernel)⟩
def lw_privs_6 : List (MethodName × Nat) := [(⟨"LandingTreeModel", "canGo", "(III)Z"⟩, 54), (⟨"LandingTreeModel", "laysSome", "(I)Z"⟩, 54), (⟨"LandingTreeModel", "goesThrough", "(II)J"⟩, 54), (⟨"LandingTreeModel", "comesBy", "(II)V"⟩, 54), (⟨"LandingTreeModel", "cupsIn", "(III)I"⟩, 54), (⟨"LandingTreeModel", "feelsState", "(II)V"⟩, 54), (⟨"LandingTreeModel", "sunBy", "(IIZ)V"⟩, 54), (⟨"LandingTreeModel", "lastsWith", "(II)I"⟩, 54), (⟨"LandingTreeModel", "laysSpread", "(I)I"⟩, 54), (⟨"LandingTreeModel", "mayBe", "(I)Z"⟩, 54), (⟨"LandingTreeModel", "leastBy", "()I"⟩, 54), (⟨"LandingTreeModel", "wetBehind", "(III)I"⟩, 54), (⟨"LandingTreeModel", "areTenths", "(I)Z"⟩, 54), (⟨"LandingTreeModel", "laysComes", "(I)V"⟩, 54), (⟨"LandingTreeModel", "readsWeek", "()Z"⟩, 54), (⟨"LandingTreeModel", "goesByRota", "(I)V"⟩, 54)]
theorem lw_r6 : ∀ q ∈ lw_privs_6, lw_okq q := List.forall_mem_cons.mpr ⟨lw_p80, List.forall_mem_cons.mpr ⟨lw_p81, List.forall_mem_cons.mpr ⟨lw_p82, List.forall_mem_cons.mpr ⟨lw_p83, List.forall_mem_cons.mpr ⟨lw_p84, List.forall_mem_cons.mpr ⟨lw_p85, List.forall_mem_cons.mpr ⟨lw_p86, List.forall_mem_cons.mpr ⟨lw_p87, List.forall_mem_cons.mpr ⟨lw_p88, List.forall_mem_cons.mpr ⟨lw_p89, List.forall_mem_cons.mpr ⟨lw_p90, List.forall_mem_cons.mpr ⟨lw_p91, List.forall_mem_cons.mpr ⟨lw_p92, List.forall_mem_cons.mpr ⟨lw_p93, List.forall_mem_cons.mpr ⟨lw_p94, List.forall_mem_cons.mpr ⟨lw_p95, fun _ h => absurd h List.not_mem_nil⟩⟩⟩⟩⟩⟩⟩⟩⟩⟩⟩⟩⟩⟩⟩⟩
theorem lw_p96 : lw_okq (⟨"LandingTreeModel", "laysAlone", "(I)V"⟩, 54) := ⟨⟨by decide +kernel, by decide +kernel⟩, List.mem_of_getElem? (i := 1196) (by decide +kernel), List.mem_of_getElem? (i := 1729) (by decide +kernel), List.mem_of_getElem? (i := 1730) (by decide +kernel)⟩
theorem lw_p97 : lw_okq (⟨"LandingTreeModel", "waterBy", "(II)Z"⟩, 54) := ⟨⟨by decide +kernel, by decide +kernel⟩, List.mem_of_getElem? (i := 1196) (by decide +kernel), List.mem_of_getElem? (i := 1733) (by decide +kernel), List.mem_of_getElem? (i := 1734) (by decide +kernel)⟩
theorem lw_p98 : lw_okq (⟨"LandingTreeModel", "gainOf", "(II)I"⟩, 54) := ⟨⟨by decide +kernel, by decide +kernel⟩, List.mem_of_getElem? (i := 1196) (by decide +kernel), List.mem_of_getElem? (i := 1737) (by decide +kernel), List.mem_of_getElem? (i := 1738) (by decide +kernel)⟩
theorem lw_p99 : lw_okq (⟨"LandingTreeModel", "tapeNumber", "(I)I"⟩, 54) := ⟨⟨by decide +kernel, by decide +kernel⟩, List.mem_of_getElem? (i := 1196) (by decide +kernel), List.mem_of_getElem? (i := 1766) (by decide +kernel), List.mem_of_getElem? (i := 1767) (by decide +kernel)⟩
def lw_privs_7 : List (MethodName × Nat) := [(⟨"LandingTreeModel", "laysAlone", "(I)V"⟩, 54), (⟨"LandingTreeModel", "waterBy", "(II)Z"⟩, 54), (⟨"LandingTreeModel", "gainOf", "(II)I"⟩, 54), (⟨"LandingTreeModel", "tapeNumber", "(I)I"⟩, 54)]
theorem lw_r7 : ∀ q ∈ lw_privs_7, lw_okq q := List.forall_mem_cons.mpr ⟨lw_p96, List.forall_mem_cons.mpr ⟨lw_p97, List.forall_mem_cons.mpr ⟨lw_p98, List.forall_mem_cons.mpr ⟨lw_p99, fun _ h => absurd h List.not_mem_nil⟩⟩⟩⟩
def lw_privs : List (MethodName × Nat) := lw_privs_1 ++ (lw_privs_2 ++ (lw_privs_3 ++ (lw_privs_4 ++ (lw_privs_5 ++ (lw_privs_6 ++ (lw_privs_7))))))
def lw_tbl : List Cond := k2_sels lw_privs ++ tables_1
theorem lw_privs_ok : ∀ q ∈ lw_privs, lw_okq q := by
  show ∀ q ∈ lw_privs_1 ++ (lw_privs_2 ++ (lw_privs_3 ++ (lw_privs_4 ++ (lw_privs_5 ++ (lw_privs_6 ++ (lw_privs_7)))))), lw_okq q
  exact List.forall_mem_append.mpr ⟨lw_r1, List.forall_mem_append.mpr ⟨lw_r2, List.forall_mem_append.mpr ⟨lw_r3, List.forall_mem_append.mpr ⟨lw_r4, List.forall_mem_append.mpr ⟨lw_r5, List.forall_mem_append.mpr ⟨lw_r6, lw_r7⟩⟩⟩⟩⟩⟩
end
section
/-! ===== BEGIN words of one list among another's, by their places ===== -/
theorem goodIn_r {big : List Cond} (ws : List Cond) (ps : List Nat) (hp : ws = ps.filterMap (fun i => big[i]?)) (h : ws.all goodWord = true) : GoodIn big ws := by
  intro w hw
  have h1 := List.all_eq_true.mp h w hw
  rw [hp] at hw
  obtain ⟨i, -, hi⟩ := List.mem_filterMap.mp hw
  have hm : w ∈ big := by first | exact List.mem_of_getElem? hi | exact List.getElem?_mem hi
  exact ⟨hm, good_of_word h1⟩
theorem goodIn_app {big a b : List Cond} (ha : GoodIn big a) (hb : GoodIn big b) : GoodIn big (a ++ b) := fun w h => (List.mem_append.mp h).elim (ha w) (hb w)
theorem goodIn_ca {big a b : List Cond} {c : Cond} (ha : GoodIn big (c :: a)) (hb : GoodIn big b) : GoodIn big (c :: (a ++ b)) := fun w h => (List.mem_cons.mp h).elim (fun e => ha w (List.mem_cons.mpr (Or.inl e))) (fun h => (List.mem_append.mp h).elim (fun h => ha w (List.mem_cons.mpr (Or.inr h))) (hb w))
theorem goodIn_sub {big ws : List Cond} (hm : ∀ w ∈ ws, w ∈ big) (h : ws.all goodWord = true) : GoodIn big ws := fun w hw => ⟨hm w hw, good_of_word (List.all_eq_true.mp h w hw)⟩
/-! ===== END ===== -/
/-! ===== BEGIN printed: names, fields, word lists, decode rows ===== -/
def RX0 : String := "LandingTree$Asker"
def TX0 : u_T := fun k => match k with
  | 0 => ("LandingTree$Asker", "letters", "[I", true)
  | 1 => ("LandingTree$Asker", "stack", "[I", true)
  | 2 => ("LandingTree$Asker", "top", "I", false)
  | _ => ("LandingTree$Asker", "isRefused", "Z", false)
def tyX0 : Nat → FieldType := fun k => match k with
  | 0 => .array .int
  | 1 => .array .int
  | 2 => .int
  | _ => .boolean
abbrev wsX00 : List Cond := u_ws RX0 TX0 4
theorem nmX0 : ∀ a, a < 4 → ∀ b, b < 4 → a ≠ b → (TX0 a).2.1 ≠ (TX0 b).2.1 := by decide +kernel
theorem tyX0_ok : ∀ k, k < 4 → parseFieldDescriptor (TX0 k).2.2.1 = some (tyX0 k) := by decide +kernel
abbrev cX0_init : ByteArray := prog_2_method_1_code
def yX0_init : MethodName := ⟨RX0, "<init>", "()V"⟩
abbrev cX0_put : ByteArray := prog_2_method_2_code
def yX0_put : MethodName := ⟨RX0, "put", "(CI)V"⟩
abbrev cX0_onDay : ByteArray := prog_2_method_3_code
def yX0_onDay : MethodName := ⟨RX0, "onDay", "(II)V"⟩
abbrev cX0_ofNothing : ByteArray := prog_2_method_4_code
def yX0_ofNothing : MethodName := ⟨RX0, "ofNothing", "()V"⟩
abbrev cX0_of : ByteArray := prog_2_method_5_code
def yX0_of : MethodName := ⟨RX0, "of", "(LLandingTree$Plant;II)V"⟩
abbrev cX0_by : ByteArray := prog_2_method_6_code
def yX0_by : MethodName := ⟨RX0, "by", "(III)V"⟩
abbrev cX0_byNobody : ByteArray := prog_2_method_7_code
def yX0_byNobody : MethodName := ⟨RX0, "byNobody", "()V"⟩
abbrev cX0_ask : ByteArray := prog_2_method_8_code
def yX0_ask : MethodName := ⟨RX0, "ask", "(LLandingTree$Text;CI)I"⟩
abbrev cX0_run : ByteArray := prog_2_method_9_code
def yX0_run : MethodName := ⟨RX0, "run", "(LLandingTree$Text;II)I"⟩
abbrev cX0_push : ByteArray := prog_2_method_10_code
def yX0_push : MethodName := ⟨RX0, "push", "(I)V"⟩
abbrev cX0_pop : ByteArray := prog_2_method_11_code
def yX0_pop : MethodName := ⟨RX0, "pop", "()I"⟩
abbrev cX0_reckon : ByteArray := prog_2_method_12_code
def yX0_reckon : MethodName := ⟨RX0, "reckon", "(III)I"⟩
def RX1 : String := "LandingTree$Book"
def TX1 : u_T := fun k => match k with
  | 0 => ("LandingTree$Book", "law", "LLandingTree$Text;", false)
  | 1 => ("LandingTree$Book", "rules", "[LLandingTree$Text;", true)
  | 2 => ("LandingTree$Book", "costs", "[I", true)
  | 3 => ("LandingTree$Book", "worths", "[I", true)
  | 4 => ("LandingTree$Book", "asker", "LLandingTree$Asker;", true)
  | _ => ("LandingTree$Book", "reader", "LLandingTree$Reader;", true)
def tyX1 : Nat → FieldType := fun k => match k with
  | 0 => .object "LandingTree$Text"
  | 1 => .array (.object "LandingTree$Text")
  | 2 => .array .int
  | 3 => .array .int
  | 4 => .object "LandingTree$Asker"
  | _ => .object "LandingTree$Reader"
abbrev wsX10 : List Cond := u_ws RX1 TX1 6
theorem nmX1 : ∀ a, a < 6 → ∀ b, b < 6 → a ≠ b → (TX1 a).2.1 ≠ (TX1 b).2.1 := by decide +kernel
theorem tyX1_ok : ∀ k, k < 6 → parseFieldDescriptor (TX1 k).2.2.1 = some (tyX1 k) := by decide +kernel
abbrev cX1_init : ByteArray := prog_3_method_1_code
def yX1_init : MethodName := ⟨RX1, "<init>", "(LLandingTree$Tape;)V"⟩
abbrev cX1_writeLaw : ByteArray := prog_3_method_2_code
def yX1_writeLaw : MethodName := ⟨RX1, "writeLaw", "(I)I"⟩
abbrev cX1_writeRule : ByteArray := prog_3_method_3_code
def yX1_writeRule : MethodName := ⟨RX1, "writeRule", "(II)I"⟩
abbrev cX1_gift : ByteArray := prog_3_method_4_code
def yX1_gift : MethodName := ⟨RX1, "gift", "(LLandingTree$Landing;II)I"⟩
abbrev cX1_goes : ByteArray := prog_3_method_5_code
def yX1_goes : MethodName := ⟨RX1, "goes", "(LLandingTree$Landing;IC)I"⟩
abbrev cX1_setPrices : ByteArray := prog_3_method_6_code
def yX1_setPrices : MethodName := ⟨RX1, "setPrices", "(LLandingTree$Landing;I)V"⟩
def RX2 : String := "LandingTree$Chances"
def TX2 : u_T := fun k => match k with
  | 0 => ("LandingTree$Chances", "weights", "[J", false)
  | 1 => ("LandingTree$Chances", "next", "[J", false)
  | 2 => ("LandingTree$Chances", "states", "[I", false)
  | 3 => ("LandingTree$Chances", "nextStates", "[I", false)
  | 4 => ("LandingTree$Chances", "held", "I", false)
  | 5 => ("LandingTree$Chances", "nextHeld", "I", false)
  | 6 => ("LandingTree$Chances", "who", "[I", true)
  | 7 => ("LandingTree$Chances", "tenths", "[I", true)
  | 8 => ("LandingTree$Chances", "many", "I", false)
  | 9 => ("LandingTree$Chances", "plant", "I", false)
  | 10 => ("LandingTree$Chances", "pot", "I", false)
  | 11 => ("LandingTree$Chances", "wet", "I", false)
  | 12 => ("LandingTree$Chances", "kind", "I", false)
  | 13 => ("LandingTree$Chances", "bears", "I", false)
  | 14 => ("LandingTree$Chances", "under", "I", false)
  | 15 => ("LandingTree$Chances", "fixed", "I", false)
  | _ => ("LandingTree$Chances", "all", "J", false)
def tyX2 : Nat → FieldType := fun k => match k with
  | 0 => .array .long
  | 1 => .array .long
  | 2 => .array .int
  | 3 => .array .int
  | 4 => .int
  | 5 => .int
  | 6 => .array .int
  | 7 => .array .int
  | 8 => .int
  | 9 => .int
  | 10 => .int
  | 11 => .int
  | 12 => .int
  | 13 => .int
  | 14 => .int
  | 15 => .int
  | _ => .long
abbrev wsX20 : List Cond := u_ws RX2 TX2 17
theorem nmX2 : ∀ a, a < 17 → ∀ b, b < 17 → a ≠ b → (TX2 a).2.1 ≠ (TX2 b).2.1 := by decide +kernel
theorem tyX2_ok : ∀ k, k < 17 → parseFieldDescriptor (TX2 k).2.2.1 = some (tyX2 k) := by decide +kernel
abbrev cX2_init : ByteArray := prog_4_method_1_code
def yX2_init : MethodName := ⟨RX2, "<init>", "()V"⟩
abbrev cX2_take : ByteArray := prog_4_method_2_code
def yX2_take : MethodName := ⟨RX2, "take", "(LLandingTree$Landing;II)V"⟩
abbrev cX2_ask : ByteArray := prog_4_method_3_code
def yX2_ask : MethodName := ⟨RX2, "ask", "(I)V"⟩
abbrev cX2_onlyFirst : ByteArray := prog_4_method_4_code
def yX2_onlyFirst : MethodName := ⟨RX2, "onlyFirst", "(I)V"⟩
abbrev cX2_giveBelow : ByteArray := prog_4_method_5_code
def yX2_giveBelow : MethodName := ⟨RX2, "giveBelow", "(II)V"⟩
abbrev cX2_kindOf : ByteArray := prog_4_method_6_code
def yX2_kindOf : MethodName := ⟨RX2, "kindOf", "(II)I"⟩
abbrev cX2_stateOf : ByteArray := prog_4_method_7_code
def yX2_stateOf : MethodName := ⟨RX2, "stateOf", "(II)I"⟩
abbrev cX2_dryOf : ByteArray := prog_4_method_8_code
def yX2_dryOf : MethodName := ⟨RX2, "dryOf", "(I)I"⟩
abbrev cX2_drownedOf : ByteArray := prog_4_method_9_code
def yX2_drownedOf : MethodName := ⟨RX2, "drownedOf", "(I)I"⟩
abbrev cX2_isDead : ByteArray := prog_4_method_10_code
def yX2_isDead : MethodName := ⟨RX2, "isDead", "(I)Z"⟩
abbrev cX2_lives : ByteArray := prog_4_method_11_code
def yX2_lives : MethodName := ⟨RX2, "lives", "(LLandingTree$Landing;LLandingTree$Book;I)J"⟩
abbrev cX2_goOn : ByteArray := prog_4_method_12_code
def yX2_goOn : MethodName := ⟨RX2, "goOn", "()V"⟩
abbrev cX2_add : ByteArray := prog_4_method_13_code
def yX2_add : MethodName := ⟨RX2, "add", "(IJ)V"⟩
abbrev cX2_clear : ByteArray := prog_4_method_14_code
def yX2_clear : MethodName := ⟨RX2, "clear", "()V"⟩
abbrev cX2_lookAt : ByteArray := prog_4_method_15_code
def yX2_lookAt : MethodName := ⟨RX2, "lookAt", "(LLandingTree$Asker;I)V"⟩
abbrev cX2_comeBy : ByteArray := prog_4_method_16_code
def yX2_comeBy : MethodName := ⟨RX2, "comeBy", "(LLandingTree$Asker;LLandingTree$Text;I)V"⟩
abbrev cX2_gift : ByteArray := prog_4_method_17_code
def yX2_gift : MethodName := ⟨RX2, "gift", "(LLandingTree$Asker;LLandingTree$Text;I)I"⟩
abbrev cX2_goDry : ByteArray := prog_4_method_18_code
def yX2_goDry : MethodName := ⟨RX2, "goDry", "(LLandingTree$Asker;LLandingTree$Text;)V"⟩
abbrev cX2_behind : ByteArray := prog_4_method_19_code
def yX2_behind : MethodName := ⟨RX2, "behind", "(II)I"⟩
abbrev cX2_living : ByteArray := prog_4_method_20_code
def yX2_living : MethodName := ⟨RX2, "living", "()J"⟩
abbrev cX2_wetIs : ByteArray := prog_4_method_21_code
def yX2_wetIs : MethodName := ⟨RX2, "wetIs", "(I)J"⟩
def RX3 : String := "LandingTree$Landing"
def TX3 : u_T := fun k => match k with
  | 0 => ("LandingTree$Landing", "plants", "[LLandingTree$Plant;", true)
  | 1 => ("LandingTree$Landing", "people", "[LLandingTree$Person;", true)
  | 2 => ("LandingTree$Landing", "told", "I", false)
  | 3 => ("LandingTree$Landing", "day", "I", false)
  | 4 => ("LandingTree$Landing", "x", "I", false)
  | 5 => ("LandingTree$Landing", "given", "I", false)
  | 6 => ("LandingTree$Landing", "over", "I", false)
  | _ => ("LandingTree$Landing", "sunny", "I", false)
def tyX3 : Nat → FieldType := fun k => match k with
  | 0 => .array (.object "LandingTree$Plant")
  | 1 => .array (.object "LandingTree$Person")
  | 2 => .int
  | 3 => .int
  | 4 => .int
  | 5 => .int
  | 6 => .int
  | _ => .int
abbrev wsX30 : List Cond := u_ws RX3 TX3 8
theorem nmX3 : ∀ a, a < 8 → ∀ b, b < 8 → a ≠ b → (TX3 a).2.1 ≠ (TX3 b).2.1 := by decide +kernel
theorem tyX3_ok : ∀ k, k < 8 → parseFieldDescriptor (TX3 k).2.2.1 = some (tyX3 k) := by decide +kernel
abbrev cX3_init : ByteArray := prog_5_method_1_code
def yX3_init : MethodName := ⟨RX3, "<init>", "()V"⟩
abbrev cX3_copy : ByteArray := prog_5_method_2_code
def yX3_copy : MethodName := ⟨RX3, "copy", "(LLandingTree$Landing;)V"⟩
abbrev cX3_tellPerson : ByteArray := prog_5_method_3_code
def yX3_tellPerson : MethodName := ⟨RX3, "tellPerson", "(III)V"⟩
abbrev cX3_isPlant : ByteArray := prog_5_method_4_code
def yX3_isPlant : MethodName := ⟨RX3, "isPlant", "(I)Z"⟩
abbrev cX3_isAlive : ByteArray := prog_5_method_5_code
def yX3_isAlive : MethodName := ⟨RX3, "isAlive", "(I)Z"⟩
abbrev cX3_isPerson : ByteArray := prog_5_method_6_code
def yX3_isPerson : MethodName := ⟨RX3, "isPerson", "(I)Z"⟩
abbrev cX3_toldPlants : ByteArray := prog_5_method_7_code
def yX3_toldPlants : MethodName := ⟨RX3, "toldPlants", "()I"⟩
abbrev cX3_deadBits : ByteArray := prog_5_method_8_code
def yX3_deadBits : MethodName := ⟨RX3, "deadBits", "()I"⟩
abbrev cX3_toldPeople : ByteArray := prog_5_method_9_code
def yX3_toldPeople : MethodName := ⟨RX3, "toldPeople", "()I"⟩
abbrev cX3_fillLowest : ByteArray := prog_5_method_10_code
def yX3_fillLowest : MethodName := ⟨RX3, "fillLowest", "(I[I)V"⟩
abbrev cX3_draw : ByteArray := prog_5_method_11_code
def yX3_draw : MethodName := ⟨RX3, "draw", "()I"⟩
abbrev cX3_goBy : ByteArray := prog_5_method_12_code
def yX3_goBy : MethodName := ⟨RX3, "goBy", "(LLandingTree$Book;I)V"⟩
abbrev cX3_oneDay : ByteArray := prog_5_method_13_code
def yX3_oneDay : MethodName := ⟨RX3, "oneDay", "(LLandingTree$Book;)V"⟩
abbrev cX3_giveTo : ByteArray := prog_5_method_14_code
def yX3_giveTo : MethodName := ⟨RX3, "giveTo", "(LLandingTree$Book;II)V"⟩
abbrev cX3_endDay : ByteArray := prog_5_method_15_code
def yX3_endDay : MethodName := ⟨RX3, "endDay", "(LLandingTree$Book;IZ)V"⟩
def RX4 : String := "LandingTree$Person"
def TX4 : u_T := fun k => match k with
  | 0 => ("LandingTree$Person", "isTold", "Z", false)
  | 1 => ("LandingTree$Person", "tenths", "I", false)
  | 2 => ("LandingTree$Person", "rule", "I", false)
  | _ => ("LandingTree$Person", "given", "I", false)
def tyX4 : Nat → FieldType := fun k => match k with
  | 0 => .boolean
  | 1 => .int
  | 2 => .int
  | _ => .int
abbrev wsX40 : List Cond := u_ws RX4 TX4 4
theorem nmX4 : ∀ a, a < 4 → ∀ b, b < 4 → a ≠ b → (TX4 a).2.1 ≠ (TX4 b).2.1 := by decide +kernel
theorem tyX4_ok : ∀ k, k < 4 → parseFieldDescriptor (TX4 k).2.2.1 = some (tyX4 k) := by decide +kernel
abbrev cX4_init : ByteArray := prog_6_method_1_code
def yX4_init : MethodName := ⟨RX4, "<init>", "()V"⟩
abbrev cX4_copy : ByteArray := prog_6_method_2_code
def yX4_copy : MethodName := ⟨RX4, "copy", "(LLandingTree$Person;)V"⟩
def RX5 : String := "LandingTree$Plant"
def TX5 : u_T := fun k => match k with
  | 0 => ("LandingTree$Plant", "isTold", "Z", false)
  | 1 => ("LandingTree$Plant", "pot", "I", false)
  | 2 => ("LandingTree$Plant", "wet", "I", false)
  | 3 => ("LandingTree$Plant", "bears", "I", false)
  | 4 => ("LandingTree$Plant", "dry", "I", false)
  | 5 => ("LandingTree$Plant", "drowned", "I", false)
  | 6 => ("LandingTree$Plant", "hasCard", "Z", false)
  | 7 => ("LandingTree$Plant", "card", "I", false)
  | _ => ("LandingTree$Plant", "looks", "[I", true)
def tyX5 : Nat → FieldType := fun k => match k with
  | 0 => .boolean
  | 1 => .int
  | 2 => .int
  | 3 => .int
  | 4 => .int
  | 5 => .int
  | 6 => .boolean
  | 7 => .int
  | _ => .array .int
abbrev wsX50 : List Cond := u_ws RX5 TX5 9
theorem nmX5 : ∀ a, a < 9 → ∀ b, b < 9 → a ≠ b → (TX5 a).2.1 ≠ (TX5 b).2.1 := by decide +kernel
theorem tyX5_ok : ∀ k, k < 9 → parseFieldDescriptor (TX5 k).2.2.1 = some (tyX5 k) := by decide +kernel
abbrev cX5_init : ByteArray := prog_7_method_1_code
def yX5_init : MethodName := ⟨RX5, "<init>", "()V"⟩
abbrev cX5_tell : ByteArray := prog_7_method_2_code
def yX5_tell : MethodName := ⟨RX5, "tell", "(III)V"⟩
abbrev cX5_copy : ByteArray := prog_7_method_3_code
def yX5_copy : MethodName := ⟨RX5, "copy", "(LLandingTree$Plant;)V"⟩
abbrev cX5_isDead : ByteArray := prog_7_method_4_code
def yX5_isDead : MethodName := ⟨RX5, "isDead", "()Z"⟩
abbrev cX5_wetBy : ByteArray := prog_7_method_5_code
def yX5_wetBy : MethodName := ⟨RX5, "wetBy", "(I)I"⟩
abbrev cX5_dryBy : ByteArray := prog_7_method_6_code
def yX5_dryBy : MethodName := ⟨RX5, "dryBy", "(I)V"⟩
def RX6 : String := "LandingTree$Reader"
def TX6 : u_T := fun k => match k with
  | 0 => ("LandingTree$Reader", "tape", "LLandingTree$Tape;", true)
  | 1 => ("LandingTree$Reader", "into", "LLandingTree$Text;", false)
  | 2 => ("LandingTree$Reader", "at", "I", false)
  | 3 => ("LandingTree$Reader", "end", "I", false)
  | 4 => ("LandingTree$Reader", "open", "I", false)
  | _ => ("LandingTree$Reader", "fault", "I", false)
def tyX6 : Nat → FieldType := fun k => match k with
  | 0 => .object "LandingTree$Tape"
  | 1 => .object "LandingTree$Text"
  | 2 => .int
  | 3 => .int
  | 4 => .int
  | _ => .int
abbrev wsX60 : List Cond := u_ws RX6 TX6 6
theorem nmX6 : ∀ a, a < 6 → ∀ b, b < 6 → a ≠ b → (TX6 a).2.1 ≠ (TX6 b).2.1 := by decide +kernel
theorem tyX6_ok : ∀ k, k < 6 → parseFieldDescriptor (TX6 k).2.2.1 = some (tyX6 k) := by decide +kernel
abbrev cX6_init : ByteArray := prog_8_method_1_code
def yX6_init : MethodName := ⟨RX6, "<init>", "(LLandingTree$Tape;)V"⟩
abbrev cX6_read : ByteArray := prog_8_method_2_code
def yX6_read : MethodName := ⟨RX6, "read", "(ILjava/lang/String;)I"⟩
abbrev cX6_swap : ByteArray := prog_8_method_3_code
def yX6_swap : MethodName := ⟨RX6, "swap", "(LLandingTree$Text;)LLandingTree$Text;"⟩
abbrev cX6_peek : ByteArray := prog_8_method_4_code
def yX6_peek : MethodName := ⟨RX6, "peek", "()I"⟩
abbrev cX6_fail : ByteArray := prog_8_method_5_code
def yX6_fail : MethodName := ⟨RX6, "fail", "(I)Z"⟩
abbrev cX6_sign : ByteArray := prog_8_method_6_code
def yX6_sign : MethodName := ⟨RX6, "sign", "(C)Z"⟩
abbrev cX6_clause : ByteArray := prog_8_method_7_code
def yX6_clause : MethodName := ⟨RX6, "clause", "(Ljava/lang/String;)Z"⟩
abbrev cX6_enter : ByteArray := prog_8_method_8_code
def yX6_enter : MethodName := ⟨RX6, "enter", "()Z"⟩
abbrev cX6_bracket : ByteArray := prog_8_method_9_code
def yX6_bracket : MethodName := ⟨RX6, "bracket", "(C)Z"⟩
abbrev cX6_condition : ByteArray := prog_8_method_10_code
def yX6_condition : MethodName := ⟨RX6, "condition", "()Z"⟩
abbrev cX6_conditionPart : ByteArray := prog_8_method_11_code
def yX6_conditionPart : MethodName := ⟨RX6, "conditionPart", "()Z"⟩
abbrev cX6_piece : ByteArray := prog_8_method_12_code
def yX6_piece : MethodName := ⟨RX6, "piece", "()Z"⟩
abbrev cX6_comparison : ByteArray := prog_8_method_13_code
def yX6_comparison : MethodName := ⟨RX6, "comparison", "()Z"⟩
abbrev cX6_sum : ByteArray := prog_8_method_14_code
def yX6_sum : MethodName := ⟨RX6, "sum", "()Z"⟩
abbrev cX6_term : ByteArray := prog_8_method_15_code
def yX6_term : MethodName := ⟨RX6, "term", "()Z"⟩
abbrev cX6_stepOf : ByteArray := prog_8_method_16_code
def yX6_stepOf : MethodName := ⟨RX6, "stepOf", "(I)I"⟩
abbrev cX6_factor : ByteArray := prog_8_method_17_code
def yX6_factor : MethodName := ⟨RX6, "factor", "()Z"⟩
abbrev cX6_isDigit : ByteArray := prog_8_method_18_code
def yX6_isDigit : MethodName := ⟨RX6, "isDigit", "(I)Z"⟩
abbrev cX6_number : ByteArray := prog_8_method_19_code
def yX6_number : MethodName := ⟨RX6, "number", "()Z"⟩
def RX7 : String := "LandingTree$Rota"
def TX7 : u_T := fun k => match k with
  | 0 => ("LandingTree$Rota", "comers", "[I", true)
  | _ => ("LandingTree$Rota", "length", "I", false)
def tyX7 : Nat → FieldType := fun k => match k with
  | 0 => .array .int
  | _ => .int
abbrev wsX70 : List Cond := u_ws RX7 TX7 2
theorem nmX7 : ∀ a, a < 2 → ∀ b, b < 2 → a ≠ b → (TX7 a).2.1 ≠ (TX7 b).2.1 := by decide +kernel
theorem tyX7_ok : ∀ k, k < 2 → parseFieldDescriptor (TX7 k).2.2.1 = some (tyX7 k) := by decide +kernel
abbrev cX7_init : ByteArray := prog_9_method_1_code
def yX7_init : MethodName := ⟨RX7, "<init>", "()V"⟩
abbrev cX7_read : ByteArray := prog_9_method_2_code
def yX7_read : MethodName := ⟨RX7, "read", "(LLandingTree$Tape;ILLandingTree$Landing;)I"⟩
abbrev cX7_signAt : ByteArray := prog_9_method_3_code
def yX7_signAt : MethodName := ⟨RX7, "signAt", "(LLandingTree$Tape;II)I"⟩
abbrev cX7_isComer : ByteArray := prog_9_method_4_code
def yX7_isComer : MethodName := ⟨RX7, "isComer", "(I)Z"⟩
abbrev cX7_dayFault : ByteArray := prog_9_method_5_code
def yX7_dayFault : MethodName := ⟨RX7, "dayFault", "(IIII)I"⟩
abbrev cX7_add : ByteArray := prog_9_method_6_code
def yX7_add : MethodName := ⟨RX7, "add", "(II)V"⟩
abbrev cX7_daysOf : ByteArray := prog_9_method_7_code
def yX7_daysOf : MethodName := ⟨RX7, "daysOf", "(I)I"⟩
abbrev cX7_walk : ByteArray := prog_9_method_8_code
def yX7_walk : MethodName := ⟨RX7, "walk", "(LLandingTree$Landing;LLandingTree$Book;I)I"⟩
def RX8 : String := "LandingTree$Tape"
def TX8 : u_T := fun k => match k with
  | 0 => ("LandingTree$Tape", "bytes", "[I", true)
  | _ => ("LandingTree$Tape", "length", "I", false)
def tyX8 : Nat → FieldType := fun k => match k with
  | 0 => .array .int
  | _ => .int
abbrev wsX80 : List Cond := u_ws RX8 TX8 2
theorem nmX8 : ∀ a, a < 2 → ∀ b, b < 2 → a ≠ b → (TX8 a).2.1 ≠ (TX8 b).2.1 := by decide +kernel
theorem tyX8_ok : ∀ k, k < 2 → parseFieldDescriptor (TX8 k).2.2.1 = some (tyX8 k) := by decide +kernel
abbrev cX8_init : ByteArray := prog_10_method_1_code
def yX8_init : MethodName := ⟨RX8, "<init>", "()V"⟩
abbrev cX8_hasRoom : ByteArray := prog_10_method_2_code
def yX8_hasRoom : MethodName := ⟨RX8, "hasRoom", "(I)Z"⟩
abbrev cX8_add : ByteArray := prog_10_method_3_code
def yX8_add : MethodName := ⟨RX8, "add", "(I)V"⟩
abbrev cX8_at : ByteArray := prog_10_method_4_code
def yX8_at : MethodName := ⟨RX8, "at", "(I)I"⟩
abbrev cX8_number : ByteArray := prog_10_method_5_code
def yX8_number : MethodName := ⟨RX8, "number", "(I)I"⟩
def RX9 : String := "LandingTree$Text"
def TX9 : u_T := fun k => match k with
  | 0 => ("LandingTree$Text", "steps", "[I", true)
  | 1 => ("LandingTree$Text", "length", "I", false)
  | 2 => ("LandingTree$Text", "letters", "[C", true)
  | 3 => ("LandingTree$Text", "howMany", "[I", true)
  | 4 => ("LandingTree$Text", "when", "[I", true)
  | _ => ("LandingTree$Text", "clauses", "I", false)
def tyX9 : Nat → FieldType := fun k => match k with
  | 0 => .array .int
  | 1 => .int
  | 2 => .array .char
  | 3 => .array .int
  | 4 => .array .int
  | _ => .int
abbrev wsX90 : List Cond := u_ws RX9 TX9 6
theorem nmX9 : ∀ a, a < 6 → ∀ b, b < 6 → a ≠ b → (TX9 a).2.1 ≠ (TX9 b).2.1 := by decide +kernel
theorem tyX9_ok : ∀ k, k < 6 → parseFieldDescriptor (TX9 k).2.2.1 = some (tyX9 k) := by decide +kernel
abbrev cX9_init : ByteArray := prog_11_method_1_code
def yX9_init : MethodName := ⟨RX9, "<init>", "()V"⟩
abbrev cX9_empty : ByteArray := prog_11_method_2_code
def yX9_empty : MethodName := ⟨RX9, "empty", "()V"⟩
abbrev cX9_put : ByteArray := prog_11_method_3_code
def yX9_put : MethodName := ⟨RX9, "put", "(II)V"⟩
abbrev cX9_land : ByteArray := prog_11_method_4_code
def yX9_land : MethodName := ⟨RX9, "land", "(I)V"⟩
abbrev cX9_jump : ByteArray := prog_11_method_5_code
def yX9_jump : MethodName := ⟨RX9, "jump", "(II)I"⟩
abbrev cX9_begin : ByteArray := prog_11_method_6_code
def yX9_begin : MethodName := ⟨RX9, "begin", "(C)V"⟩
abbrev cX9_beginWhen : ByteArray := prog_11_method_7_code
def yX9_beginWhen : MethodName := ⟨RX9, "beginWhen", "()V"⟩
abbrev cX9_end : ByteArray := prog_11_method_8_code
def yX9_end : MethodName := ⟨RX9, "end", "()V"⟩
def RX10 : String := "LandingTree$Week"
def TX10 : u_T := fun k => match k with
  | 0 => ("LandingTree$Week", "levels", "[LLandingTree$Plant;", true)
  | 1 => ("LandingTree$Week", "who", "[I", true)
  | 2 => ("LandingTree$Week", "row", "[I", true)
  | 3 => ("LandingTree$Week", "best", "[I", true)
  | 4 => ("LandingTree$Week", "many", "I", false)
  | 5 => ("LandingTree$Week", "plant", "I", false)
  | 6 => ("LandingTree$Week", "comings", "I", false)
  | _ => ("LandingTree$Week", "wet", "I", false)
def tyX10 : Nat → FieldType := fun k => match k with
  | 0 => .array (.object "LandingTree$Plant")
  | 1 => .array .int
  | 2 => .array .int
  | 3 => .array .int
  | 4 => .int
  | 5 => .int
  | 6 => .int
  | _ => .int
abbrev wsX100 : List Cond := u_ws RX10 TX10 8
theorem nmX10 : ∀ a, a < 8 → ∀ b, b < 8 → a ≠ b → (TX10 a).2.1 ≠ (TX10 b).2.1 := by decide +kernel
theorem tyX10_ok : ∀ k, k < 8 → parseFieldDescriptor (TX10 k).2.2.1 = some (tyX10 k) := by decide +kernel
abbrev cX10_init : ByteArray := prog_12_method_1_code
def yX10_init : MethodName := ⟨RX10, "<init>", "()V"⟩
abbrev cX10_find : ByteArray := prog_12_method_2_code
def yX10_find : MethodName := ⟨RX10, "find", "(LLandingTree$Landing;LLandingTree$Book;II)Z"⟩
abbrev cX10_comer : ByteArray := prog_12_method_3_code
def yX10_comer : MethodName := ⟨RX10, "comer", "(I)I"⟩
abbrev cX10_takeRow : ByteArray := prog_12_method_4_code
def yX10_takeRow : MethodName := ⟨RX10, "takeRow", "(II)V"⟩
abbrev cX10_go : ByteArray := prog_12_method_5_code
def yX10_go : MethodName := ⟨RX10, "go", "(LLandingTree$Week;LLandingTree$Landing;LLandingTree$Book;II)V"⟩
def RX11 : String := "LandingTree"
def TX11 : u_T := fun k => match k with
  | 0 => ("LandingTree", "now", "LLandingTree$Landing;", true)
  | 1 => ("LandingTree", "kept", "LLandingTree$Landing;", true)
  | 2 => ("LandingTree", "trial", "LLandingTree$Landing;", true)
  | 3 => ("LandingTree", "isKept", "Z", false)
  | 4 => ("LandingTree", "tape", "LLandingTree$Tape;", true)
  | 5 => ("LandingTree", "book", "LLandingTree$Book;", true)
  | 6 => ("LandingTree", "chances", "LLandingTree$Chances;", true)
  | 7 => ("LandingTree", "search", "LLandingTree$Week;", true)
  | 8 => ("LandingTree", "roster", "LLandingTree$Rota;", true)
  | 9 => ("LandingTree", "lasting", "[I", true)
  | 10 => ("LandingTree", "shares", "[I", true)
  | _ => ("LandingTree", "odds", "[J", true)
def tyX11 : Nat → FieldType := fun k => match k with
  | 0 => .object "LandingTree$Landing"
  | 1 => .object "LandingTree$Landing"
  | 2 => .object "LandingTree$Landing"
  | 3 => .boolean
  | 4 => .object "LandingTree$Tape"
  | 5 => .object "LandingTree$Book"
  | 6 => .object "LandingTree$Chances"
  | 7 => .object "LandingTree$Week"
  | 8 => .object "LandingTree$Rota"
  | 9 => .array .int
  | 10 => .array .int
  | _ => .array .long
abbrev wsX110 : List Cond := u_ws RX11 TX11 12
theorem nmX11 : ∀ a, a < 12 → ∀ b, b < 12 → a ≠ b → (TX11 a).2.1 ≠ (TX11 b).2.1 := by decide +kernel
theorem tyX11_ok : ∀ k, k < 12 → parseFieldDescriptor (TX11 k).2.2.1 = some (tyX11 k) := by decide +kernel
abbrev cX11_init : ByteArray := prog_1_method_1_code
def yX11_init : MethodName := ⟨RX11, "<init>", "()V"⟩
abbrev cX11_plant : ByteArray := prog_1_method_2_code
def yX11_plant : MethodName := ⟨RX11, "plant", "(IIII)Z"⟩
abbrev cX11_person : ByteArray := prog_1_method_3_code
def yX11_person : MethodName := ⟨RX11, "person", "(III)Z"⟩
abbrev cX11_card : ByteArray := prog_1_method_4_code
def yX11_card : MethodName := ⟨RX11, "card", "(IZ)Z"⟩
abbrev cX11_pour : ByteArray := prog_1_method_5_code
def yX11_pour : MethodName := ⟨RX11, "pour", "(II)I"⟩
abbrev cX11_feed : ByteArray := prog_1_method_6_code
def yX11_feed : MethodName := ⟨RX11, "feed", "(IIIII)I"⟩
abbrev cX11_law : ByteArray := prog_1_method_7_code
def yX11_law : MethodName := ⟨RX11, "law", "(I)I"⟩
abbrev cX11_rule : ByteArray := prog_1_method_8_code
def yX11_rule : MethodName := ⟨RX11, "rule", "(II)I"⟩
abbrev cX11_days : ByteArray := prog_1_method_9_code
def yX11_days : MethodName := ⟨RX11, "days", "(I)I"⟩
abbrev cX11_tried : ByteArray := prog_1_method_10_code
def yX11_tried : MethodName := ⟨RX11, "tried", "(II)I"⟩
abbrev cX11_canTry : ByteArray := prog_1_method_11_code
def yX11_canTry : MethodName := ⟨RX11, "canTry", "(I)Z"⟩
abbrev cX11_plantIs : ByteArray := prog_1_method_12_code
def yX11_plantIs : MethodName := ⟨RX11, "plantIs", "(II)I"⟩
abbrev cX11_cardOf : ByteArray := prog_1_method_13_code
def yX11_cardOf : MethodName := ⟨RX11, "cardOf", "(LLandingTree$Plant;)I"⟩
abbrev cX11_gives : ByteArray := prog_1_method_14_code
def yX11_gives : MethodName := ⟨RX11, "gives", "(II)I"⟩
abbrev cX11_exactly : ByteArray := prog_1_method_15_code
def yX11_exactly : MethodName := ⟨RX11, "exactly", "(IIII)J"⟩
abbrev cX11_chance : ByteArray := prog_1_method_16_code
def yX11_chance : MethodName := ⟨RX11, "chance", "(IIII)J"⟩
abbrev cX11_toAsk : ByteArray := prog_1_method_17_code
def yX11_toAsk : MethodName := ⟨RX11, "toAsk", "(IIII)J"⟩
abbrev cX11_few : ByteArray := prog_1_method_18_code
def yX11_few : MethodName := ⟨RX11, "few", "(IIII)I"⟩
abbrev cX11_pot : ByteArray := prog_1_method_19_code
def yX11_pot : MethodName := ⟨RX11, "pot", "(IIII)J"⟩
abbrev cX11_ruleFor : ByteArray := prog_1_method_20_code
def yX11_ruleFor : MethodName := ⟨RX11, "ruleFor", "(IIIII)J"⟩
abbrev cX11_lasts : ByteArray := prog_1_method_21_code
def yX11_lasts : MethodName := ⟨RX11, "lasts", "(II)I"⟩
abbrev cX11_needs : ByteArray := prog_1_method_22_code
def yX11_needs : MethodName := ⟨RX11, "needs", "(II)I"⟩
abbrev cX11_week : ByteArray := prog_1_method_23_code
def yX11_week : MethodName := ⟨RX11, "week", "(III)I"⟩
abbrev cX11_movesOut : ByteArray := prog_1_method_24_code
def yX11_movesOut : MethodName := ⟨RX11, "movesOut", "(IIII)J"⟩
abbrev cX11_spread : ByteArray := prog_1_method_25_code
def yX11_spread : MethodName := ⟨RX11, "spread", "(II)I"⟩
abbrev cX11_comes : ByteArray := prog_1_method_26_code
def yX11_comes : MethodName := ⟨RX11, "comes", "(III)J"⟩
abbrev cX11_share : ByteArray := prog_1_method_27_code
def yX11_share : MethodName := ⟨RX11, "share", "(II)I"⟩
abbrev cX11_rota : ByteArray := prog_1_method_28_code
def yX11_rota : MethodName := ⟨RX11, "rota", "(III)I"⟩
abbrev cX11_alone : ByteArray := prog_1_method_29_code
def yX11_alone : MethodName := ⟨RX11, "alone", "(II)I"⟩
abbrev cX11_whoDid : ByteArray := prog_1_method_30_code
def yX11_whoDid : MethodName := ⟨RX11, "whoDid", "(IIIII)J"⟩
abbrev cX11_can : ByteArray := prog_1_method_31_code
def yX11_can : MethodName := ⟨RX11, "can", "(IIII)J"⟩
abbrev cX11_seed : ByteArray := prog_1_method_32_code
def yX11_seed : MethodName := ⟨RX11, "seed", "(I)Z"⟩
abbrev cX11_keep : ByteArray := prog_1_method_33_code
def yX11_keep : MethodName := ⟨RX11, "keep", "()I"⟩
abbrev cX11_undo : ByteArray := prog_1_method_34_code
def yX11_undo : MethodName := ⟨RX11, "undo", "()Z"⟩
abbrev cX11_check : ByteArray := prog_1_method_35_code
def yX11_check : MethodName := ⟨RX11, "check", "(II)I"⟩
abbrev cX11_count : ByteArray := prog_1_method_36_code
def yX11_count : MethodName := ⟨RX11, "count", "(I)I"⟩
abbrev cX11_countPerson : ByteArray := prog_1_method_37_code
def yX11_countPerson : MethodName := ⟨RX11, "countPerson", "(II)I"⟩
abbrev cX11_isWithin : ByteArray := prog_1_method_38_code
def yX11_isWithin : MethodName := ⟨RX11, "isWithin", "(III)Z"⟩
abbrev cX11_isPlace : ByteArray := prog_1_method_39_code
def yX11_isPlace : MethodName := ⟨RX11, "isPlace", "(II)Z"⟩
abbrev cX11_areTold : ByteArray := prog_1_method_40_code
def yX11_areTold : MethodName := ⟨RX11, "areTold", "(I)Z"⟩
abbrev cX11_canReckon : ByteArray := prog_1_method_41_code
def yX11_canReckon : MethodName := ⟨RX11, "canReckon", "(III)Z"⟩
abbrev cX11_livesAsItIs : ByteArray := prog_1_method_42_code
def yX11_livesAsItIs : MethodName := ⟨RX11, "livesAsItIs", "(III)J"⟩
abbrev cX11_lastsWith : ByteArray := prog_1_method_43_code
def yX11_lastsWith : MethodName := ⟨RX11, "lastsWith", "(II)I"⟩
abbrev cX11_fillLasting : ByteArray := prog_1_method_44_code
def yX11_fillLasting : MethodName := ⟨RX11, "fillLasting", "(I)V"⟩
abbrev cX11_spreadBest : ByteArray := prog_1_method_45_code
def yX11_spreadBest : MethodName := ⟨RX11, "spreadBest", "(I)I"⟩
abbrev cX11_least : ByteArray := prog_1_method_46_code
def yX11_least : MethodName := ⟨RX11, "least", "(III)I"⟩
abbrev cX11_theOne : ByteArray := prog_1_method_47_code
def yX11_theOne : MethodName := ⟨RX11, "theOne", "()I"⟩
abbrev cX11_rotaOn : ByteArray := prog_1_method_48_code
def yX11_rotaOn : MethodName := ⟨RX11, "rotaOn", "(II)I"⟩
abbrev cX11_nobodyGains : ByteArray := prog_1_method_49_code
def yX11_nobodyGains : MethodName := ⟨RX11, "nobodyGains", "(II)Z"⟩
abbrev cX11_worthOf : ByteArray := prog_1_method_50_code
def yX11_worthOf : MethodName := ⟨RX11, "worthOf", "(II)I"⟩
abbrev cX11_evenTenths : ByteArray := prog_1_method_51_code
def yX11_evenTenths : MethodName := ⟨RX11, "evenTenths", "(I)I"⟩
abbrev cX11_fits : ByteArray := prog_1_method_52_code
def yX11_fits : MethodName := ⟨RX11, "fits", "(II)Z"⟩
abbrev cX11_fillOdds : ByteArray := prog_1_method_53_code
def yX11_fillOdds : MethodName := ⟨RX11, "fillOdds", "(I)Z"⟩
abbrev cX11_power : ByteArray := prog_1_method_54_code
def yX11_power : MethodName := ⟨RX11, "power", "(I)J"⟩
abbrev cX11_part : ByteArray := prog_1_method_55_code
def yX11_part : MethodName := ⟨RX11, "part", "(JJI)J"⟩
def RX12 : String := "LandingTreeModel"
def TX12 : u_T := fun k => match k with
  | 0 => ("LandingTreeModel", "now", "[I", true)
  | 1 => ("LandingTreeModel", "aside", "[I", true)
  | 2 => ("LandingTreeModel", "kept", "[I", true)
  | 3 => ("LandingTreeModel", "tape", "[B", true)
  | 4 => ("LandingTreeModel", "taped", "I", false)
  | 5 => ("LandingTreeModel", "place0", "I", false)
  | 6 => ("LandingTreeModel", "length0", "I", false)
  | 7 => ("LandingTreeModel", "fault", "I", false)
  | 8 => ("LandingTreeModel", "number0", "I", false)
  | 9 => ("LandingTreeModel", "open", "I", false)
  | 10 => ("LandingTreeModel", "codeMany", "I", false)
  | 11 => ("LandingTreeModel", "waiting", "I", false)
  | 12 => ("LandingTreeModel", "saidMany", "I", false)
  | 13 => ("LandingTreeModel", "said", "[I", true)
  | 14 => ("LandingTreeModel", "waitsAt", "[I", true)
  | 15 => ("LandingTreeModel", "saidLetter", "[I", true)
  | 16 => ("LandingTreeModel", "saidFrom", "[I", true)
  | 17 => ("LandingTreeModel", "saidHalf", "[I", true)
  | 18 => ("LandingTreeModel", "saidTo", "[I", true)
  | 19 => ("LandingTreeModel", "codes", "[I", true)
  | 20 => ("LandingTreeModel", "clauseMany", "[I", true)
  | 21 => ("LandingTreeModel", "clauseOf", "[I", true)
  | 22 => ("LandingTreeModel", "codeFrom", "[I", true)
  | 23 => ("LandingTreeModel", "codeHalf", "[I", true)
  | 24 => ("LandingTreeModel", "codeTo", "[I", true)
  | 25 => ("LandingTreeModel", "stack", "[I", true)
  | 26 => ("LandingTreeModel", "facts", "[I", true)
  | 27 => ("LandingTreeModel", "cupsNow", "I", false)
  | 28 => ("LandingTreeModel", "overNow", "I", false)
  | 29 => ("LandingTreeModel", "sunnyNow", "I", false)
  | 30 => ("LandingTreeModel", "givenNow", "[I", true)
  | 31 => ("LandingTreeModel", "ruleCups", "I", false)
  | 32 => ("LandingTreeModel", "ruleBelow", "I", false)
  | 33 => ("LandingTreeModel", "thePlant", "I", false)
  | 34 => ("LandingTreeModel", "theSeen", "I", false)
  | 35 => ("LandingTreeModel", "someOf", "[I", true)
  | 36 => ("LandingTreeModel", "someTenths", "[I", true)
  | 37 => ("LandingTreeModel", "weightOf", "[J", true)
  | 38 => ("LandingTreeModel", "weightThen", "[J", true)
  | 39 => ("LandingTreeModel", "deadWeight", "J", false)
  | 40 => ("LandingTreeModel", "wetNow", "[J", true)
  | 41 => ("LandingTreeModel", "wetThen", "[J", true)
  | 42 => ("LandingTreeModel", "lastsBy", "[I", true)
  | 43 => ("LandingTreeModel", "spreadNow", "[I", true)
  | 44 => ("LandingTreeModel", "spreadBest", "[I", true)
  | 45 => ("LandingTreeModel", "comeMany", "[J", true)
  | 46 => ("LandingTreeModel", "rotaMany", "I", false)
  | 47 => ("LandingTreeModel", "weeks", "I", false)
  | 48 => ("LandingTreeModel", "rotaWho", "[I", true)
  | 49 => ("LandingTreeModel", "rotaDead", "I", false)
  | 50 => ("LandingTreeModel", "rotaWet", "I", false)
  | 51 => ("LandingTreeModel", "costOf", "[I", true)
  | 52 => ("LandingTreeModel", "worthOf", "[I", true)
  | _ => ("LandingTreeModel", "isKept", "Z", false)
def tyX12 : Nat → FieldType := fun k => match k with
  | 0 => .array .int
  | 1 => .array .int
  | 2 => .array .int
  | 3 => .array .byte
  | 4 => .int
  | 5 => .int
  | 6 => .int
  | 7 => .int
  | 8 => .int
  | 9 => .int
  | 10 => .int
  | 11 => .int
  | 12 => .int
  | 13 => .array .int
  | 14 => .array .int
  | 15 => .array .int
  | 16 => .array .int
  | 17 => .array .int
  | 18 => .array .int
  | 19 => .array .int
  | 20 => .array .int
  | 21 => .array .int
  | 22 => .array .int
  | 23 => .array .int
  | 24 => .array .int
  | 25 => .array .int
  | 26 => .array .int
  | 27 => .int
  | 28 => .int
  | 29 => .int
  | 30 => .array .int
  | 31 => .int
  | 32 => .int
  | 33 => .int
  | 34 => .int
  | 35 => .array .int
  | 36 => .array .int
  | 37 => .array .long
  | 38 => .array .long
  | 39 => .long
  | 40 => .array .long
  | 41 => .array .long
  | 42 => .array .int
  | 43 => .array .int
  | 44 => .array .int
  | 45 => .array .long
  | 46 => .int
  | 47 => .int
  | 48 => .array .int
  | 49 => .int
  | 50 => .int
  | 51 => .array .int
  | 52 => .array .int
  | _ => .boolean
abbrev wsX120 : List Cond := u_ws RX12 TX12 54
theorem nmX12 : ∀ a, a < 54 → ∀ b, b < 54 → a ≠ b → (TX12 a).2.1 ≠ (TX12 b).2.1 := by decide +kernel
theorem tyX12_ok : ∀ k, k < 54 → parseFieldDescriptor (TX12 k).2.2.1 = some (tyX12 k) := by decide +kernel
abbrev cX12_init : ByteArray := prog_14_method_1_code
def yX12_init : MethodName := ⟨RX12, "<init>", "()V"⟩
abbrev cX12_in : ByteArray := prog_14_method_2_code
def yX12_in : MethodName := ⟨RX12, "in", "(III)Z"⟩
abbrev cX12_min : ByteArray := prog_14_method_3_code
def yX12_min : MethodName := ⟨RX12, "min", "(II)I"⟩
abbrev cX12_max : ByteArray := prog_14_method_4_code
def yX12_max : MethodName := ⟨RX12, "max", "(II)I"⟩
abbrev cX12_has : ByteArray := prog_14_method_5_code
def yX12_has : MethodName := ⟨RX12, "has", "(II)Z"⟩
abbrev cX12_bits : ByteArray := prog_14_method_6_code
def yX12_bits : MethodName := ⟨RX12, "bits", "(I)I"⟩
abbrev cX12_copies : ByteArray := prog_14_method_7_code
def yX12_copies : MethodName := ⟨RX12, "copies", "([I[I)V"⟩
abbrev cX12_tens : ByteArray := prog_14_method_8_code
def yX12_tens : MethodName := ⟨RX12, "tens", "(I)J"⟩
abbrev cX12_gcd : ByteArray := prog_14_method_9_code
def yX12_gcd : MethodName := ⟨RX12, "gcd", "(JJ)J"⟩
abbrev cX12_through : ByteArray := prog_14_method_10_code
def yX12_through : MethodName := ⟨RX12, "through", "(JJI)J"⟩
abbrev cX12_isPlant : ByteArray := prog_14_method_11_code
def yX12_isPlant : MethodName := ⟨RX12, "isPlant", "(I)Z"⟩
abbrev cX12_lives : ByteArray := prog_14_method_12_code
def yX12_lives : MethodName := ⟨RX12, "lives", "(I)Z"⟩
abbrev cX12_isPerson : ByteArray := prog_14_method_13_code
def yX12_isPerson : MethodName := ⟨RX12, "isPerson", "(I)Z"⟩
abbrev cX12_plant : ByteArray := prog_14_method_14_code
def yX12_plant : MethodName := ⟨RX12, "plant", "(IIII)Z"⟩
abbrev cX12_person : ByteArray := prog_14_method_15_code
def yX12_person : MethodName := ⟨RX12, "person", "(III)Z"⟩
abbrev cX12_card : ByteArray := prog_14_method_16_code
def yX12_card : MethodName := ⟨RX12, "card", "(IZ)Z"⟩
abbrev cX12_pour : ByteArray := prog_14_method_17_code
def yX12_pour : MethodName := ⟨RX12, "pour", "(II)I"⟩
abbrev cX12_types : ByteArray := prog_14_method_18_code
def yX12_types : MethodName := ⟨RX12, "types", "(I)V"⟩
abbrev cX12_feed : ByteArray := prog_14_method_19_code
def yX12_feed : MethodName := ⟨RX12, "feed", "(IIIII)I"⟩
abbrev cX12_here : ByteArray := prog_14_method_20_code
def yX12_here : MethodName := ⟨RX12, "here", "()I"⟩
abbrev cX12_isDigit : ByteArray := prog_14_method_21_code
def yX12_isDigit : MethodName := ⟨RX12, "isDigit", "()Z"⟩
abbrev cX12_wrongAt : ByteArray := prog_14_method_22_code
def yX12_wrongAt : MethodName := ⟨RX12, "wrongAt", "(II)Z"⟩
abbrev cX12_takes : ByteArray := prog_14_method_23_code
def yX12_takes : MethodName := ⟨RX12, "takes", "(I)Z"⟩
abbrev cX12_readsNumber : ByteArray := prog_14_method_24_code
def yX12_readsNumber : MethodName := ⟨RX12, "readsNumber", "()Z"⟩
abbrev cX12_notes : ByteArray := prog_14_method_25_code
def yX12_notes : MethodName := ⟨RX12, "notes", "(II)V"⟩
abbrev cX12_opens : ByteArray := prog_14_method_26_code
def yX12_opens : MethodName := ⟨RX12, "opens", "(I)Z"⟩
abbrev cX12_waitTop : ByteArray := prog_14_method_27_code
def yX12_waitTop : MethodName := ⟨RX12, "waitTop", "()I"⟩
abbrev cX12_factOf : ByteArray := prog_14_method_28_code
def yX12_factOf : MethodName := ⟨RX12, "factOf", "(I)I"⟩
abbrev cX12_sumSign : ByteArray := prog_14_method_29_code
def yX12_sumSign : MethodName := ⟨RX12, "sumSign", "(I)I"⟩
abbrev cX12_closesSums : ByteArray := prog_14_method_30_code
def yX12_closesSums : MethodName := ⟨RX12, "closesSums", "(Z)V"⟩
abbrev cX12_readsFactor : ByteArray := prog_14_method_31_code
def yX12_readsFactor : MethodName := ⟨RX12, "readsFactor", "()Z"⟩
abbrev cX12_hasOpenSum : ByteArray := prog_14_method_32_code
def yX12_hasOpenSum : MethodName := ⟨RX12, "hasOpenSum", "(I)Z"⟩
abbrev cX12_readsSum : ByteArray := prog_14_method_33_code
def yX12_readsSum : MethodName := ⟨RX12, "readsSum", "()Z"⟩
abbrev cX12_endsPiece : ByteArray := prog_14_method_34_code
def yX12_endsPiece : MethodName := ⟨RX12, "endsPiece", "()V"⟩
abbrev cX12_lands : ByteArray := prog_14_method_35_code
def yX12_lands : MethodName := ⟨RX12, "lands", "(Z)V"⟩
abbrev cX12_jumps : ByteArray := prog_14_method_36_code
def yX12_jumps : MethodName := ⟨RX12, "jumps", "(I)V"⟩
abbrev cX12_readsCompared : ByteArray := prog_14_method_37_code
def yX12_readsCompared : MethodName := ⟨RX12, "readsCompared", "()Z"⟩
abbrev cX12_readsCondition : ByteArray := prog_14_method_38_code
def yX12_readsCondition : MethodName := ⟨RX12, "readsCondition", "()Z"⟩
abbrev cX12_isClause : ByteArray := prog_14_method_39_code
def yX12_isClause : MethodName := ⟨RX12, "isClause", "(II)Z"⟩
abbrev cX12_readsClause : ByteArray := prog_14_method_40_code
def yX12_readsClause : MethodName := ⟨RX12, "readsClause", "(I)Z"⟩
abbrev cX12_reads : ByteArray := prog_14_method_41_code
def yX12_reads : MethodName := ⟨RX12, "reads", "(II)I"⟩
abbrev cX12_law : ByteArray := prog_14_method_42_code
def yX12_law : MethodName := ⟨RX12, "law", "(I)I"⟩
abbrev cX12_rule : ByteArray := prog_14_method_43_code
def yX12_rule : MethodName := ⟨RX12, "rule", "(II)I"⟩
abbrev cX12_reckon : ByteArray := prog_14_method_44_code
def yX12_reckon : MethodName := ⟨RX12, "reckon", "(III)I"⟩
abbrev cX12_comesTo : ByteArray := prog_14_method_45_code
def yX12_comesTo : MethodName := ⟨RX12, "comesTo", "(II)I"⟩
abbrev cX12_byText : ByteArray := prog_14_method_46_code
def yX12_byText : MethodName := ⟨RX12, "byText", "(III)I"⟩
abbrev cX12_feels : ByteArray := prog_14_method_47_code
def yX12_feels : MethodName := ⟨RX12, "feels", "()V"⟩
abbrev cX12_feelsPlant : ByteArray := prog_14_method_48_code
def yX12_feelsPlant : MethodName := ⟨RX12, "feelsPlant", "(I)V"⟩
abbrev cX12_cupsOf : ByteArray := prog_14_method_49_code
def yX12_cupsOf : MethodName := ⟨RX12, "cupsOf", "(II)I"⟩
abbrev cX12_gives : ByteArray := prog_14_method_50_code
def yX12_gives : MethodName := ⟨RX12, "gives", "(II)I"⟩
abbrev cX12_draws : ByteArray := prog_14_method_51_code
def yX12_draws : MethodName := ⟨RX12, "draws", "()I"⟩
abbrev cX12_waters : ByteArray := prog_14_method_52_code
def yX12_waters : MethodName := ⟨RX12, "waters", "(II)V"⟩
abbrev cX12_dries : ByteArray := prog_14_method_53_code
def yX12_dries : MethodName := ⟨RX12, "dries", "(IZ)V"⟩
abbrev cX12_dayGoes : ByteArray := prog_14_method_54_code
def yX12_dayGoes : MethodName := ⟨RX12, "dayGoes", "()V"⟩
abbrev cX12_daysGo : ByteArray := prog_14_method_55_code
def yX12_daysGo : MethodName := ⟨RX12, "daysGo", "(I)V"⟩
abbrev cX12_days : ByteArray := prog_14_method_56_code
def yX12_days : MethodName := ⟨RX12, "days", "(I)I"⟩
abbrev cX12_tried : ByteArray := prog_14_method_57_code
def yX12_tried : MethodName := ⟨RX12, "tried", "(II)I"⟩
abbrev cX12_plantIs : ByteArray := prog_14_method_58_code
def yX12_plantIs : MethodName := ⟨RX12, "plantIs", "(II)I"⟩
abbrev cX12_laysSome : ByteArray := prog_14_method_59_code
def yX12_laysSome : MethodName := ⟨RX12, "laysSome", "(I)Z"⟩
abbrev cX12_stateOf : ByteArray := prog_14_method_60_code
def yX12_stateOf : MethodName := ⟨RX12, "stateOf", "(III)I"⟩
abbrev cX12_dryIn : ByteArray := prog_14_method_61_code
def yX12_dryIn : MethodName := ⟨RX12, "dryIn", "(I)I"⟩
abbrev cX12_drownedIn : ByteArray := prog_14_method_62_code
def yX12_drownedIn : MethodName := ⟨RX12, "drownedIn", "(I)I"⟩
abbrev cX12_feelsState : ByteArray := prog_14_method_63_code
def yX12_feelsState : MethodName := ⟨RX12, "feelsState", "(II)V"⟩
abbrev cX12_cupsIn : ByteArray := prog_14_method_64_code
def yX12_cupsIn : MethodName := ⟨RX12, "cupsIn", "(III)I"⟩
abbrev cX12_comesBy : ByteArray := prog_14_method_65_code
def yX12_comesBy : MethodName := ⟨RX12, "comesBy", "(II)V"⟩
abbrev cX12_sunBy : ByteArray := prog_14_method_66_code
def yX12_sunBy : MethodName := ⟨RX12, "sunBy", "(IIZ)V"⟩
abbrev cX12_goesThrough : ByteArray := prog_14_method_67_code
def yX12_goesThrough : MethodName := ⟨RX12, "goesThrough", "(II)J"⟩
abbrev cX12_canGo : ByteArray := prog_14_method_68_code
def yX12_canGo : MethodName := ⟨RX12, "canGo", "(III)Z"⟩
abbrev cX12_exactly : ByteArray := prog_14_method_69_code
def yX12_exactly : MethodName := ⟨RX12, "exactly", "(IIII)J"⟩
abbrev cX12_chance : ByteArray := prog_14_method_70_code
def yX12_chance : MethodName := ⟨RX12, "chance", "(IIII)J"⟩
abbrev cX12_toAsk : ByteArray := prog_14_method_71_code
def yX12_toAsk : MethodName := ⟨RX12, "toAsk", "(IIII)J"⟩
abbrev cX12_few : ByteArray := prog_14_method_72_code
def yX12_few : MethodName := ⟨RX12, "few", "(IIII)I"⟩
abbrev cX12_pot : ByteArray := prog_14_method_73_code
def yX12_pot : MethodName := ⟨RX12, "pot", "(IIII)J"⟩
abbrev cX12_ruleFor : ByteArray := prog_14_method_74_code
def yX12_ruleFor : MethodName := ⟨RX12, "ruleFor", "(IIIII)J"⟩
abbrev cX12_lastsWith : ByteArray := prog_14_method_75_code
def yX12_lastsWith : MethodName := ⟨RX12, "lastsWith", "(II)I"⟩
abbrev cX12_lasts : ByteArray := prog_14_method_76_code
def yX12_lasts : MethodName := ⟨RX12, "lasts", "(II)I"⟩
abbrev cX12_leastBy : ByteArray := prog_14_method_77_code
def yX12_leastBy : MethodName := ⟨RX12, "leastBy", "()I"⟩
abbrev cX12_mayBe : ByteArray := prog_14_method_78_code
def yX12_mayBe : MethodName := ⟨RX12, "mayBe", "(I)Z"⟩
abbrev cX12_laysSpread : ByteArray := prog_14_method_79_code
def yX12_laysSpread : MethodName := ⟨RX12, "laysSpread", "(I)I"⟩
abbrev cX12_spread : ByteArray := prog_14_method_80_code
def yX12_spread : MethodName := ⟨RX12, "spread", "(II)I"⟩
abbrev cX12_needs : ByteArray := prog_14_method_81_code
def yX12_needs : MethodName := ⟨RX12, "needs", "(II)I"⟩
abbrev cX12_movesOut : ByteArray := prog_14_method_82_code
def yX12_movesOut : MethodName := ⟨RX12, "movesOut", "(IIII)J"⟩
abbrev cX12_comingIn : ByteArray := prog_14_method_83_code
def yX12_comingIn : MethodName := ⟨RX12, "comingIn", "(III)I"⟩
abbrev cX12_comings : ByteArray := prog_14_method_84_code
def yX12_comings : MethodName := ⟨RX12, "comings", "(II)I"⟩
abbrev cX12_wetBehind : ByteArray := prog_14_method_85_code
def yX12_wetBehind : MethodName := ⟨RX12, "wetBehind", "(III)I"⟩
abbrev cX12_week : ByteArray := prog_14_method_86_code
def yX12_week : MethodName := ⟨RX12, "week", "(III)I"⟩
abbrev cX12_areTenths : ByteArray := prog_14_method_87_code
def yX12_areTenths : MethodName := ⟨RX12, "areTenths", "(I)Z"⟩
abbrev cX12_laysComes : ByteArray := prog_14_method_88_code
def yX12_laysComes : MethodName := ⟨RX12, "laysComes", "(I)V"⟩
abbrev cX12_comes : ByteArray := prog_14_method_89_code
def yX12_comes : MethodName := ⟨RX12, "comes", "(III)J"⟩
abbrev cX12_share : ByteArray := prog_14_method_90_code
def yX12_share : MethodName := ⟨RX12, "share", "(II)I"⟩
abbrev cX12_isDayAt : ByteArray := prog_14_method_91_code
def yX12_isDayAt : MethodName := ⟨RX12, "isDayAt", "(I)Z"⟩
abbrev cX12_readsWeek : ByteArray := prog_14_method_92_code
def yX12_readsWeek : MethodName := ⟨RX12, "readsWeek", "()Z"⟩
abbrev cX12_goesByRota : ByteArray := prog_14_method_93_code
def yX12_goesByRota : MethodName := ⟨RX12, "goesByRota", "(I)V"⟩
abbrev cX12_rota : ByteArray := prog_14_method_94_code
def yX12_rota : MethodName := ⟨RX12, "rota", "(III)I"⟩
abbrev cX12_laysAlone : ByteArray := prog_14_method_95_code
def yX12_laysAlone : MethodName := ⟨RX12, "laysAlone", "(I)V"⟩
abbrev cX12_gainOf : ByteArray := prog_14_method_96_code
def yX12_gainOf : MethodName := ⟨RX12, "gainOf", "(II)I"⟩
abbrev cX12_waterBy : ByteArray := prog_14_method_97_code
def yX12_waterBy : MethodName := ⟨RX12, "waterBy", "(II)Z"⟩
abbrev cX12_alone : ByteArray := prog_14_method_98_code
def yX12_alone : MethodName := ⟨RX12, "alone", "(II)I"⟩
abbrev cX12_whoDid : ByteArray := prog_14_method_99_code
def yX12_whoDid : MethodName := ⟨RX12, "whoDid", "(IIIII)J"⟩
abbrev cX12_can : ByteArray := prog_14_method_100_code
def yX12_can : MethodName := ⟨RX12, "can", "(IIII)J"⟩
abbrev cX12_seed : ByteArray := prog_14_method_101_code
def yX12_seed : MethodName := ⟨RX12, "seed", "(I)Z"⟩
abbrev cX12_keep : ByteArray := prog_14_method_102_code
def yX12_keep : MethodName := ⟨RX12, "keep", "()I"⟩
abbrev cX12_undo : ByteArray := prog_14_method_103_code
def yX12_undo : MethodName := ⟨RX12, "undo", "()Z"⟩
abbrev cX12_tapeNumber : ByteArray := prog_14_method_104_code
def yX12_tapeNumber : MethodName := ⟨RX12, "tapeNumber", "(I)I"⟩
abbrev cX12_check : ByteArray := prog_14_method_105_code
def yX12_check : MethodName := ⟨RX12, "check", "(II)I"⟩
abbrev cX12_count : ByteArray := prog_14_method_106_code
def yX12_count : MethodName := ⟨RX12, "count", "(I)I"⟩
def RJx145de : String := "java/io/Serializable"
def TJx145de : u_T := fun k => match k with
  | _ => ("", "", "", false)
def tyJx145de : Nat → FieldType := fun k => match k with
  | _ => .int
abbrev wsJx145de0 : List Cond := u_ws RJx145de TJx145de 0
theorem nmJx145de : ∀ a, a < 0 → ∀ b, b < 0 → a ≠ b → (TJx145de a).2.1 ≠ (TJx145de b).2.1 := by decide +kernel
theorem tyJx145de_ok : ∀ k, k < 0 → parseFieldDescriptor (TJx145de k).2.2.1 = some (tyJx145de k) := by decide +kernel
def RJx9f9b0 : String := "java/lang/CharSequence"
def TJx9f9b0 : u_T := fun k => match k with
  | _ => ("", "", "", false)
def tyJx9f9b0 : Nat → FieldType := fun k => match k with
  | _ => .int
abbrev wsJx9f9b00 : List Cond := u_ws RJx9f9b0 TJx9f9b0 0
theorem nmJx9f9b0 : ∀ a, a < 0 → ∀ b, b < 0 → a ≠ b → (TJx9f9b0 a).2.1 ≠ (TJx9f9b0 b).2.1 := by decide +kernel
theorem tyJx9f9b0_ok : ∀ k, k < 0 → parseFieldDescriptor (TJx9f9b0 k).2.2.1 = some (tyJx9f9b0 k) := by decide +kernel
def RJ11 : String := "java/lang/Character"
def TJ11 : u_T := fun k => match k with
  | _ => ("", "", "", false)
def tyJ11 : Nat → FieldType := fun k => match k with
  | _ => .int
abbrev wsJ110 : List Cond := u_ws RJ11 TJ11 0
theorem nmJ11 : ∀ a, a < 0 → ∀ b, b < 0 → a ≠ b → (TJ11 a).2.1 ≠ (TJ11 b).2.1 := by decide +kernel
theorem tyJ11_ok : ∀ k, k < 0 → parseFieldDescriptor (TJ11 k).2.2.1 = some (tyJ11 k) := by decide +kernel
abbrev cJ11_isValidCodePoint_9a6ad : ByteArray := prog_15_method_11_code
def yJ11_isValidCodePoint_9a6ad : MethodName := ⟨RJ11, "isValidCodePoint", "(I)Z"⟩
abbrev cJ11_highSurrogate_5068e : ByteArray := prog_15_method_28_code
def yJ11_highSurrogate_5068e : MethodName := ⟨RJ11, "highSurrogate", "(I)C"⟩
abbrev cJ11_lowSurrogate_5068e : ByteArray := prog_15_method_29_code
def yJ11_lowSurrogate_5068e : MethodName := ⟨RJ11, "lowSurrogate", "(I)C"⟩
def RJxb160c : String := "java/lang/Comparable"
def TJxb160c : u_T := fun k => match k with
  | _ => ("", "", "", false)
def tyJxb160c : Nat → FieldType := fun k => match k with
  | _ => .int
abbrev wsJxb160c0 : List Cond := u_ws RJxb160c TJxb160c 0
theorem nmJxb160c : ∀ a, a < 0 → ∀ b, b < 0 → a ≠ b → (TJxb160c a).2.1 ≠ (TJxb160c b).2.1 := by decide +kernel
theorem tyJxb160c_ok : ∀ k, k < 0 → parseFieldDescriptor (TJxb160c k).2.2.1 = some (tyJxb160c k) := by decide +kernel
def RJ6 : String := "java/lang/Integer"
def TJ6 : u_T := fun k => match k with
  | _ => ("", "", "", false)
def tyJ6 : Nat → FieldType := fun k => match k with
  | _ => .int
abbrev wsJ60 : List Cond := u_ws RJ6 TJ6 0
theorem nmJ6 : ∀ a, a < 0 → ∀ b, b < 0 → a ≠ b → (TJ6 a).2.1 ≠ (TJ6 b).2.1 := by decide +kernel
theorem tyJ6_ok : ∀ k, k < 0 → parseFieldDescriptor (TJ6 k).2.2.1 = some (tyJ6 k) := by decide +kernel
abbrev cJ6_bitCount_0f7a4 : ByteArray := prog_16_method_49_code
def yJ6_bitCount_0f7a4 : MethodName := ⟨RJ6, "bitCount", "(I)I"⟩
def RJ9 : String := "java/lang/Math"
def TJ9 : u_T := fun k => match k with
  | _ => ("", "", "", false)
def tyJ9 : Nat → FieldType := fun k => match k with
  | _ => .int
abbrev wsJ90 : List Cond := u_ws RJ9 TJ9 0
theorem nmJ9 : ∀ a, a < 0 → ∀ b, b < 0 → a ≠ b → (TJ9 a).2.1 ≠ (TJ9 b).2.1 := by decide +kernel
theorem tyJ9_ok : ∀ k, k < 0 → parseFieldDescriptor (TJ9 k).2.2.1 = some (tyJ9 k) := by decide +kernel
abbrev cJ9_max_7cf53 : ByteArray := prog_17_method_65_code
def yJ9_max_7cf53 : MethodName := ⟨RJ9, "max", "(II)I"⟩
abbrev cJ9_min_7cf53 : ByteArray := prog_17_method_69_code
def yJ9_min_7cf53 : MethodName := ⟨RJ9, "min", "(II)I"⟩
def RJ0 : String := "java/lang/String"
def TJ0 : u_T := fun k => match k with
  | _ => ("", "", "", false)
def tyJ0 : Nat → FieldType := fun k => match k with
  | _ => .int
abbrev wsJ00 : List Cond := u_ws RJ0 TJ0 0
theorem nmJ0 : ∀ a, a < 0 → ∀ b, b < 0 → a ≠ b → (TJ0 a).2.1 ≠ (TJ0 b).2.1 := by decide +kernel
theorem tyJ0_ok : ∀ k, k < 0 → parseFieldDescriptor (TJ0 k).2.2.1 = some (tyJ0 k) := by decide +kernel
abbrev cJ0_length_8abf5 : ByteArray := prog_18_method_54_code
def yJ0_length_8abf5 : MethodName := ⟨RJ0, "length", "()I"⟩
abbrev cJ0_indexOf_0f7a4 : ByteArray := prog_18_method_79_code
def yJ0_indexOf_0f7a4 : MethodName := ⟨RJ0, "indexOf", "(I)I"⟩
abbrev cJ0_indexOf_7cf53 : ByteArray := prog_18_method_80_code
def yJ0_indexOf_7cf53 : MethodName := ⟨RJ0, "indexOf", "(II)I"⟩
abbrev cJ0_coder_7d493 : ByteArray := prog_18_method_152_code
def yJ0_coder_7d493 : MethodName := ⟨RJ0, "coder", "()B"⟩
abbrev cJ0_isLatin1_aae02 : ByteArray := prog_18_method_154_code
def yJ0_isLatin1_aae02 : MethodName := ⟨RJ0, "isLatin1", "()Z"⟩
abbrev cJ0_checkBoundsBeginEnd_23922 : ByteArray := prog_18_method_158_code
def yJ0_checkBoundsBeginEnd_23922 : MethodName := ⟨RJ0, "checkBoundsBeginEnd", "(III)V"⟩
def RJ1 : String := "java/lang/StringLatin1"
def TJ1 : u_T := fun k => match k with
  | _ => ("", "", "", false)
def tyJ1 : Nat → FieldType := fun k => match k with
  | _ => .int
abbrev wsJ10 : List Cond := u_ws RJ1 TJ1 0
theorem nmJ1 : ∀ a, a < 0 → ∀ b, b < 0 → a ≠ b → (TJ1 a).2.1 ≠ (TJ1 b).2.1 := by decide +kernel
theorem tyJ1_ok : ∀ k, k < 0 → parseFieldDescriptor (TJ1 k).2.2.1 = some (tyJ1 k) := by decide +kernel
abbrev cJ1_canEncode_9a6ad : ByteArray := prog_19_method_4_code
def yJ1_canEncode_9a6ad : MethodName := ⟨RJ1, "canEncode", "(I)Z"⟩
abbrev cJ1_indexOf_4cfef : ByteArray := prog_19_method_22_code
def yJ1_indexOf_4cfef : MethodName := ⟨RJ1, "indexOf", "([BIII)I"⟩
abbrev cJ1_indexOfChar_4cfef : ByteArray := prog_19_method_23_code
def yJ1_indexOfChar_4cfef : MethodName := ⟨RJ1, "indexOfChar", "([BIII)I"⟩
def RJ2 : String := "java/lang/StringUTF16"
def TJ2 : u_T := fun k => match k with
  | _ => ("", "", "", false)
def tyJ2 : Nat → FieldType := fun k => match k with
  | _ => .int
abbrev wsJ20 : List Cond := u_ws RJ2 TJ2 0
theorem nmJ2 : ∀ a, a < 0 → ∀ b, b < 0 → a ≠ b → (TJ2 a).2.1 ≠ (TJ2 b).2.1 := by decide +kernel
theorem tyJ2_ok : ∀ k, k < 0 → parseFieldDescriptor (TJ2 k).2.2.1 = some (tyJ2 k) := by decide +kernel
abbrev cJ2_getChar_3b067 : ByteArray := prog_20_method_5_code
def yJ2_getChar_3b067 : MethodName := ⟨RJ2, "getChar", "([BI)C"⟩
abbrev cJ2_length_9d52b : ByteArray := prog_20_method_6_code
def yJ2_length_9d52b : MethodName := ⟨RJ2, "length", "([B)I"⟩
abbrev cJ2_indexOf_4cfef : ByteArray := prog_20_method_40_code
def yJ2_indexOf_4cfef : MethodName := ⟨RJ2, "indexOf", "([BIII)I"⟩
abbrev cJ2_indexOfChar_4cfef : ByteArray := prog_20_method_47_code
def yJ2_indexOfChar_4cfef : MethodName := ⟨RJ2, "indexOfChar", "([BIII)I"⟩
abbrev cJ2_indexOfCharUnsafe_4cfef : ByteArray := prog_20_method_48_code
def yJ2_indexOfCharUnsafe_4cfef : MethodName := ⟨RJ2, "indexOfCharUnsafe", "([BIII)I"⟩
abbrev cJ2_indexOfSupplementary_4cfef : ByteArray := prog_20_method_49_code
def yJ2_indexOfSupplementary_4cfef : MethodName := ⟨RJ2, "indexOfSupplementary", "([BIII)I"⟩
abbrev cJ2_checkBoundsBeginEnd_d044e : ByteArray := prog_20_method_93_code
def yJ2_checkBoundsBeginEnd_d044e : MethodName := ⟨RJ2, "checkBoundsBeginEnd", "(II[B)V"⟩
def RJ10 : String := "java/lang/System"
def TJ10 : u_T := fun k => match k with
  | _ => ("", "", "", false)
def tyJ10 : Nat → FieldType := fun k => match k with
  | _ => .int
abbrev wsJ100 : List Cond := u_ws RJ10 TJ10 0
theorem nmJ10 : ∀ a, a < 0 → ∀ b, b < 0 → a ≠ b → (TJ10 a).2.1 ≠ (TJ10 b).2.1 := by decide +kernel
theorem tyJ10_ok : ∀ k, k < 0 → parseFieldDescriptor (TJ10 k).2.2.1 = some (tyJ10 k) := by decide +kernel
def RJxfd54e : String := "java/lang/constant/Constable"
def TJxfd54e : u_T := fun k => match k with
  | _ => ("", "", "", false)
def tyJxfd54e : Nat → FieldType := fun k => match k with
  | _ => .int
abbrev wsJxfd54e0 : List Cond := u_ws RJxfd54e TJxfd54e 0
theorem nmJxfd54e : ∀ a, a < 0 → ∀ b, b < 0 → a ≠ b → (TJxfd54e a).2.1 ≠ (TJxfd54e b).2.1 := by decide +kernel
theorem tyJxfd54e_ok : ∀ k, k < 0 → parseFieldDescriptor (TJxfd54e k).2.2.1 = some (tyJxfd54e k) := by decide +kernel
def RJx3cf43 : String := "java/lang/constant/ConstantDesc"
def TJx3cf43 : u_T := fun k => match k with
  | _ => ("", "", "", false)
def tyJx3cf43 : Nat → FieldType := fun k => match k with
  | _ => .int
abbrev wsJx3cf430 : List Cond := u_ws RJx3cf43 TJx3cf43 0
theorem nmJx3cf43 : ∀ a, a < 0 → ∀ b, b < 0 → a ≠ b → (TJx3cf43 a).2.1 ≠ (TJx3cf43 b).2.1 := by decide +kernel
theorem tyJx3cf43_ok : ∀ k, k < 0 → parseFieldDescriptor (TJx3cf43 k).2.2.1 = some (tyJx3cf43 k) := by decide +kernel
def RJ7 : String := "java/util/Arrays"
def TJ7 : u_T := fun k => match k with
  | _ => ("", "", "", false)
def tyJ7 : Nat → FieldType := fun k => match k with
  | _ => .int
abbrev wsJ70 : List Cond := u_ws RJ7 TJ7 0
theorem nmJ7 : ∀ a, a < 0 → ∀ b, b < 0 → a ≠ b → (TJ7 a).2.1 ≠ (TJ7 b).2.1 := by decide +kernel
theorem tyJ7_ok : ∀ k, k < 0 → parseFieldDescriptor (TJ7 k).2.2.1 = some (tyJ7 k) := by decide +kernel
abbrev cJ7_fill_d0a16 : ByteArray := prog_22_method_101_code
def yJ7_fill_d0a16 : MethodName := ⟨RJ7, "fill", "([JJ)V"⟩
abbrev cJ7_fill_53178 : ByteArray := prog_22_method_103_code
def yJ7_fill_53178 : MethodName := ⟨RJ7, "fill", "([II)V"⟩
def RJ3 : String := "jdk/internal/util/Preconditions"
def TJ3 : u_T := fun k => match k with
  | _ => ("", "", "", false)
def tyJ3 : Nat → FieldType := fun k => match k with
  | _ => .int
abbrev wsJ30 : List Cond := u_ws RJ3 TJ3 0
theorem nmJ3 : ∀ a, a < 0 → ∀ b, b < 0 → a ≠ b → (TJ3 a).2.1 ≠ (TJ3 b).2.1 := by decide +kernel
theorem tyJ3_ok : ∀ k, k < 0 → parseFieldDescriptor (TJ3 k).2.2.1 = some (tyJ3 k) := by decide +kernel
abbrev cJ3_checkFromToIndex_8c36e : ByteArray := prog_23_method_12_code
def yJ3_checkFromToIndex_8c36e : MethodName := ⟨RJ3, "checkFromToIndex", "(IIILjava/util/function/BiFunction;)I"⟩
def RL : String := "LandingTreeLaw"
abbrev cL_law : ByteArray := code
def yL_law : MethodName := ⟨RL, "law", "([I)Z"⟩
abbrev vwCl : List vw_C := [(RX0, TX0, 4), (RX1, TX1, 6), (RX2, TX2, 17), (RX3, TX3, 8), (RX4, TX4, 4), (RX5, TX5, 9), (RX6, TX6, 6), (RX7, TX7, 2), (RX8, TX8, 2), (RX9, TX9, 6), (RX10, TX10, 8), (RX11, TX11, 12), (RX12, TX12, 54)]
end
