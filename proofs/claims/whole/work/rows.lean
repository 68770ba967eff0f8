section
-- ===== PART A: goes FIRST, ahead of the names: the tables' words, and 'selects' of the private methods out of them =====
/-- a private method of a class that the tables say can be made, by its rows of tables_1 -/
def lw_okq (q : MethodName × Nat) : Prop := (q.1.cls ≠ "java/lang/invoke/MethodHandle" ∧ q.1.cls ≠ "java/lang/invoke/VarHandle") ∧ Cond.instantiable q.1.cls q.2 ∈ tables_1 ∧ Cond.privateMethod q.1 ∈ tables_1 ∧ Cond.instanceMethod q.1 ∈ tables_1
theorem lw_p0 : lw_okq (⟨"LoanLayers$Text", "advance", "()V"⟩, 6) := ⟨⟨by decide +kernel, by decide +kernel⟩, List.mem_of_getElem? (i := 76) (by decide +kernel), List.mem_of_getElem? (i := 232) (by decide +kernel), List.mem_of_getElem? (i := 233) (by decide +kernel)⟩
theorem lw_p1 : lw_okq (⟨"LoanLayers$Text", "byteAt", "(I)I"⟩, 6) := ⟨⟨by decide +kernel, by decide +kernel⟩, List.mem_of_getElem? (i := 76) (by decide +kernel), List.mem_of_getElem? (i := 236) (by decide +kernel), List.mem_of_getElem? (i := 237) (by decide +kernel)⟩
theorem lw_p2 : lw_okq (⟨"LoanLayers$Text", "readClause", "(LLoanLayers$World;)Z"⟩, 6) := ⟨⟨by decide +kernel, by decide +kernel⟩, List.mem_of_getElem? (i := 76) (by decide +kernel), List.mem_of_getElem? (i := 246) (by decide +kernel), List.mem_of_getElem? (i := 247) (by decide +kernel)⟩
theorem lw_p3 : lw_okq (⟨"LoanLayers$Text", "isWord", "(Ljava/lang/String;)Z"⟩, 6) := ⟨⟨by decide +kernel, by decide +kernel⟩, List.mem_of_getElem? (i := 76) (by decide +kernel), List.mem_of_getElem? (i := 251) (by decide +kernel), List.mem_of_getElem? (i := 252) (by decide +kernel)⟩
theorem lw_p4 : lw_okq (⟨"LoanLayers$Text", "readLaw", "(LLoanLayers$World;)Z"⟩, 6) := ⟨⟨by decide +kernel, by decide +kernel⟩, List.mem_of_getElem? (i := 76) (by decide +kernel), List.mem_of_getElem? (i := 303) (by decide +kernel), List.mem_of_getElem? (i := 304) (by decide +kernel)⟩
theorem lw_p5 : lw_okq (⟨"LoanLayers$Text", "number", "(II)I"⟩, 6) := ⟨⟨by decide +kernel, by decide +kernel⟩, List.mem_of_getElem? (i := 76) (by decide +kernel), List.mem_of_getElem? (i := 307) (by decide +kernel), List.mem_of_getElem? (i := 308) (by decide +kernel)⟩
theorem lw_p6 : lw_okq (⟨"LoanLayers$Text", "letter", "()I"⟩, 6) := ⟨⟨by decide +kernel, by decide +kernel⟩, List.mem_of_getElem? (i := 76) (by decide +kernel), List.mem_of_getElem? (i := 315) (by decide +kernel), List.mem_of_getElem? (i := 316) (by decide +kernel)⟩
theorem lw_p7 : lw_okq (⟨"LoanLayers$Text", "isSign", "(I)Z"⟩, 6) := ⟨⟨by decide +kernel, by decide +kernel⟩, List.mem_of_getElem? (i := 76) (by decide +kernel), List.mem_of_getElem? (i := 319) (by decide +kernel), List.mem_of_getElem? (i := 320) (by decide +kernel)⟩
theorem lw_p8 : lw_okq (⟨"LoanLayers$Text", "environment", "()I"⟩, 6) := ⟨⟨by decide +kernel, by decide +kernel⟩, List.mem_of_getElem? (i := 76) (by decide +kernel), List.mem_of_getElem? (i := 323) (by decide +kernel), List.mem_of_getElem? (i := 324) (by decide +kernel)⟩
theorem lw_p9 : lw_okq (⟨"LoanLayers$Text", "readMeeting", "(LLoanLayers$World;)Z"⟩, 6) := ⟨⟨by decide +kernel, by decide +kernel⟩, List.mem_of_getElem? (i := 76) (by decide +kernel), List.mem_of_getElem? (i := 373) (by decide +kernel), List.mem_of_getElem? (i := 374) (by decide +kernel)⟩
theorem lw_p10 : lw_okq (⟨"LoanLayers$Text", "readPair", "()I"⟩, 6) := ⟨⟨by decide +kernel, by decide +kernel⟩, List.mem_of_getElem? (i := 76) (by decide +kernel), List.mem_of_getElem? (i := 377) (by decide +kernel), List.mem_of_getElem? (i := 378) (by decide +kernel)⟩
theorem lw_p11 : lw_okq (⟨"LoanLayers$Text", "readLoan", "(LLoanLayers$World;)Z"⟩, 6) := ⟨⟨by decide +kernel, by decide +kernel⟩, List.mem_of_getElem? (i := 76) (by decide +kernel), List.mem_of_getElem? (i := 389) (by decide +kernel), List.mem_of_getElem? (i := 390) (by decide +kernel)⟩
theorem lw_p12 : lw_okq (⟨"LoanLayers$Text", "form", "(I)J"⟩, 6) := ⟨⟨by decide +kernel, by decide +kernel⟩, List.mem_of_getElem? (i := 76) (by decide +kernel), List.mem_of_getElem? (i := 393) (by decide +kernel), List.mem_of_getElem? (i := 394) (by decide +kernel)⟩
theorem lw_p13 : lw_okq (⟨"LoanLayers", "act", "(LLoanLayers$World;)V"⟩, 7) := ⟨⟨by decide +kernel, by decide +kernel⟩, List.mem_of_getElem? (i := 18) (by decide +kernel), List.mem_of_getElem? (i := 457) (by decide +kernel), List.mem_of_getElem? (i := 458) (by decide +kernel)⟩
theorem lw_p14 : lw_okq (⟨"LoanLayers$Windows", "add", "(II)V"⟩, 3) := ⟨⟨by decide +kernel, by decide +kernel⟩, List.mem_of_getElem? (i := 103) (by decide +kernel), List.mem_of_getElem? (i := 587) (by decide +kernel), List.mem_of_getElem? (i := 588) (by decide +kernel)⟩
theorem lw_p15 : lw_okq (⟨"LoanLayers$Layers", "layByFirstDate", "()V"⟩, 4) := ⟨⟨by decide +kernel, by decide +kernel⟩, List.mem_of_getElem? (i := 120) (by decide +kernel), List.mem_of_getElem? (i := 620) (by decide +kernel), List.mem_of_getElem? (i := 621) (by decide +kernel)⟩
def lw_privs_1 : List (MethodName × Nat) := [(⟨"LoanLayers$Text", "advance", "()V"⟩, 6), (⟨"LoanLayers$Text", "byteAt", "(I)I"⟩, 6), (⟨"LoanLayers$Text", "readClause", "(LLoanLayers$World;)Z"⟩, 6), (⟨"LoanLayers$Text", "isWord", "(Ljava/lang/String;)Z"⟩, 6), (⟨"LoanLayers$Text", "readLaw", "(LLoanLayers$World;)Z"⟩, 6), (⟨"LoanLayers$Text", "number", "(II)I"⟩, 6), (⟨"LoanLayers$Text", "letter", "()I"⟩, 6), (⟨"LoanLayers$Text", "isSign", "(I)Z"⟩, 6), (⟨"LoanLayers$Text", "environment", "()I"⟩, 6), (⟨"LoanLayers$Text", "readMeeting", "(LLoanLayers$World;)Z"⟩, 6), (⟨"LoanLayers$Text", "readPair", "()I"⟩, 6), (⟨"LoanLayers$Text", "readLoan", "(LLoanLayers$World;)Z"⟩, 6), (⟨"LoanLayers$Text", "form", "(I)J"⟩, 6), (⟨"LoanLayers", "act", "(LLoanLayers$World;)V"⟩, 7), (⟨"LoanLayers$Windows", "add", "(II)V"⟩, 3), (⟨"LoanLayers$Layers", "layByFirstDate", "()V"⟩, 4)]
theorem lw_r1 : ∀ q ∈ lw_privs_1, lw_okq q := List.forall_mem_cons.mpr ⟨lw_p0, List.forall_mem_cons.mpr ⟨lw_p1, List.forall_mem_cons.mpr ⟨lw_p2, List.forall_mem_cons.mpr ⟨lw_p3, List.forall_mem_cons.mpr ⟨lw_p4, List.forall_mem_cons.mpr ⟨lw_p5, List.forall_mem_cons.mpr ⟨lw_p6, List.forall_mem_cons.mpr ⟨lw_p7, List.forall_mem_cons.mpr ⟨lw_p8, List.forall_mem_cons.mpr ⟨lw_p9, List.forall_mem_cons.mpr ⟨lw_p10, List.forall_mem_cons.mpr ⟨lw_p11, List.forall_mem_cons.mpr ⟨lw_p12, List.forall_mem_cons.mpr ⟨lw_p13, List.forall_mem_cons.mpr ⟨lw_p14, List.forall_mem_cons.mpr ⟨lw_p15, fun _ h => absurd h List.not_mem_nil⟩⟩⟩⟩⟩⟩⟩⟩⟩⟩⟩⟩⟩⟩⟩⟩
theorem lw_p16 : lw_okq (⟨"LoanLayers$Layers", "greatestBefore", "(I)I"⟩, 4) := ⟨⟨by decide +kernel, by decide +kernel⟩, List.mem_of_getElem? (i := 120) (by decide +kernel), List.mem_of_getElem? (i := 624) (by decide +kernel), List.mem_of_getElem? (i := 625) (by decide +kernel)⟩
theorem lw_p17 : lw_okq (⟨"LoanLayers$Way", "prepare", "(LLoanLayers$World;)V"⟩, 7) := ⟨⟨by decide +kernel, by decide +kernel⟩, List.mem_of_getElem? (i := 139) (by decide +kernel), List.mem_of_getElem? (i := 689) (by decide +kernel), List.mem_of_getElem? (i := 690) (by decide +kernel)⟩
theorem lw_p18 : lw_okq (⟨"LoanLayers$Way", "leads", "(LLoanLayers$World;IIIJ)Z"⟩, 7) := ⟨⟨by decide +kernel, by decide +kernel⟩, List.mem_of_getElem? (i := 139) (by decide +kernel), List.mem_of_getElem? (i := 697) (by decide +kernel), List.mem_of_getElem? (i := 698) (by decide +kernel)⟩
theorem lw_p19 : lw_okq (⟨"LoanLayers$Way", "branches", "(LLoanLayers$World;IIIJ)Z"⟩, 7) := ⟨⟨by decide +kernel, by decide +kernel⟩, List.mem_of_getElem? (i := 139) (by decide +kernel), List.mem_of_getElem? (i := 705) (by decide +kernel), List.mem_of_getElem? (i := 706) (by decide +kernel)⟩
theorem lw_p20 : lw_okq (⟨"LoanLayers$Way", "isBusy", "(I)Z"⟩, 7) := ⟨⟨by decide +kernel, by decide +kernel⟩, List.mem_of_getElem? (i := 139) (by decide +kernel), List.mem_of_getElem? (i := 716) (by decide +kernel), List.mem_of_getElem? (i := 717) (by decide +kernel)⟩
theorem lw_p21 : lw_okq (⟨"LoanLayers$Way", "changed", "(JII)J"⟩, 7) := ⟨⟨by decide +kernel, by decide +kernel⟩, List.mem_of_getElem? (i := 139) (by decide +kernel), List.mem_of_getElem? (i := 720) (by decide +kernel), List.mem_of_getElem? (i := 721) (by decide +kernel)⟩
theorem lw_p22 : lw_okq (⟨"LoanLayers$Way", "ageTried", "(II)V"⟩, 7) := ⟨⟨by decide +kernel, by decide +kernel⟩, List.mem_of_getElem? (i := 139) (by decide +kernel), List.mem_of_getElem? (i := 725) (by decide +kernel), List.mem_of_getElem? (i := 726) (by decide +kernel)⟩
theorem lw_p23 : lw_okq (⟨"LoanLayers", "loansOfKind", "(I)I"⟩, 7) := ⟨⟨by decide +kernel, by decide +kernel⟩, List.mem_of_getElem? (i := 18) (by decide +kernel), List.mem_of_getElem? (i := 737) (by decide +kernel), List.mem_of_getElem? (i := 738) (by decide +kernel)⟩
theorem lw_p24 : lw_okq (⟨"LoanLayersModel", "reads", "(Z)Z"⟩, 23) := ⟨⟨by decide +kernel, by decide +kernel⟩, List.mem_of_getElem? (i := 749) (by decide +kernel), List.mem_of_getElem? (i := 841) (by decide +kernel), List.mem_of_getElem? (i := 842) (by decide +kernel)⟩
theorem lw_p25 : lw_okq (⟨"LoanLayersModel", "readsAll", "()Z"⟩, 23) := ⟨⟨by decide +kernel, by decide +kernel⟩, List.mem_of_getElem? (i := 749) (by decide +kernel), List.mem_of_getElem? (i := 845) (by decide +kernel), List.mem_of_getElem? (i := 846) (by decide +kernel)⟩
theorem lw_p26 : lw_okq (⟨"LoanLayersModel", "lawOf", "(II)I"⟩, 23) := ⟨⟨by decide +kernel, by decide +kernel⟩, List.mem_of_getElem? (i := 749) (by decide +kernel), List.mem_of_getElem? (i := 849) (by decide +kernel), List.mem_of_getElem? (i := 850) (by decide +kernel)⟩
theorem lw_p27 : lw_okq (⟨"LoanLayersModel", "nextToken", "()V"⟩, 23) := ⟨⟨by decide +kernel, by decide +kernel⟩, List.mem_of_getElem? (i := 749) (by decide +kernel), List.mem_of_getElem? (i := 853) (by decide +kernel), List.mem_of_getElem? (i := 854) (by decide +kernel)⟩
theorem lw_p28 : lw_okq (⟨"LoanLayersModel", "readsClause", "()Z"⟩, 23) := ⟨⟨by decide +kernel, by decide +kernel⟩, List.mem_of_getElem? (i := 749) (by decide +kernel), List.mem_of_getElem? (i := 867) (by decide +kernel), List.mem_of_getElem? (i := 868) (by decide +kernel)⟩
theorem lw_p29 : lw_okq (⟨"LoanLayersModel", "wordHere", "()I"⟩, 23) := ⟨⟨by decide +kernel, by decide +kernel⟩, List.mem_of_getElem? (i := 749) (by decide +kernel), List.mem_of_getElem? (i := 871) (by decide +kernel), List.mem_of_getElem? (i := 872) (by decide +kernel)⟩
theorem lw_p30 : lw_okq (⟨"LoanLayersModel", "readsLaw", "()Z"⟩, 23) := ⟨⟨by decide +kernel, by decide +kernel⟩, List.mem_of_getElem? (i := 749) (by decide +kernel), List.mem_of_getElem? (i := 875) (by decide +kernel), List.mem_of_getElem? (i := 876) (by decide +kernel)⟩
theorem lw_p31 : lw_okq (⟨"LoanLayersModel", "number", "(IIII)Z"⟩, 23) := ⟨⟨by decide +kernel, by decide +kernel⟩, List.mem_of_getElem? (i := 749) (by decide +kernel), List.mem_of_getElem? (i := 879) (by decide +kernel), List.mem_of_getElem? (i := 880) (by decide +kernel)⟩
def lw_privs_2 : List (MethodName × Nat) := [(⟨"LoanLayers$Layers", "greatestBefore", "(I)I"⟩, 4), (⟨"LoanLayers$Way", "prepare", "(LLoanLayers$World;)V"⟩, 7), (⟨"LoanLayers$Way", "leads", "(LLoanLayers$World;IIIJ)Z"⟩, 7), (⟨"LoanLayers$Way", "branches", "(LLoanLayers$World;IIIJ)Z"⟩, 7), (⟨"LoanLayers$Way", "isBusy", "(I)Z"⟩, 7), (⟨"LoanLayers$Way", "changed", "(JII)J"⟩, 7), (⟨"LoanLayers$Way", "ageTried", "(II)V"⟩, 7), (⟨"LoanLayers", "loansOfKind", "(I)I"⟩, 7), (⟨"LoanLayersModel", "reads", "(Z)Z"⟩, 23), (⟨"LoanLayersModel", "readsAll", "()Z"⟩, 23), (⟨"LoanLayersModel", "lawOf", "(II)I"⟩, 23), (⟨"LoanLayersModel", "nextToken", "()V"⟩, 23), (⟨"LoanLayersModel", "readsClause", "()Z"⟩, 23), (⟨"LoanLayersModel", "wordHere", "()I"⟩, 23), (⟨"LoanLayersModel", "readsLaw", "()Z"⟩, 23), (⟨"LoanLayersModel", "number", "(IIII)Z"⟩, 23)]
theorem lw_r2 : ∀ q ∈ lw_privs_2, lw_okq q := List.forall_mem_cons.mpr ⟨lw_p16, List.forall_mem_cons.mpr ⟨lw_p17, List.forall_mem_cons.mpr ⟨lw_p18, List.forall_mem_cons.mpr ⟨lw_p19, List.forall_mem_cons.mpr ⟨lw_p20, List.forall_mem_cons.mpr ⟨lw_p21, List.forall_mem_cons.mpr ⟨lw_p22, List.forall_mem_cons.mpr ⟨lw_p23, List.forall_mem_cons.mpr ⟨lw_p24, List.forall_mem_cons.mpr ⟨lw_p25, List.forall_mem_cons.mpr ⟨lw_p26, List.forall_mem_cons.mpr ⟨lw_p27, List.forall_mem_cons.mpr ⟨lw_p28, List.forall_mem_cons.mpr ⟨lw_p29, List.forall_mem_cons.mpr ⟨lw_p30, List.forall_mem_cons.mpr ⟨lw_p31, fun _ h => absurd h List.not_mem_nil⟩⟩⟩⟩⟩⟩⟩⟩⟩⟩⟩⟩⟩⟩⟩⟩
theorem lw_p32 : lw_okq (⟨"LoanLayersModel", "numberHere", "()I"⟩, 23) := ⟨⟨by decide +kernel, by decide +kernel⟩, List.mem_of_getElem? (i := 749) (by decide +kernel), List.mem_of_getElem? (i := 883) (by decide +kernel), List.mem_of_getElem? (i := 884) (by decide +kernel)⟩
theorem lw_p33 : lw_okq (⟨"LoanLayersModel", "readsSound", "(II)Z"⟩, 23) := ⟨⟨by decide +kernel, by decide +kernel⟩, List.mem_of_getElem? (i := 749) (by decide +kernel), List.mem_of_getElem? (i := 888) (by decide +kernel), List.mem_of_getElem? (i := 889) (by decide +kernel)⟩
theorem lw_p34 : lw_okq (⟨"LoanLayersModel", "lostOrSound", "(II)Z"⟩, 23) := ⟨⟨by decide +kernel, by decide +kernel⟩, List.mem_of_getElem? (i := 749) (by decide +kernel), List.mem_of_getElem? (i := 892) (by decide +kernel), List.mem_of_getElem? (i := 893) (by decide +kernel)⟩
theorem lw_p35 : lw_okq (⟨"LoanLayersModel", "isSign", "(I)Z"⟩, 23) := ⟨⟨by decide +kernel, by decide +kernel⟩, List.mem_of_getElem? (i := 749) (by decide +kernel), List.mem_of_getElem? (i := 896) (by decide +kernel), List.mem_of_getElem? (i := 897) (by decide +kernel)⟩
theorem lw_p36 : lw_okq (⟨"LoanLayersModel", "where", "()Z"⟩, 23) := ⟨⟨by decide +kernel, by decide +kernel⟩, List.mem_of_getElem? (i := 749) (by decide +kernel), List.mem_of_getElem? (i := 900) (by decide +kernel), List.mem_of_getElem? (i := 901) (by decide +kernel)⟩
theorem lw_p37 : lw_okq (⟨"LoanLayersModel", "puts", "(IIIIII)I"⟩, 23) := ⟨⟨by decide +kernel, by decide +kernel⟩, List.mem_of_getElem? (i := 749) (by decide +kernel), List.mem_of_getElem? (i := 904) (by decide +kernel), List.mem_of_getElem? (i := 905) (by decide +kernel)⟩
theorem lw_p38 : lw_okq (⟨"LoanLayersModel", "readsMeet", "()Z"⟩, 23) := ⟨⟨by decide +kernel, by decide +kernel⟩, List.mem_of_getElem? (i := 749) (by decide +kernel), List.mem_of_getElem? (i := 908) (by decide +kernel), List.mem_of_getElem? (i := 909) (by decide +kernel)⟩
theorem lw_p39 : lw_okq (⟨"LoanLayersModel", "readsLoan", "()Z"⟩, 23) := ⟨⟨by decide +kernel, by decide +kernel⟩, List.mem_of_getElem? (i := 749) (by decide +kernel), List.mem_of_getElem? (i := 915) (by decide +kernel), List.mem_of_getElem? (i := 916) (by decide +kernel)⟩
theorem lw_p40 : lw_okq (⟨"LoanLayersModel", "rowOf", "(II)I"⟩, 23) := ⟨⟨by decide +kernel, by decide +kernel⟩, List.mem_of_getElem? (i := 749) (by decide +kernel), List.mem_of_getElem? (i := 922) (by decide +kernel), List.mem_of_getElem? (i := 923) (by decide +kernel)⟩
theorem lw_p41 : lw_okq (⟨"LoanLayersModel", "hasLaw", "(II)Z"⟩, 23) := ⟨⟨by decide +kernel, by decide +kernel⟩, List.mem_of_getElem? (i := 749) (by decide +kernel), List.mem_of_getElem? (i := 941) (by decide +kernel), List.mem_of_getElem? (i := 942) (by decide +kernel)⟩
theorem lw_p42 : lw_okq (⟨"LoanLayersModel", "keepPast", "()V"⟩, 23) := ⟨⟨by decide +kernel, by decide +kernel⟩, List.mem_of_getElem? (i := 749) (by decide +kernel), List.mem_of_getElem? (i := 945) (by decide +kernel), List.mem_of_getElem? (i := 946) (by decide +kernel)⟩
theorem lw_p43 : lw_okq (⟨"LoanLayersModel", "copyRow", "(II)V"⟩, 23) := ⟨⟨by decide +kernel, by decide +kernel⟩, List.mem_of_getElem? (i := 749) (by decide +kernel), List.mem_of_getElem? (i := 949) (by decide +kernel), List.mem_of_getElem? (i := 950) (by decide +kernel)⟩
theorem lw_p44 : lw_okq (⟨"LoanLayersModel", "isLaw", "(I)Z"⟩, 23) := ⟨⟨by decide +kernel, by decide +kernel⟩, List.mem_of_getElem? (i := 749) (by decide +kernel), List.mem_of_getElem? (i := 957) (by decide +kernel), List.mem_of_getElem? (i := 958) (by decide +kernel)⟩
theorem lw_p45 : lw_okq (⟨"LoanLayersModel", "meetings", "()I"⟩, 23) := ⟨⟨by decide +kernel, by decide +kernel⟩, List.mem_of_getElem? (i := 749) (by decide +kernel), List.mem_of_getElem? (i := 971) (by decide +kernel), List.mem_of_getElem? (i := 972) (by decide +kernel)⟩
theorem lw_p46 : lw_okq (⟨"LoanLayersModel", "isLoan", "(I)Z"⟩, 23) := ⟨⟨by decide +kernel, by decide +kernel⟩, List.mem_of_getElem? (i := 749) (by decide +kernel), List.mem_of_getElem? (i := 983) (by decide +kernel), List.mem_of_getElem? (i := 984) (by decide +kernel)⟩
theorem lw_p47 : lw_okq (⟨"LoanLayersModel", "takes", "(IIII)V"⟩, 23) := ⟨⟨by decide +kernel, by decide +kernel⟩, List.mem_of_getElem? (i := 749) (by decide +kernel), List.mem_of_getElem? (i := 987) (by decide +kernel), List.mem_of_getElem? (i := 988) (by decide +kernel)⟩
def lw_privs_3 : List (MethodName × Nat) := [(⟨"LoanLayersModel", "numberHere", "()I"⟩, 23), (⟨"LoanLayersModel", "readsSound", "(II)Z"⟩, 23), (⟨"LoanLayersModel", "lostOrSound", "(II)Z"⟩, 23), (⟨"LoanLayersModel", "isSign", "(I)Z"⟩, 23), (⟨"LoanLayersModel", "where", "()Z"⟩, 23), (⟨"LoanLayersModel", "puts", "(IIIIII)I"⟩, 23), (⟨"LoanLayersModel", "readsMeet", "()Z"⟩, 23), (⟨"LoanLayersModel", "readsLoan", "()Z"⟩, 23), (⟨"LoanLayersModel", "rowOf", "(II)I"⟩, 23), (⟨"LoanLayersModel", "hasLaw", "(II)Z"⟩, 23), (⟨"LoanLayersModel", "keepPast", "()V"⟩, 23), (⟨"LoanLayersModel", "copyRow", "(II)V"⟩, 23), (⟨"LoanLayersModel", "isLaw", "(I)Z"⟩, 23), (⟨"LoanLayersModel", "meetings", "()I"⟩, 23), (⟨"LoanLayersModel", "isLoan", "(I)Z"⟩, 23), (⟨"LoanLayersModel", "takes", "(IIII)V"⟩, 23)]
theorem lw_r3 : ∀ q ∈ lw_privs_3, lw_okq q := List.forall_mem_cons.mpr ⟨lw_p32, List.forall_mem_cons.mpr ⟨lw_p33, List.forall_mem_cons.mpr ⟨lw_p34, List.forall_mem_cons.mpr ⟨lw_p35, List.forall_mem_cons.mpr ⟨lw_p36, List.forall_mem_cons.mpr ⟨lw_p37, List.forall_mem_cons.mpr ⟨lw_p38, List.forall_mem_cons.mpr ⟨lw_p39, List.forall_mem_cons.mpr ⟨lw_p40, List.forall_mem_cons.mpr ⟨lw_p41, List.forall_mem_cons.mpr ⟨lw_p42, List.forall_mem_cons.mpr ⟨lw_p43, List.forall_mem_cons.mpr ⟨lw_p44, List.forall_mem_cons.mpr ⟨lw_p45, List.forall_mem_cons.mpr ⟨lw_p46, List.forall_mem_cons.mpr ⟨lw_p47, fun _ h => absurd h List.not_mem_nil⟩⟩⟩⟩⟩⟩⟩⟩⟩⟩⟩⟩⟩⟩⟩⟩
theorem lw_p48 : lw_okq (⟨"LoanLayersModel", "takesWord", "(I)V"⟩, 23) := ⟨⟨by decide +kernel, by decide +kernel⟩, List.mem_of_getElem? (i := 749) (by decide +kernel), List.mem_of_getElem? (i := 991) (by decide +kernel), List.mem_of_getElem? (i := 992) (by decide +kernel)⟩
theorem lw_p49 : lw_okq (⟨"LoanLayersModel", "goes", "(III)V"⟩, 23) := ⟨⟨by decide +kernel, by decide +kernel⟩, List.mem_of_getElem? (i := 749) (by decide +kernel), List.mem_of_getElem? (i := 995) (by decide +kernel), List.mem_of_getElem? (i := 996) (by decide +kernel)⟩
theorem lw_p50 : lw_okq (⟨"LoanLayersModel", "hits", "(I)Z"⟩, 23) := ⟨⟨by decide +kernel, by decide +kernel⟩, List.mem_of_getElem? (i := 749) (by decide +kernel), List.mem_of_getElem? (i := 999) (by decide +kernel), List.mem_of_getElem? (i := 1000) (by decide +kernel)⟩
theorem lw_p51 : lw_okq (⟨"LoanLayersModel", "isWhere", "(III)Z"⟩, 23) := ⟨⟨by decide +kernel, by decide +kernel⟩, List.mem_of_getElem? (i := 749) (by decide +kernel), List.mem_of_getElem? (i := 1003) (by decide +kernel), List.mem_of_getElem? (i := 1004) (by decide +kernel)⟩
theorem lw_p52 : lw_okq (⟨"LoanLayersModel", "kind", "(I)I"⟩, 23) := ⟨⟨by decide +kernel, by decide +kernel⟩, List.mem_of_getElem? (i := 749) (by decide +kernel), List.mem_of_getElem? (i := 1036) (by decide +kernel), List.mem_of_getElem? (i := 1037) (by decide +kernel)⟩
theorem lw_p53 : lw_okq (⟨"LoanLayersModel", "firstOf", "(I)I"⟩, 23) := ⟨⟨by decide +kernel, by decide +kernel⟩, List.mem_of_getElem? (i := 749) (by decide +kernel), List.mem_of_getElem? (i := 1040) (by decide +kernel), List.mem_of_getElem? (i := 1041) (by decide +kernel)⟩
theorem lw_p54 : lw_okq (⟨"LoanLayersModel", "windowOf", "(IIZ)I"⟩, 23) := ⟨⟨by decide +kernel, by decide +kernel⟩, List.mem_of_getElem? (i := 749) (by decide +kernel), List.mem_of_getElem? (i := 1044) (by decide +kernel), List.mem_of_getElem? (i := 1045) (by decide +kernel)⟩
theorem lw_p55 : lw_okq (⟨"LoanLayersModel", "fits", "(II)Z"⟩, 23) := ⟨⟨by decide +kernel, by decide +kernel⟩, List.mem_of_getElem? (i := 749) (by decide +kernel), List.mem_of_getElem? (i := 1048) (by decide +kernel), List.mem_of_getElem? (i := 1049) (by decide +kernel)⟩
theorem lw_p56 : lw_okq (⟨"LoanLayersModel", "isMet", "(III)Z"⟩, 23) := ⟨⟨by decide +kernel, by decide +kernel⟩, List.mem_of_getElem? (i := 749) (by decide +kernel), List.mem_of_getElem? (i := 1052) (by decide +kernel), List.mem_of_getElem? (i := 1053) (by decide +kernel)⟩
theorem lw_p57 : lw_okq (⟨"LoanLayersModel", "isEnd", "(I)Z"⟩, 23) := ⟨⟨by decide +kernel, by decide +kernel⟩, List.mem_of_getElem? (i := 749) (by decide +kernel), List.mem_of_getElem? (i := 1056) (by decide +kernel), List.mem_of_getElem? (i := 1057) (by decide +kernel)⟩
theorem lw_p58 : lw_okq (⟨"LoanLayersModel", "windows", "(I)I"⟩, 23) := ⟨⟨by decide +kernel, by decide +kernel⟩, List.mem_of_getElem? (i := 749) (by decide +kernel), List.mem_of_getElem? (i := 1060) (by decide +kernel), List.mem_of_getElem? (i := 1061) (by decide +kernel)⟩
theorem lw_p59 : lw_okq (⟨"LoanLayersModel", "lastOf", "(I)I"⟩, 23) := ⟨⟨by decide +kernel, by decide +kernel⟩, List.mem_of_getElem? (i := 749) (by decide +kernel), List.mem_of_getElem? (i := 1064) (by decide +kernel), List.mem_of_getElem? (i := 1065) (by decide +kernel)⟩
theorem lw_p60 : lw_okq (⟨"LoanLayersModel", "finds", "()V"⟩, 23) := ⟨⟨by decide +kernel, by decide +kernel⟩, List.mem_of_getElem? (i := 749) (by decide +kernel), List.mem_of_getElem? (i := 1068) (by decide +kernel), List.mem_of_getElem? (i := 1069) (by decide +kernel)⟩
theorem lw_p61 : lw_okq (⟨"LoanLayersModel", "isOlder", "(II)Z"⟩, 23) := ⟨⟨by decide +kernel, by decide +kernel⟩, List.mem_of_getElem? (i := 749) (by decide +kernel), List.mem_of_getElem? (i := 1072) (by decide +kernel), List.mem_of_getElem? (i := 1073) (by decide +kernel)⟩
theorem lw_p62 : lw_okq (⟨"LoanLayersModel", "olderThan", "(I)I"⟩, 23) := ⟨⟨by decide +kernel, by decide +kernel⟩, List.mem_of_getElem? (i := 749) (by decide +kernel), List.mem_of_getElem? (i := 1076) (by decide +kernel), List.mem_of_getElem? (i := 1077) (by decide +kernel)⟩
theorem lw_p63 : lw_okq (⟨"LoanLayersModel", "formAt", "(I)I"⟩, 23) := ⟨⟨by decide +kernel, by decide +kernel⟩, List.mem_of_getElem? (i := 749) (by decide +kernel), List.mem_of_getElem? (i := 1092) (by decide +kernel), List.mem_of_getElem? (i := 1093) (by decide +kernel)⟩
def lw_privs_4 : List (MethodName × Nat) := [(⟨"LoanLayersModel", "takesWord", "(I)V"⟩, 23), (⟨"LoanLayersModel", "goes", "(III)V"⟩, 23), (⟨"LoanLayersModel", "hits", "(I)Z"⟩, 23), (⟨"LoanLayersModel", "isWhere", "(III)Z"⟩, 23), (⟨"LoanLayersModel", "kind", "(I)I"⟩, 23), (⟨"LoanLayersModel", "firstOf", "(I)I"⟩, 23), (⟨"LoanLayersModel", "windowOf", "(IIZ)I"⟩, 23), (⟨"LoanLayersModel", "fits", "(II)Z"⟩, 23), (⟨"LoanLayersModel", "isMet", "(III)Z"⟩, 23), (⟨"LoanLayersModel", "isEnd", "(I)Z"⟩, 23), (⟨"LoanLayersModel", "windows", "(I)I"⟩, 23), (⟨"LoanLayersModel", "lastOf", "(I)I"⟩, 23), (⟨"LoanLayersModel", "finds", "()V"⟩, 23), (⟨"LoanLayersModel", "isOlder", "(II)Z"⟩, 23), (⟨"LoanLayersModel", "olderThan", "(I)I"⟩, 23), (⟨"LoanLayersModel", "formAt", "(I)I"⟩, 23)]
theorem lw_r4 : ∀ q ∈ lw_privs_4, lw_okq q := List.forall_mem_cons.mpr ⟨lw_p48, List.forall_mem_cons.mpr ⟨lw_p49, List.forall_mem_cons.mpr ⟨lw_p50, List.forall_mem_cons.mpr ⟨lw_p51, List.forall_mem_cons.mpr ⟨lw_p52, List.forall_mem_cons.mpr ⟨lw_p53, List.forall_mem_cons.mpr ⟨lw_p54, List.forall_mem_cons.mpr ⟨lw_p55, List.forall_mem_cons.mpr ⟨lw_p56, List.forall_mem_cons.mpr ⟨lw_p57, List.forall_mem_cons.mpr ⟨lw_p58, List.forall_mem_cons.mpr ⟨lw_p59, List.forall_mem_cons.mpr ⟨lw_p60, List.forall_mem_cons.mpr ⟨lw_p61, List.forall_mem_cons.mpr ⟨lw_p62, List.forall_mem_cons.mpr ⟨lw_p63, fun _ h => absurd h List.not_mem_nil⟩⟩⟩⟩⟩⟩⟩⟩⟩⟩⟩⟩⟩⟩⟩⟩
theorem lw_p64 : lw_okq (⟨"LoanLayersModel", "roadOf", "(IIII)I"⟩, 23) := ⟨⟨by decide +kernel, by decide +kernel⟩, List.mem_of_getElem? (i := 749) (by decide +kernel), List.mem_of_getElem? (i := 1112) (by decide +kernel), List.mem_of_getElem? (i := 1113) (by decide +kernel)⟩
theorem lw_p65 : lw_okq (⟨"LoanLayersModel", "findsDates", "()V"⟩, 23) := ⟨⟨by decide +kernel, by decide +kernel⟩, List.mem_of_getElem? (i := 749) (by decide +kernel), List.mem_of_getElem? (i := 1116) (by decide +kernel), List.mem_of_getElem? (i := 1117) (by decide +kernel)⟩
theorem lw_p66 : lw_okq (⟨"LoanLayersModel", "isBeginning", "(I)Z"⟩, 23) := ⟨⟨by decide +kernel, by decide +kernel⟩, List.mem_of_getElem? (i := 749) (by decide +kernel), List.mem_of_getElem? (i := 1120) (by decide +kernel), List.mem_of_getElem? (i := 1121) (by decide +kernel)⟩
theorem lw_p67 : lw_okq (⟨"LoanLayersModel", "arrives", "(IIIII)Z"⟩, 23) := ⟨⟨by decide +kernel, by decide +kernel⟩, List.mem_of_getElem? (i := 749) (by decide +kernel), List.mem_of_getElem? (i := 1124) (by decide +kernel), List.mem_of_getElem? (i := 1125) (by decide +kernel)⟩
theorem lw_p68 : lw_okq (⟨"LoanLayersModel", "steps", "(II)V"⟩, 23) := ⟨⟨by decide +kernel, by decide +kernel⟩, List.mem_of_getElem? (i := 749) (by decide +kernel), List.mem_of_getElem? (i := 1128) (by decide +kernel), List.mem_of_getElem? (i := 1129) (by decide +kernel)⟩
theorem lw_p69 : lw_okq (⟨"LoanLayersModel", "isThird", "(IIIIII)Z"⟩, 23) := ⟨⟨by decide +kernel, by decide +kernel⟩, List.mem_of_getElem? (i := 749) (by decide +kernel), List.mem_of_getElem? (i := 1132) (by decide +kernel), List.mem_of_getElem? (i := 1133) (by decide +kernel)⟩
theorem lw_p70 : lw_okq (⟨"LoanLayersModel", "ofKind", "(I)I"⟩, 23) := ⟨⟨by decide +kernel, by decide +kernel⟩, List.mem_of_getElem? (i := 749) (by decide +kernel), List.mem_of_getElem? (i := 1140) (by decide +kernel), List.mem_of_getElem? (i := 1141) (by decide +kernel)⟩
theorem lw_p71 : lw_okq (⟨"LoanLayersModel", "greatestLayer", "()I"⟩, 23) := ⟨⟨by decide +kernel, by decide +kernel⟩, List.mem_of_getElem? (i := 749) (by decide +kernel), List.mem_of_getElem? (i := 1144) (by decide +kernel), List.mem_of_getElem? (i := 1145) (by decide +kernel)⟩
theorem lw_p72 : lw_okq (⟨"LoanLayersModel", "lawsOf", "(I)I"⟩, 23) := ⟨⟨by decide +kernel, by decide +kernel⟩, List.mem_of_getElem? (i := 749) (by decide +kernel), List.mem_of_getElem? (i := 1148) (by decide +kernel), List.mem_of_getElem? (i := 1149) (by decide +kernel)⟩
def lw_privs_5 : List (MethodName × Nat) := [(⟨"LoanLayersModel", "roadOf", "(IIII)I"⟩, 23), (⟨"LoanLayersModel", "findsDates", "()V"⟩, 23), (⟨"LoanLayersModel", "isBeginning", "(I)Z"⟩, 23), (⟨"LoanLayersModel", "arrives", "(IIIII)Z"⟩, 23), (⟨"LoanLayersModel", "steps", "(II)V"⟩, 23), (⟨"LoanLayersModel", "isThird", "(IIIIII)Z"⟩, 23), (⟨"LoanLayersModel", "ofKind", "(I)I"⟩, 23), (⟨"LoanLayersModel", "greatestLayer", "()I"⟩, 23), (⟨"LoanLayersModel", "lawsOf", "(I)I"⟩, 23)]
theorem lw_r5 : ∀ q ∈ lw_privs_5, lw_okq q := List.forall_mem_cons.mpr ⟨lw_p64, List.forall_mem_cons.mpr ⟨lw_p65, List.forall_mem_cons.mpr ⟨lw_p66, List.forall_mem_cons.mpr ⟨lw_p67, List.forall_mem_cons.mpr ⟨lw_p68, List.forall_mem_cons.mpr ⟨lw_p69, List.forall_mem_cons.mpr ⟨lw_p70, List.forall_mem_cons.mpr ⟨lw_p71, List.forall_mem_cons.mpr ⟨lw_p72, fun _ h => absurd h List.not_mem_nil⟩⟩⟩⟩⟩⟩⟩⟩⟩
def lw_privs : List (MethodName × Nat) := lw_privs_1 ++ (lw_privs_2 ++ (lw_privs_3 ++ (lw_privs_4 ++ (lw_privs_5))))
def lw_tbl : List Cond := k2_sels lw_privs ++ tables_1
theorem lw_privs_ok : ∀ q ∈ lw_privs, lw_okq q := by
  show ∀ q ∈ lw_privs_1 ++ (lw_privs_2 ++ (lw_privs_3 ++ (lw_privs_4 ++ (lw_privs_5)))), lw_okq q
  exact List.forall_mem_append.mpr ⟨lw_r1, List.forall_mem_append.mpr ⟨lw_r2, List.forall_mem_append.mpr ⟨lw_r3, List.forall_mem_append.mpr ⟨lw_r4, lw_r5⟩⟩⟩⟩

def RX0 : String := "LoanLayers$Form"
def TX0 : u_T := fun k => match k with
  | _ => ("", "", "", false)
def tyX0 : Nat → FieldType := fun k => match k with
  | _ => .int
abbrev wsX00 : List Cond := u_ws RX0 TX0 0
theorem nmX0 : ∀ a, a < 0 → ∀ b, b < 0 → a ≠ b → (TX0 a).2.1 ≠ (TX0 b).2.1 := by decide +kernel
theorem tyX0_ok : ∀ k, k < 0 → parseFieldDescriptor (TX0 k).2.2.1 = some (tyX0 k) := by decide +kernel
abbrev cX0_soundAt : ByteArray := prog_2_method_2_code
def yX0_soundAt : MethodName := ⟨RX0, "soundAt", "(JI)I"⟩
abbrev cX0_length : ByteArray := prog_2_method_3_code
def yX0_length : MethodName := ⟨RX0, "length", "(J)I"⟩
abbrev cX0_longer : ByteArray := prog_2_method_4_code
def yX0_longer : MethodName := ⟨RX0, "longer", "(JII)J"⟩
def RX1 : String := "LoanLayers$Law"
def TX1 : u_T := fun k => match k with
  | 0 => ("LoanLayers$Law", "tongue", "I", true)
  | 1 => ("LoanLayers$Law", "date", "I", true)
  | 2 => ("LoanLayers$Law", "x", "I", true)
  | 3 => ("LoanLayers$Law", "y", "I", true)
  | 4 => ("LoanLayers$Law", "where", "I", true)
  | _ => ("LoanLayers$Law", "z", "I", true)
def tyX1 : Nat → FieldType := fun k => match k with
  | 0 => .int
  | 1 => .int
  | 2 => .int
  | 3 => .int
  | 4 => .int
  | _ => .int
abbrev wsX10 : List Cond := u_ws RX1 TX1 6
theorem nmX1 : ∀ a, a < 6 → ∀ b, b < 6 → a ≠ b → (TX1 a).2.1 ≠ (TX1 b).2.1 := by decide +kernel
theorem tyX1_ok : ∀ k, k < 6 → parseFieldDescriptor (TX1 k).2.2.1 = some (tyX1 k) := by decide +kernel
abbrev cX1_init : ByteArray := prog_3_method_1_code
def yX1_init : MethodName := ⟨RX1, "<init>", "(IIIIII)V"⟩
abbrev cX1_isBefore : ByteArray := prog_3_method_2_code
def yX1_isBefore : MethodName := ⟨RX1, "isBefore", "(LLoanLayers$Law;)Z"⟩
abbrev cX1_affects : ByteArray := prog_3_method_3_code
def yX1_affects : MethodName := ⟨RX1, "affects", "(J)Z"⟩
abbrev cX1_applied : ByteArray := prog_3_method_4_code
def yX1_applied : MethodName := ⟨RX1, "applied", "(J)J"⟩
def RX2 : String := "LoanLayers$Layers"
def TX2 : u_T := fun k => match k with
  | 0 => ("LoanLayers$Layers", "into", "[I", true)
  | 1 => ("LoanLayers$Layers", "first", "[I", true)
  | 2 => ("LoanLayers$Layers", "last", "[I", true)
  | _ => ("LoanLayers$Layers", "layer", "[I", true)
def tyX2 : Nat → FieldType := fun k => match k with
  | 0 => .array .int
  | 1 => .array .int
  | 2 => .array .int
  | _ => .array .int
abbrev wsX20 : List Cond := u_ws RX2 TX2 4
theorem nmX2 : ∀ a, a < 4 → ∀ b, b < 4 → a ≠ b → (TX2 a).2.1 ≠ (TX2 b).2.1 := by decide +kernel
theorem tyX2_ok : ∀ k, k < 4 → parseFieldDescriptor (TX2 k).2.2.1 = some (tyX2 k) := by decide +kernel
abbrev cX2_init : ByteArray := prog_4_method_1_code
def yX2_init : MethodName := ⟨RX2, "<init>", "()V"⟩
abbrev cX2_of : ByteArray := prog_4_method_2_code
def yX2_of : MethodName := ⟨RX2, "of", "(LLoanLayers$World;LLoanLayers$Windows;)LLoanLayers$Layers;"⟩
abbrev cX2_layByFirstDate : ByteArray := prog_4_method_3_code
def yX2_layByFirstDate : MethodName := ⟨RX2, "layByFirstDate", "()V"⟩
abbrev cX2_greatestBefore : ByteArray := prog_4_method_4_code
def yX2_greatestBefore : MethodName := ⟨RX2, "greatestBefore", "(I)I"⟩
abbrev cX2_isOlder : ByteArray := prog_4_method_5_code
def yX2_isOlder : MethodName := ⟨RX2, "isOlder", "(II)Z"⟩
abbrev cX2_layerOf : ByteArray := prog_4_method_6_code
def yX2_layerOf : MethodName := ⟨RX2, "layerOf", "(I)I"⟩
abbrev cX2_olderThan : ByteArray := prog_4_method_7_code
def yX2_olderThan : MethodName := ⟨RX2, "olderThan", "(I)I"⟩
abbrev cX2_greatest : ByteArray := prog_4_method_8_code
def yX2_greatest : MethodName := ⟨RX2, "greatest", "()I"⟩
def RX3 : String := "LoanLayers$Loan"
def TX3 : u_T := fun k => match k with
  | 0 => ("LoanLayers$Loan", "from", "I", true)
  | 1 => ("LoanLayers$Loan", "to", "I", true)
  | 2 => ("LoanLayers$Loan", "word", "J", true)
  | _ => ("LoanLayers$Loan", "end", "J", true)
def tyX3 : Nat → FieldType := fun k => match k with
  | 0 => .int
  | 1 => .int
  | 2 => .long
  | _ => .long
abbrev wsX30 : List Cond := u_ws RX3 TX3 4
theorem nmX3 : ∀ a, a < 4 → ∀ b, b < 4 → a ≠ b → (TX3 a).2.1 ≠ (TX3 b).2.1 := by decide +kernel
theorem tyX3_ok : ∀ k, k < 4 → parseFieldDescriptor (TX3 k).2.2.1 = some (tyX3 k) := by decide +kernel
abbrev cX3_init : ByteArray := prog_5_method_1_code
def yX3_init : MethodName := ⟨RX3, "<init>", "(IIJJ)V"⟩
def RX4 : String := "LoanLayers$Past"
def TX4 : u_T := fun k => match k with
  | 0 => ("LoanLayers$Past", "worlds", "[LLoanLayers$World;", true)
  | _ => ("LoanLayers$Past", "size", "I", false)
def tyX4 : Nat → FieldType := fun k => match k with
  | 0 => .array (.object "LoanLayers$World")
  | _ => .int
abbrev wsX40 : List Cond := u_ws RX4 TX4 2
theorem nmX4 : ∀ a, a < 2 → ∀ b, b < 2 → a ≠ b → (TX4 a).2.1 ≠ (TX4 b).2.1 := by decide +kernel
theorem tyX4_ok : ∀ k, k < 2 → parseFieldDescriptor (TX4 k).2.2.1 = some (tyX4 k) := by decide +kernel
abbrev cX4_init : ByteArray := prog_6_method_1_code
def yX4_init : MethodName := ⟨RX4, "<init>", "()V"⟩
abbrev cX4_add : ByteArray := prog_6_method_2_code
def yX4_add : MethodName := ⟨RX4, "add", "(LLoanLayers$World;)V"⟩
abbrev cX4_latest : ByteArray := prog_6_method_3_code
def yX4_latest : MethodName := ⟨RX4, "latest", "()LLoanLayers$World;"⟩
abbrev cX4_forgetLatest : ByteArray := prog_6_method_4_code
def yX4_forgetLatest : MethodName := ⟨RX4, "forgetLatest", "()V"⟩
abbrev cX4_clear : ByteArray := prog_6_method_5_code
def yX4_clear : MethodName := ⟨RX4, "clear", "()V"⟩
def RX5 : String := "LoanLayers$Text"
def TX5 : u_T := fun k => match k with
  | 0 => ("LoanLayers$Text", "bytes", "[I", true)
  | 1 => ("LoanLayers$Text", "length", "I", false)
  | 2 => ("LoanLayers$Text", "clauses", "I", false)
  | 3 => ("LoanLayers$Text", "start", "I", false)
  | 4 => ("LoanLayers$Text", "end", "I", false)
  | _ => ("LoanLayers$Text", "kind", "I", false)
def tyX5 : Nat → FieldType := fun k => match k with
  | 0 => .array .int
  | 1 => .int
  | 2 => .int
  | 3 => .int
  | 4 => .int
  | _ => .int
abbrev wsX50 : List Cond := u_ws RX5 TX5 6
theorem nmX5 : ∀ a, a < 6 → ∀ b, b < 6 → a ≠ b → (TX5 a).2.1 ≠ (TX5 b).2.1 := by decide +kernel
theorem tyX5_ok : ∀ k, k < 6 → parseFieldDescriptor (TX5 k).2.2.1 = some (tyX5 k) := by decide +kernel
abbrev cX5_init : ByteArray := prog_7_method_1_code
def yX5_init : MethodName := ⟨RX5, "<init>", "()V"⟩
abbrev cX5_append : ByteArray := prog_7_method_2_code
def yX5_append : MethodName := ⟨RX5, "append", "(I)V"⟩
abbrev cX5_clear : ByteArray := prog_7_method_3_code
def yX5_clear : MethodName := ⟨RX5, "clear", "()V"⟩
abbrev cX5_read : ByteArray := prog_7_method_4_code
def yX5_read : MethodName := ⟨RX5, "read", "(LLoanLayers$World;)I"⟩
abbrev cX5_readClause : ByteArray := prog_7_method_5_code
def yX5_readClause : MethodName := ⟨RX5, "readClause", "(LLoanLayers$World;)Z"⟩
abbrev cX5_readLaw : ByteArray := prog_7_method_6_code
def yX5_readLaw : MethodName := ⟨RX5, "readLaw", "(LLoanLayers$World;)Z"⟩
abbrev cX5_readMeeting : ByteArray := prog_7_method_7_code
def yX5_readMeeting : MethodName := ⟨RX5, "readMeeting", "(LLoanLayers$World;)Z"⟩
abbrev cX5_readLoan : ByteArray := prog_7_method_8_code
def yX5_readLoan : MethodName := ⟨RX5, "readLoan", "(LLoanLayers$World;)Z"⟩
abbrev cX5_readPair : ByteArray := prog_7_method_9_code
def yX5_readPair : MethodName := ⟨RX5, "readPair", "()I"⟩
abbrev cX5_number : ByteArray := prog_7_method_10_code
def yX5_number : MethodName := ⟨RX5, "number", "(II)I"⟩
abbrev cX5_letter : ByteArray := prog_7_method_11_code
def yX5_letter : MethodName := ⟨RX5, "letter", "()I"⟩
abbrev cX5_form : ByteArray := prog_7_method_12_code
def yX5_form : MethodName := ⟨RX5, "form", "(I)J"⟩
abbrev cX5_environment : ByteArray := prog_7_method_13_code
def yX5_environment : MethodName := ⟨RX5, "environment", "()I"⟩
abbrev cX5_isSign : ByteArray := prog_7_method_14_code
def yX5_isSign : MethodName := ⟨RX5, "isSign", "(I)Z"⟩
abbrev cX5_isWord : ByteArray := prog_7_method_15_code
def yX5_isWord : MethodName := ⟨RX5, "isWord", "(Ljava/lang/String;)Z"⟩
abbrev cX5_advance : ByteArray := prog_7_method_16_code
def yX5_advance : MethodName := ⟨RX5, "advance", "()V"⟩
abbrev cX5_kindOf : ByteArray := prog_7_method_17_code
def yX5_kindOf : MethodName := ⟨RX5, "kindOf", "(I)I"⟩
abbrev cX5_byteAt : ByteArray := prog_7_method_18_code
def yX5_byteAt : MethodName := ⟨RX5, "byteAt", "(I)I"⟩
def RX6 : String := "LoanLayers$Way"
def TX6 : u_T := fun k => match k with
  | 0 => ("LoanLayers$Way", "lawOf", "[LLoanLayers$Law;", true)
  | 1 => ("LoanLayers$Way", "busy", "[Z", true)
  | 2 => ("LoanLayers$Way", "tried", "[J", true)
  | 3 => ("LoanLayers$Way", "steps", "[I", true)
  | 4 => ("LoanLayers$Way", "end", "J", false)
  | 5 => ("LoanLayers$Way", "to", "I", false)
  | _ => ("LoanLayers$Way", "number", "I", false)
def tyX6 : Nat → FieldType := fun k => match k with
  | 0 => .array (.object "LoanLayers$Law")
  | 1 => .array .boolean
  | 2 => .array .long
  | 3 => .array .int
  | 4 => .long
  | 5 => .int
  | _ => .int
abbrev wsX60 : List Cond := u_ws RX6 TX6 7
theorem nmX6 : ∀ a, a < 7 → ∀ b, b < 7 → a ≠ b → (TX6 a).2.1 ≠ (TX6 b).2.1 := by decide +kernel
theorem tyX6_ok : ∀ k, k < 7 → parseFieldDescriptor (TX6 k).2.2.1 = some (tyX6 k) := by decide +kernel
abbrev cX6_init : ByteArray := prog_8_method_1_code
def yX6_init : MethodName := ⟨RX6, "<init>", "()V"⟩
abbrev cX6_find : ByteArray := prog_8_method_2_code
def yX6_find : MethodName := ⟨RX6, "find", "(LLoanLayers$World;JIJI)V"⟩
abbrev cX6_stepAt : ByteArray := prog_8_method_3_code
def yX6_stepAt : MethodName := ⟨RX6, "stepAt", "(I)I"⟩
abbrev cX6_prepare : ByteArray := prog_8_method_4_code
def yX6_prepare : MethodName := ⟨RX6, "prepare", "(LLoanLayers$World;)V"⟩
abbrev cX6_leads : ByteArray := prog_8_method_5_code
def yX6_leads : MethodName := ⟨RX6, "leads", "(LLoanLayers$World;IIIJ)Z"⟩
abbrev cX6_branches : ByteArray := prog_8_method_6_code
def yX6_branches : MethodName := ⟨RX6, "branches", "(LLoanLayers$World;IIIJ)Z"⟩
abbrev cX6_ageTried : ByteArray := prog_8_method_7_code
def yX6_ageTried : MethodName := ⟨RX6, "ageTried", "(II)V"⟩
abbrev cX6_isBusy : ByteArray := prog_8_method_8_code
def yX6_isBusy : MethodName := ⟨RX6, "isBusy", "(I)Z"⟩
abbrev cX6_changed : ByteArray := prog_8_method_9_code
def yX6_changed : MethodName := ⟨RX6, "changed", "(JII)J"⟩
def RX7 : String := "LoanLayers$Windows"
def TX7 : u_T := fun k => match k with
  | 0 => ("LoanLayers$Windows", "first", "[I", true)
  | 1 => ("LoanLayers$Windows", "last", "[I", true)
  | _ => ("LoanLayers$Windows", "number", "I", false)
def tyX7 : Nat → FieldType := fun k => match k with
  | 0 => .array .int
  | 1 => .array .int
  | _ => .int
abbrev wsX70 : List Cond := u_ws RX7 TX7 3
theorem nmX7 : ∀ a, a < 3 → ∀ b, b < 3 → a ≠ b → (TX7 a).2.1 ≠ (TX7 b).2.1 := by decide +kernel
theorem tyX7_ok : ∀ k, k < 3 → parseFieldDescriptor (TX7 k).2.2.1 = some (tyX7 k) := by decide +kernel
abbrev cX7_init : ByteArray := prog_9_method_1_code
def yX7_init : MethodName := ⟨RX7, "<init>", "()V"⟩
abbrev cX7_of : ByteArray := prog_9_method_2_code
def yX7_of : MethodName := ⟨RX7, "of", "(LLoanLayers$World;LLoanLayers$Loan;)LLoanLayers$Windows;"⟩
abbrev cX7_add : ByteArray := prog_9_method_3_code
def yX7_add : MethodName := ⟨RX7, "add", "(II)V"⟩
abbrev cX7_firstOf : ByteArray := prog_9_method_4_code
def yX7_firstOf : MethodName := ⟨RX7, "firstOf", "(I)I"⟩
abbrev cX7_lastOf : ByteArray := prog_9_method_5_code
def yX7_lastOf : MethodName := ⟨RX7, "lastOf", "(I)I"⟩
abbrev cX7_earliest : ByteArray := prog_9_method_6_code
def yX7_earliest : MethodName := ⟨RX7, "earliest", "()I"⟩
abbrev cX7_latest : ByteArray := prog_9_method_7_code
def yX7_latest : MethodName := ⟨RX7, "latest", "()I"⟩
abbrev cX7_kind : ByteArray := prog_9_method_8_code
def yX7_kind : MethodName := ⟨RX7, "kind", "()I"⟩
def RX8 : String := "LoanLayers$World"
def TX8 : u_T := fun k => match k with
  | 0 => ("LoanLayers$World", "laws", "[LLoanLayers$Law;", true)
  | 1 => ("LoanLayers$World", "loans", "[LLoanLayers$Loan;", true)
  | 2 => ("LoanLayers$World", "first", "[I", true)
  | 3 => ("LoanLayers$World", "last", "[I", true)
  | 4 => ("LoanLayers$World", "lawCount", "I", false)
  | _ => ("LoanLayers$World", "loanCount", "I", false)
def tyX8 : Nat → FieldType := fun k => match k with
  | 0 => .array (.object "LoanLayers$Law")
  | 1 => .array (.object "LoanLayers$Loan")
  | 2 => .array .int
  | 3 => .array .int
  | 4 => .int
  | _ => .int
abbrev wsX80 : List Cond := u_ws RX8 TX8 6
theorem nmX8 : ∀ a, a < 6 → ∀ b, b < 6 → a ≠ b → (TX8 a).2.1 ≠ (TX8 b).2.1 := by decide +kernel
theorem tyX8_ok : ∀ k, k < 6 → parseFieldDescriptor (TX8 k).2.2.1 = some (tyX8 k) := by decide +kernel
abbrev cX8_init : ByteArray := prog_10_method_1_code
def yX8_init : MethodName := ⟨RX8, "<init>", "()V"⟩
abbrev cX8_copy : ByteArray := prog_10_method_2_code
def yX8_copy : MethodName := ⟨RX8, "copy", "()LLoanLayers$World;"⟩
abbrev cX8_clear : ByteArray := prog_10_method_3_code
def yX8_clear : MethodName := ⟨RX8, "clear", "()V"⟩
abbrev cX8_lawAt : ByteArray := prog_10_method_4_code
def yX8_lawAt : MethodName := ⟨RX8, "lawAt", "(I)LLoanLayers$Law;"⟩
abbrev cX8_hasLaw : ByteArray := prog_10_method_5_code
def yX8_hasLaw : MethodName := ⟨RX8, "hasLaw", "(II)Z"⟩
abbrev cX8_lawsOf : ByteArray := prog_10_method_6_code
def yX8_lawsOf : MethodName := ⟨RX8, "lawsOf", "(I)I"⟩
abbrev cX8_addLaw : ByteArray := prog_10_method_7_code
def yX8_addLaw : MethodName := ⟨RX8, "addLaw", "(LLoanLayers$Law;)I"⟩
abbrev cX8_removeLaw : ByteArray := prog_10_method_8_code
def yX8_removeLaw : MethodName := ⟨RX8, "removeLaw", "(I)V"⟩
abbrev cX8_firstOf : ByteArray := prog_10_method_9_code
def yX8_firstOf : MethodName := ⟨RX8, "firstOf", "(I)I"⟩
abbrev cX8_lastOf : ByteArray := prog_10_method_10_code
def yX8_lastOf : MethodName := ⟨RX8, "lastOf", "(I)I"⟩
abbrev cX8_setMeeting : ByteArray := prog_10_method_11_code
def yX8_setMeeting : MethodName := ⟨RX8, "setMeeting", "(III)V"⟩
abbrev cX8_meetings : ByteArray := prog_10_method_12_code
def yX8_meetings : MethodName := ⟨RX8, "meetings", "()I"⟩
abbrev cX8_isMeeting : ByteArray := prog_10_method_13_code
def yX8_isMeeting : MethodName := ⟨RX8, "isMeeting", "(II)Z"⟩
abbrev cX8_loanAt : ByteArray := prog_10_method_14_code
def yX8_loanAt : MethodName := ⟨RX8, "loanAt", "(I)LLoanLayers$Loan;"⟩
abbrev cX8_addLoan : ByteArray := prog_10_method_15_code
def yX8_addLoan : MethodName := ⟨RX8, "addLoan", "(LLoanLayers$Loan;)V"⟩
abbrev cX8_removeLoan : ByteArray := prog_10_method_16_code
def yX8_removeLoan : MethodName := ⟨RX8, "removeLoan", "(I)V"⟩
abbrev cX8_developed : ByteArray := prog_10_method_17_code
def yX8_developed : MethodName := ⟨RX8, "developed", "(JIII)J"⟩
abbrev cX8_borrowed : ByteArray := prog_10_method_18_code
def yX8_borrowed : MethodName := ⟨RX8, "borrowed", "(JIII)J"⟩
def RX9 : String := "LoanLayers"
def TX9 : u_T := fun k => match k with
  | 0 => ("LoanLayers", "now", "LLoanLayers$World;", false)
  | 1 => ("LoanLayers", "past", "LLoanLayers$Past;", true)
  | 2 => ("LoanLayers", "saved", "[LLoanLayers$World;", true)
  | 3 => ("LoanLayers", "text", "LLoanLayers$Text;", true)
  | 4 => ("LoanLayers", "windows", "LLoanLayers$Windows;", true)
  | 5 => ("LoanLayers", "layers", "LLoanLayers$Layers;", true)
  | _ => ("LoanLayers", "way", "LLoanLayers$Way;", true)
def tyX9 : Nat → FieldType := fun k => match k with
  | 0 => .object "LoanLayers$World"
  | 1 => .object "LoanLayers$Past"
  | 2 => .array (.object "LoanLayers$World")
  | 3 => .object "LoanLayers$Text"
  | 4 => .object "LoanLayers$Windows"
  | 5 => .object "LoanLayers$Layers"
  | _ => .object "LoanLayers$Way"
abbrev wsX90 : List Cond := u_ws RX9 TX9 7
theorem nmX9 : ∀ a, a < 7 → ∀ b, b < 7 → a ≠ b → (TX9 a).2.1 ≠ (TX9 b).2.1 := by decide +kernel
theorem tyX9_ok : ∀ k, k < 7 → parseFieldDescriptor (TX9 k).2.2.1 = some (tyX9 k) := by decide +kernel
abbrev cX9_init : ByteArray := prog_1_method_1_code
def yX9_init : MethodName := ⟨RX9, "<init>", "()V"⟩
abbrev cX9_type : ByteArray := prog_1_method_2_code
def yX9_type : MethodName := ⟨RX9, "type", "(I)I"⟩
abbrev cX9_erase : ByteArray := prog_1_method_3_code
def yX9_erase : MethodName := ⟨RX9, "erase", "()I"⟩
abbrev cX9_fault : ByteArray := prog_1_method_4_code
def yX9_fault : MethodName := ⟨RX9, "fault", "()I"⟩
abbrev cX9_tell : ByteArray := prog_1_method_5_code
def yX9_tell : MethodName := ⟨RX9, "tell", "()I"⟩
abbrev cX9_law : ByteArray := prog_1_method_6_code
def yX9_law : MethodName := ⟨RX9, "law", "(IIIIII)I"⟩
abbrev cX9_repeal : ByteArray := prog_1_method_7_code
def yX9_repeal : MethodName := ⟨RX9, "repeal", "(I)I"⟩
abbrev cX9_meet : ByteArray := prog_1_method_8_code
def yX9_meet : MethodName := ⟨RX9, "meet", "(IIII)I"⟩
abbrev cX9_part : ByteArray := prog_1_method_9_code
def yX9_part : MethodName := ⟨RX9, "part", "(II)I"⟩
abbrev cX9_lend : ByteArray := prog_1_method_10_code
def yX9_lend : MethodName := ⟨RX9, "lend", "(IIII)I"⟩
abbrev cX9_drop : ByteArray := prog_1_method_11_code
def yX9_drop : MethodName := ⟨RX9, "drop", "(I)I"⟩
abbrev cX9_undo : ByteArray := prog_1_method_12_code
def yX9_undo : MethodName := ⟨RX9, "undo", "()I"⟩
abbrev cX9_keep : ByteArray := prog_1_method_13_code
def yX9_keep : MethodName := ⟨RX9, "keep", "(I)I"⟩
abbrev cX9_back : ByteArray := prog_1_method_14_code
def yX9_back : MethodName := ⟨RX9, "back", "(I)I"⟩
abbrev cX9_act : ByteArray := prog_1_method_15_code
def yX9_act : MethodName := ⟨RX9, "act", "(LLoanLayers$World;)V"⟩
abbrev cX9_told : ByteArray := prog_1_method_16_code
def yX9_told : MethodName := ⟨RX9, "told", "(II)I"⟩
abbrev cX9_meeting : ByteArray := prog_1_method_17_code
def yX9_meeting : MethodName := ⟨RX9, "meeting", "(III)I"⟩
abbrev cX9_loan : ByteArray := prog_1_method_18_code
def yX9_loan : MethodName := ⟨RX9, "loan", "(II)I"⟩
abbrev cX9_sound : ByteArray := prog_1_method_19_code
def yX9_sound : MethodName := ⟨RX9, "sound", "(III)I"⟩
abbrev cX9_window : ByteArray := prog_1_method_20_code
def yX9_window : MethodName := ⟨RX9, "window", "(III)I"⟩
abbrev cX9_taken : ByteArray := prog_1_method_21_code
def yX9_taken : MethodName := ⟨RX9, "taken", "(III)I"⟩
abbrev cX9_gone : ByteArray := prog_1_method_22_code
def yX9_gone : MethodName := ⟨RX9, "gone", "(IIIII)I"⟩
abbrev cX9_did : ByteArray := prog_1_method_23_code
def yX9_did : MethodName := ⟨RX9, "did", "(III)I"⟩
abbrev cX9_older : ByteArray := prog_1_method_24_code
def yX9_older : MethodName := ⟨RX9, "older", "(II)I"⟩
abbrev cX9_road : ByteArray := prog_1_method_25_code
def yX9_road : MethodName := ⟨RX9, "road", "(IIIII)I"⟩
abbrev cX9_count : ByteArray := prog_1_method_26_code
def yX9_count : MethodName := ⟨RX9, "count", "(I)I"⟩
abbrev cX9_loansOfKind : ByteArray := prog_1_method_27_code
def yX9_loansOfKind : MethodName := ⟨RX9, "loansOfKind", "(I)I"⟩
abbrev cX9_soundOrNumber : ByteArray := prog_1_method_28_code
def yX9_soundOrNumber : MethodName := ⟨RX9, "soundOrNumber", "(JI)I"⟩
abbrev cX9_within : ByteArray := prog_1_method_29_code
def yX9_within : MethodName := ⟨RX9, "within", "(III)Z"⟩
abbrev cX9_isTongue : ByteArray := prog_1_method_30_code
def yX9_isTongue : MethodName := ⟨RX9, "isTongue", "(I)Z"⟩
abbrev cX9_isDate : ByteArray := prog_1_method_31_code
def yX9_isDate : MethodName := ⟨RX9, "isDate", "(I)Z"⟩
abbrev cX9_isSound : ByteArray := prog_1_method_32_code
def yX9_isSound : MethodName := ⟨RX9, "isSound", "(I)Z"⟩
abbrev cX9_pairOf : ByteArray := prog_1_method_33_code
def yX9_pairOf : MethodName := ⟨RX9, "pairOf", "(II)I"⟩
def RX10 : String := "LoanLayersModel"
def TX10 : u_T := fun k => match k with
  | 0 => ("LoanLayersModel", "row", "[I", true)
  | 1 => ("LoanLayersModel", "undos", "I", false)
  | 2 => ("LoanLayersModel", "isKept", "[Z", true)
  | 3 => ("LoanLayersModel", "text", "[I", true)
  | 4 => ("LoanLayersModel", "length", "I", false)
  | 5 => ("LoanLayersModel", "first", "I", false)
  | 6 => ("LoanLayersModel", "behind", "I", false)
  | 7 => ("LoanLayersModel", "toldLaws", "[Z", true)
  | 8 => ("LoanLayersModel", "toldMany", "I", false)
  | 9 => ("LoanLayersModel", "toldLoans", "I", false)
  | 10 => ("LoanLayersModel", "clauses", "I", false)
  | 11 => ("LoanLayersModel", "doing", "Z", false)
  | 12 => ("LoanLayersModel", "numbers", "[I", true)
  | 13 => ("LoanLayersModel", "words", "[I", true)
  | 14 => ("LoanLayersModel", "form", "[I", true)
  | 15 => ("LoanLayersModel", "many", "I", false)
  | 16 => ("LoanLayersModel", "before", "[I", true)
  | 17 => ("LoanLayersModel", "firsts", "[I", true)
  | 18 => ("LoanLayersModel", "lasts", "[I", true)
  | 19 => ("LoanLayersModel", "layers", "[I", true)
  | 20 => ("LoanLayersModel", "steps", "[I", true)
  | 21 => ("LoanLayersModel", "dates", "[I", true)
  | _ => ("LoanLayersModel", "datesMany", "I", false)
def tyX10 : Nat → FieldType := fun k => match k with
  | 0 => .array .int
  | 1 => .int
  | 2 => .array .boolean
  | 3 => .array .int
  | 4 => .int
  | 5 => .int
  | 6 => .int
  | 7 => .array .boolean
  | 8 => .int
  | 9 => .int
  | 10 => .int
  | 11 => .boolean
  | 12 => .array .int
  | 13 => .array .int
  | 14 => .array .int
  | 15 => .int
  | 16 => .array .int
  | 17 => .array .int
  | 18 => .array .int
  | 19 => .array .int
  | 20 => .array .int
  | 21 => .array .int
  | _ => .int
abbrev wsX100 : List Cond := u_ws RX10 TX10 23
theorem nmX10 : ∀ a, a < 23 → ∀ b, b < 23 → a ≠ b → (TX10 a).2.1 ≠ (TX10 b).2.1 := by decide +kernel
theorem tyX10_ok : ∀ k, k < 23 → parseFieldDescriptor (TX10 k).2.2.1 = some (tyX10 k) := by decide +kernel
abbrev cX10_init : ByteArray := prog_12_method_1_code
def yX10_init : MethodName := ⟨RX10, "<init>", "()V"⟩
abbrev cX10_in : ByteArray := prog_12_method_2_code
def yX10_in : MethodName := ⟨RX10, "in", "(JJJ)Z"⟩
abbrev cX10_isTongue : ByteArray := prog_12_method_3_code
def yX10_isTongue : MethodName := ⟨RX10, "isTongue", "(I)Z"⟩
abbrev cX10_areTongues : ByteArray := prog_12_method_4_code
def yX10_areTongues : MethodName := ⟨RX10, "areTongues", "(II)Z"⟩
abbrev cX10_isLaw : ByteArray := prog_12_method_5_code
def yX10_isLaw : MethodName := ⟨RX10, "isLaw", "(I)Z"⟩
abbrev cX10_isLoan : ByteArray := prog_12_method_6_code
def yX10_isLoan : MethodName := ⟨RX10, "isLoan", "(I)Z"⟩
abbrev cX10_isDate : ByteArray := prog_12_method_7_code
def yX10_isDate : MethodName := ⟨RX10, "isDate", "(I)Z"⟩
abbrev cX10_lawOf : ByteArray := prog_12_method_8_code
def yX10_lawOf : MethodName := ⟨RX10, "lawOf", "(II)I"⟩
abbrev cX10_loanAt : ByteArray := prog_12_method_9_code
def yX10_loanAt : MethodName := ⟨RX10, "loanAt", "(I)I"⟩
abbrev cX10_meetAt : ByteArray := prog_12_method_10_code
def yX10_meetAt : MethodName := ⟨RX10, "meetAt", "(II)I"⟩
abbrev cX10_meetings : ByteArray := prog_12_method_11_code
def yX10_meetings : MethodName := ⟨RX10, "meetings", "()I"⟩
abbrev cX10_isMet : ByteArray := prog_12_method_12_code
def yX10_isMet : MethodName := ⟨RX10, "isMet", "(III)Z"⟩
abbrev cX10_type : ByteArray := prog_12_method_13_code
def yX10_type : MethodName := ⟨RX10, "type", "(I)I"⟩
abbrev cX10_erase : ByteArray := prog_12_method_14_code
def yX10_erase : MethodName := ⟨RX10, "erase", "()I"⟩
abbrev cX10_isSmall : ByteArray := prog_12_method_15_code
def yX10_isSmall : MethodName := ⟨RX10, "isSmall", "(I)Z"⟩
abbrev cX10_isDigit : ByteArray := prog_12_method_16_code
def yX10_isDigit : MethodName := ⟨RX10, "isDigit", "(I)Z"⟩
abbrev cX10_nextToken : ByteArray := prog_12_method_17_code
def yX10_nextToken : MethodName := ⟨RX10, "nextToken", "()V"⟩
abbrev cX10_wordHere : ByteArray := prog_12_method_18_code
def yX10_wordHere : MethodName := ⟨RX10, "wordHere", "()I"⟩
abbrev cX10_numberHere : ByteArray := prog_12_method_19_code
def yX10_numberHere : MethodName := ⟨RX10, "numberHere", "()I"⟩
abbrev cX10_number : ByteArray := prog_12_method_20_code
def yX10_number : MethodName := ⟨RX10, "number", "(IIII)Z"⟩
abbrev cX10_isSign : ByteArray := prog_12_method_21_code
def yX10_isSign : MethodName := ⟨RX10, "isSign", "(I)Z"⟩
abbrev cX10_readsSound : ByteArray := prog_12_method_22_code
def yX10_readsSound : MethodName := ⟨RX10, "readsSound", "(II)Z"⟩
abbrev cX10_lostOrSound : ByteArray := prog_12_method_23_code
def yX10_lostOrSound : MethodName := ⟨RX10, "lostOrSound", "(II)Z"⟩
abbrev cX10_where : ByteArray := prog_12_method_24_code
def yX10_where : MethodName := ⟨RX10, "where", "()Z"⟩
abbrev cX10_readsLaw : ByteArray := prog_12_method_25_code
def yX10_readsLaw : MethodName := ⟨RX10, "readsLaw", "()Z"⟩
abbrev cX10_readsMeet : ByteArray := prog_12_method_26_code
def yX10_readsMeet : MethodName := ⟨RX10, "readsMeet", "()Z"⟩
abbrev cX10_rowOf : ByteArray := prog_12_method_27_code
def yX10_rowOf : MethodName := ⟨RX10, "rowOf", "(II)I"⟩
abbrev cX10_readsLoan : ByteArray := prog_12_method_28_code
def yX10_readsLoan : MethodName := ⟨RX10, "readsLoan", "()Z"⟩
abbrev cX10_readsAll : ByteArray := prog_12_method_29_code
def yX10_readsAll : MethodName := ⟨RX10, "readsAll", "()Z"⟩
abbrev cX10_readsClause : ByteArray := prog_12_method_30_code
def yX10_readsClause : MethodName := ⟨RX10, "readsClause", "()Z"⟩
abbrev cX10_reads : ByteArray := prog_12_method_31_code
def yX10_reads : MethodName := ⟨RX10, "reads", "(Z)Z"⟩
abbrev cX10_fault : ByteArray := prog_12_method_32_code
def yX10_fault : MethodName := ⟨RX10, "fault", "()I"⟩
abbrev cX10_tell : ByteArray := prog_12_method_33_code
def yX10_tell : MethodName := ⟨RX10, "tell", "()I"⟩
abbrev cX10_takesWord : ByteArray := prog_12_method_34_code
def yX10_takesWord : MethodName := ⟨RX10, "takesWord", "(I)V"⟩
abbrev cX10_isWhere : ByteArray := prog_12_method_35_code
def yX10_isWhere : MethodName := ⟨RX10, "isWhere", "(III)Z"⟩
abbrev cX10_hits : ByteArray := prog_12_method_36_code
def yX10_hits : MethodName := ⟨RX10, "hits", "(I)Z"⟩
abbrev cX10_goes : ByteArray := prog_12_method_37_code
def yX10_goes : MethodName := ⟨RX10, "goes", "(III)V"⟩
abbrev cX10_takes : ByteArray := prog_12_method_38_code
def yX10_takes : MethodName := ⟨RX10, "takes", "(IIII)V"⟩
abbrev cX10_isEnd : ByteArray := prog_12_method_39_code
def yX10_isEnd : MethodName := ⟨RX10, "isEnd", "(I)Z"⟩
abbrev cX10_fits : ByteArray := prog_12_method_40_code
def yX10_fits : MethodName := ⟨RX10, "fits", "(II)Z"⟩
abbrev cX10_windowOf : ByteArray := prog_12_method_41_code
def yX10_windowOf : MethodName := ⟨RX10, "windowOf", "(IIZ)I"⟩
abbrev cX10_windows : ByteArray := prog_12_method_42_code
def yX10_windows : MethodName := ⟨RX10, "windows", "(I)I"⟩
abbrev cX10_firstOf : ByteArray := prog_12_method_43_code
def yX10_firstOf : MethodName := ⟨RX10, "firstOf", "(I)I"⟩
abbrev cX10_lastOf : ByteArray := prog_12_method_44_code
def yX10_lastOf : MethodName := ⟨RX10, "lastOf", "(I)I"⟩
abbrev cX10_kind : ByteArray := prog_12_method_45_code
def yX10_kind : MethodName := ⟨RX10, "kind", "(I)I"⟩
abbrev cX10_isOlder : ByteArray := prog_12_method_46_code
def yX10_isOlder : MethodName := ⟨RX10, "isOlder", "(II)Z"⟩
abbrev cX10_finds : ByteArray := prog_12_method_47_code
def yX10_finds : MethodName := ⟨RX10, "finds", "()V"⟩
abbrev cX10_olderThan : ByteArray := prog_12_method_48_code
def yX10_olderThan : MethodName := ⟨RX10, "olderThan", "(I)I"⟩
abbrev cX10_copyRow : ByteArray := prog_12_method_49_code
def yX10_copyRow : MethodName := ⟨RX10, "copyRow", "(II)V"⟩
abbrev cX10_keepPast : ByteArray := prog_12_method_50_code
def yX10_keepPast : MethodName := ⟨RX10, "keepPast", "()V"⟩
abbrev cX10_puts : ByteArray := prog_12_method_51_code
def yX10_puts : MethodName := ⟨RX10, "puts", "(IIIIII)I"⟩
abbrev cX10_hasLaw : ByteArray := prog_12_method_52_code
def yX10_hasLaw : MethodName := ⟨RX10, "hasLaw", "(II)Z"⟩
abbrev cX10_law : ByteArray := prog_12_method_53_code
def yX10_law : MethodName := ⟨RX10, "law", "(IIIIII)I"⟩
abbrev cX10_repeal : ByteArray := prog_12_method_54_code
def yX10_repeal : MethodName := ⟨RX10, "repeal", "(I)I"⟩
abbrev cX10_meet : ByteArray := prog_12_method_55_code
def yX10_meet : MethodName := ⟨RX10, "meet", "(IIII)I"⟩
abbrev cX10_part : ByteArray := prog_12_method_56_code
def yX10_part : MethodName := ⟨RX10, "part", "(II)I"⟩
abbrev cX10_lend : ByteArray := prog_12_method_57_code
def yX10_lend : MethodName := ⟨RX10, "lend", "(IIII)I"⟩
abbrev cX10_drop : ByteArray := prog_12_method_58_code
def yX10_drop : MethodName := ⟨RX10, "drop", "(I)I"⟩
abbrev cX10_undo : ByteArray := prog_12_method_59_code
def yX10_undo : MethodName := ⟨RX10, "undo", "()I"⟩
abbrev cX10_keep : ByteArray := prog_12_method_60_code
def yX10_keep : MethodName := ⟨RX10, "keep", "(I)I"⟩
abbrev cX10_back : ByteArray := prog_12_method_61_code
def yX10_back : MethodName := ⟨RX10, "back", "(I)I"⟩
abbrev cX10_told : ByteArray := prog_12_method_62_code
def yX10_told : MethodName := ⟨RX10, "told", "(II)I"⟩
abbrev cX10_meeting : ByteArray := prog_12_method_63_code
def yX10_meeting : MethodName := ⟨RX10, "meeting", "(III)I"⟩
abbrev cX10_loan : ByteArray := prog_12_method_64_code
def yX10_loan : MethodName := ⟨RX10, "loan", "(II)I"⟩
abbrev cX10_sound : ByteArray := prog_12_method_65_code
def yX10_sound : MethodName := ⟨RX10, "sound", "(III)I"⟩
abbrev cX10_window : ByteArray := prog_12_method_66_code
def yX10_window : MethodName := ⟨RX10, "window", "(III)I"⟩
abbrev cX10_formAt : ByteArray := prog_12_method_67_code
def yX10_formAt : MethodName := ⟨RX10, "formAt", "(I)I"⟩
abbrev cX10_taken : ByteArray := prog_12_method_68_code
def yX10_taken : MethodName := ⟨RX10, "taken", "(III)I"⟩
abbrev cX10_gone : ByteArray := prog_12_method_69_code
def yX10_gone : MethodName := ⟨RX10, "gone", "(IIIII)I"⟩
abbrev cX10_did : ByteArray := prog_12_method_70_code
def yX10_did : MethodName := ⟨RX10, "did", "(III)I"⟩
abbrev cX10_older : ByteArray := prog_12_method_71_code
def yX10_older : MethodName := ⟨RX10, "older", "(II)I"⟩
abbrev cX10_isBeginning : ByteArray := prog_12_method_72_code
def yX10_isBeginning : MethodName := ⟨RX10, "isBeginning", "(I)Z"⟩
abbrev cX10_arrives : ByteArray := prog_12_method_73_code
def yX10_arrives : MethodName := ⟨RX10, "arrives", "(IIIII)Z"⟩
abbrev cX10_findsDates : ByteArray := prog_12_method_74_code
def yX10_findsDates : MethodName := ⟨RX10, "findsDates", "()V"⟩
abbrev cX10_steps : ByteArray := prog_12_method_75_code
def yX10_steps : MethodName := ⟨RX10, "steps", "(II)V"⟩
abbrev cX10_roadOf : ByteArray := prog_12_method_76_code
def yX10_roadOf : MethodName := ⟨RX10, "roadOf", "(IIII)I"⟩
abbrev cX10_isThird : ByteArray := prog_12_method_77_code
def yX10_isThird : MethodName := ⟨RX10, "isThird", "(IIIIII)Z"⟩
abbrev cX10_road : ByteArray := prog_12_method_78_code
def yX10_road : MethodName := ⟨RX10, "road", "(IIIII)I"⟩
abbrev cX10_ofKind : ByteArray := prog_12_method_79_code
def yX10_ofKind : MethodName := ⟨RX10, "ofKind", "(I)I"⟩
abbrev cX10_greatestLayer : ByteArray := prog_12_method_80_code
def yX10_greatestLayer : MethodName := ⟨RX10, "greatestLayer", "()I"⟩
abbrev cX10_lawsOf : ByteArray := prog_12_method_81_code
def yX10_lawsOf : MethodName := ⟨RX10, "lawsOf", "(I)I"⟩
abbrev cX10_count : ByteArray := prog_12_method_82_code
def yX10_count : MethodName := ⟨RX10, "count", "(I)I"⟩
def RJ9 : String := "java/lang/Math"
abbrev cJ9_max_7cf53 : ByteArray := prog_13_method_65_code
def yJ9_max_7cf53 : MethodName := ⟨RJ9, "max", "(II)I"⟩
abbrev cJ9_min_7cf53 : ByteArray := prog_13_method_69_code
def yJ9_min_7cf53 : MethodName := ⟨RJ9, "min", "(II)I"⟩
def RJ0 : String := "java/lang/String"
abbrev cJ0_length_8abf5 : ByteArray := prog_14_method_54_code
def yJ0_length_8abf5 : MethodName := ⟨RJ0, "length", "()I"⟩
abbrev cJ0_charAt_5068e : ByteArray := prog_14_method_56_code
def yJ0_charAt_5068e : MethodName := ⟨RJ0, "charAt", "(I)C"⟩
abbrev cJ0_coder_7d493 : ByteArray := prog_14_method_152_code
def yJ0_coder_7d493 : MethodName := ⟨RJ0, "coder", "()B"⟩
abbrev cJ0_isLatin1_aae02 : ByteArray := prog_14_method_154_code
def yJ0_isLatin1_aae02 : MethodName := ⟨RJ0, "isLatin1", "()Z"⟩
abbrev cJ0_checkIndex_df160 : ByteArray := prog_14_method_155_code
def yJ0_checkIndex_df160 : MethodName := ⟨RJ0, "checkIndex", "(II)V"⟩
def RJ1 : String := "java/lang/StringLatin1"
abbrev cJ1_charAt_3b067 : ByteArray := prog_15_method_2_code
def yJ1_charAt_3b067 : MethodName := ⟨RJ1, "charAt", "([BI)C"⟩
def RJ2 : String := "java/lang/StringUTF16"
abbrev cJ2_getChar_3b067 : ByteArray := prog_16_method_5_code
def yJ2_getChar_3b067 : MethodName := ⟨RJ2, "getChar", "([BI)C"⟩
abbrev cJ2_length_9d52b : ByteArray := prog_16_method_6_code
def yJ2_length_9d52b : MethodName := ⟨RJ2, "length", "([B)I"⟩
abbrev cJ2_charAt_3b067 : ByteArray := prog_16_method_83_code
def yJ2_charAt_3b067 : MethodName := ⟨RJ2, "charAt", "([BI)C"⟩
abbrev cJ2_checkIndex_2214a : ByteArray := prog_16_method_91_code
def yJ2_checkIndex_2214a : MethodName := ⟨RJ2, "checkIndex", "(I[B)V"⟩
def RJ3 : String := "jdk/internal/util/Preconditions"
abbrev cJ3_checkIndex_8e157 : ByteArray := prog_17_method_11_code
def yJ3_checkIndex_8e157 : MethodName := ⟨RJ3, "checkIndex", "(IILjava/util/function/BiFunction;)I"⟩
def RL : String := "LoanLayersLaw"
abbrev cL_law : ByteArray := code
def yL_law : MethodName := ⟨RL, "law", "([I)Z"⟩
abbrev vwCl : List vw_C := [(RX1, TX1, 6), (RX2, TX2, 4), (RX3, TX3, 4), (RX4, TX4, 2), (RX5, TX5, 6), (RX6, TX6, 7), (RX7, TX7, 3), (RX8, TX8, 6), (RX9, TX9, 7), (RX10, TX10, 23)]
end
section
/-! values without wrap-around, the heap as maps, and what they say of the machine's -/
abbrev AbV : Type := Int ⊕ (Int ⊕ Option Nat)
abbrev vI (n : Int) : AbV := Sum.inl n
abbrev vL (n : Int) : AbV := Sum.inr (Sum.inl n)
abbrev vR (r : Option Nat) : AbV := Sum.inr (Sum.inr r)
def ab_cv : AbV → Value
  | .inl n => .int (Int32.ofInt n)
  | .inr (.inl n) => .long (Int64.ofInt n)
  | .inr (.inr r) => va_rf r
def in32 (n : Int) : Prop := -2147483648 ≤ n ∧ n ≤ 2147483647
def in64 (n : Int) : Prop := -9223372036854775808 ≤ n ∧ n ≤ 9223372036854775807
def ab_ok : AbV → Prop
  | .inl n => in32 n
  | .inr (.inl n) => in64 n
  | .inr (.inr _) => True
abbrev AbO : Type := Nat → Option (Nat × List AbV)
abbrev AbA : Type := Nat → Option (Nat × (Nat → Int))
abbrev AbR : Type := Nat → Option (Nat × Nat × (Nat → Option Nat))
abbrev AbH : Type := AbO × AbA × AbA × AbA × AbR × AbA × (Nat → Nat → Prop) × (Nat → Nat → Prop)
def hpO (h : AbH) : AbO := h.1
def hpI (h : AbH) : AbA := h.2.1
def hpJ (h : AbH) : AbA := h.2.2.1
def hpZ (h : AbH) : AbA := h.2.2.2.1
def hpR (h : AbH) : AbR := h.2.2.2.2.1
def hpX (h : AbH) : AbA := h.2.2.2.2.2.1
def hpS (h : AbH) : Nat → Nat → Prop := h.2.2.2.2.2.2.1
def hpB (h : AbH) : Nat → Nat → Prop := h.2.2.2.2.2.2.2
def hsO (h : AbH) (q : Nat) (c : Nat × List AbV) : AbH := (va_up h.1 q (some c), h.2)
def hsI (h : AbH) (q : Nat) (c : Nat × (Nat → Int)) : AbH := (h.1, va_up h.2.1 q (some c), h.2.2)
def hsJ (h : AbH) (q : Nat) (c : Nat × (Nat → Int)) : AbH := (h.1, h.2.1, va_up h.2.2.1 q (some c), h.2.2.2)
def hsZ (h : AbH) (q : Nat) (c : Nat × (Nat → Int)) : AbH := (h.1, h.2.1, h.2.2.1, va_up h.2.2.2.1 q (some c), h.2.2.2.2)
def hsR (h : AbH) (q : Nat) (c : Nat × Nat × (Nat → Option Nat)) : AbH := (h.1, h.2.1, h.2.2.1, h.2.2.2.1, va_up h.2.2.2.2.1 q (some c), h.2.2.2.2.2)
abbrev AbG : Type := va_G × (Nat → ClassId) × Heap × (Nat → Nat) × (Nat → Nat) × AbA
def gD (G : AbG) : va_G := G.1
def gC (G : AbG) : Nat → ClassId := G.2.1
def gH (G : AbG) : Heap := G.2.2.1
def gK (G : AbG) : Nat → Nat := G.2.2.2.1
def gV (G : AbG) : Nat → Nat := G.2.2.2.2.1
def gM (G : AbG) : AbA := G.2.2.2.2.2
def ab_eO (c : Nat × List AbV) : va_E := .inr (c.1, c.2.map ab_cv)
def ab_eI (G : AbG) (c : Nat × (Nat → Int)) : va_E := .inl (gC G 0, c.1, .inl (fun j => Int32.ofInt (c.2 j)))
def ab_eJ (G : AbG) (c : Nat × (Nat → Int)) : va_E := .inl (gC G 1, c.1, .inr (.inl (fun j => Int64.ofInt (c.2 j))))
def ab_eZ (G : AbG) (c : Nat × (Nat → Int)) : va_E := .inl (gC G 2, c.1, .inl (fun j => Int32.ofInt (c.2 j)))
def ab_eR (G : AbG) (c : Nat × Nat × (Nat → Option Nat)) : va_E := .inl (gC G (3 + c.1), c.2.1, .inr (.inr (.inr (.inr c.2.2))))
def ab_at (G : AbG) (h : AbH) (q : Nat) (x : Nat × va_E) : Prop :=
  (∃ c, hpO h q = some c ∧ x = (0, ab_eO c)) ∨ (∃ c, hpI h q = some c ∧ x = (1, ab_eI G c)) ∨ (∃ c, hpJ h q = some c ∧ x = (2, ab_eJ G c)) ∨ (∃ c, hpZ h q = some c ∧ x = (3, ab_eZ G c)) ∨ (∃ c, hpR h q = some c ∧ x = (4, ab_eR G c))
def ab_rg (h : AbH) : Prop :=
  (∀ (q : Nat) (c : Nat × List AbV), hpO h q = some c → ∀ v ∈ c.2, ab_ok v) ∧ (∀ (q : Nat) (c : Nat × (Nat → Int)), hpI h q = some c → c.1 < 2147483648 ∧ ∀ j, in32 (c.2 j)) ∧ (∀ (q : Nat) (c : Nat × (Nat → Int)), hpJ h q = some c → c.1 < 2147483648 ∧ ∀ j, in64 (c.2 j)) ∧ (∀ (q : Nat) (c : Nat × (Nat → Int)), hpZ h q = some c → c.1 < 2147483648 ∧ ∀ j, c.2 j = 0 ∨ c.2 j = 1) ∧ (∀ (q : Nat) (c : Nat × Nat × (Nat → Option Nat)), hpR h q = some c → c.2.1 < 2147483648 ∧ (c.1 = 0 ∨ c.1 = 2 ∨ c.1 = 7))
def Rl (G : AbG) (h : AbH) (H : Heap) : Prop :=
  (∀ (q : Nat) (x : Nat × va_E), ab_at G h q x → (gH G).size ≤ q ∧ va_at (gD G) vwCl (q, x.2) H) ∧ (∀ (q : Nat) (x y : Nat × va_E), ab_at G h q x → ab_at G h q y → x.1 = y.1) ∧ ab_rg h ∧
  (hpX h = gM G ∧ hpS h = (fun a k => k < 4 ∧ a = gK G k) ∧ hpB h = (fun a k => k < 4 ∧ a = gV G k)) ∧ (gH G).size ≤ H.size ∧ ∀ q : Nat, q < (gH G).size → H[q]? = (gH G)[q]?
theorem Rl.put {G : AbG} {h h' : AbH} {H H' : Heap} {a k : Nat} {e0 : va_E} (R : Rl G h H) (hat : ∀ (q : Nat) (x : Nat × va_E), ab_at G h' q x → (q = a ∧ x = (k, e0)) ∨ (ab_at G h q x ∧ (q ≠ a ∨ x.1 ≠ k))) (hold : ∀ x : Nat × va_E, ab_at G h a x → x.1 = k)
    (hrg : ab_rg h') (hst : hpX h' = hpX h ∧ hpS h' = hpS h ∧ hpB h' = hpB h) (ha : (gH G).size ≤ a) (hnew : va_at (gD G) vwCl (a, e0) H') (hsz : H.size ≤ H'.size) (hoth : ∀ q : Nat, q < H.size → q ≠ a → H'[q]? = H[q]?) : Rl G h' H' := by
  obtain ⟨r1, r2, r3, r4, r5, r6⟩ := R
  have hne : ∀ (q : Nat) (x : Nat × va_E), ab_at G h q x → (q ≠ a ∨ x.1 ≠ k) → q ≠ a := by
    intro q x hx ho he
    rcases ho with ho | ho
    · exact ho he
    · subst he
      exact ho (hold x hx)
  refine ⟨fun q x hx => ?_, fun q x y hx hy => ?_, hrg, ⟨hst.1.trans r4.1, hst.2.1.trans r4.2.1, hst.2.2.trans r4.2.2⟩, Nat.le_trans r5 hsz, fun q hq => ?_⟩
  · rcases hat q x hx with ⟨e1, e2⟩ | ⟨e1, e2⟩
    · subst e1; subst e2
      exact ⟨ha, hnew⟩
    · obtain ⟨g1, g2⟩ := r1 q x e1
      exact ⟨g1, g2.kept (hoth q g2.lt (hne q x e1 e2))⟩
  · rcases hat q x hx with ⟨e1, e2⟩ | ⟨e1, e2⟩ <;> rcases hat q y hy with ⟨f1, f2⟩ | ⟨f1, f2⟩
    · rw [e2, f2]
    · exact absurd e1 (hne q y f1 f2)
    · exact absurd f1 (hne q x e1 e2)
    · exact r2 q x y e1 f1
  · rw [hoth q (by omega) (by omega)]
    exact r6 q hq
theorem ab_upS {α : Type} {f : Nat → Option α} {a q : Nat} {c x : α} (h : va_up f a (some c) q = some x) : (q = a ∧ x = c) ∨ (q ≠ a ∧ f q = some x) := by
  unfold va_up at h
  split at h
  next e => exact Or.inl ⟨e, (Option.some.inj h).symm⟩
  next e => exact Or.inr ⟨e, h⟩
theorem ab_atO {G : AbG} {h : AbH} {a : Nat} {c : Nat × List AbV} : ∀ (q : Nat) (x : Nat × va_E), ab_at G (hsO h a c) q x → (q = a ∧ x = (0, ab_eO c)) ∨ (ab_at G h q x ∧ (q ≠ a ∨ x.1 ≠ 0)) := by
  intro q x hx
  rcases hx with ⟨d, h1, rfl⟩ | ⟨d, h1, rfl⟩ | ⟨d, h1, rfl⟩ | ⟨d, h1, rfl⟩ | ⟨d, h1, rfl⟩
  · rcases ab_upS (show va_up (hpO h) a (some c) q = some d from h1) with ⟨e1, e2⟩ | ⟨e1, e2⟩
    · exact Or.inl ⟨e1, by rw [e2]⟩
    · exact Or.inr ⟨Or.inl ⟨d, e2, rfl⟩, Or.inl e1⟩
  · exact Or.inr ⟨Or.inr (Or.inl ⟨d, h1, rfl⟩), Or.inr (by simp)⟩
  · exact Or.inr ⟨Or.inr (Or.inr (Or.inl ⟨d, h1, rfl⟩)), Or.inr (by simp)⟩
  · exact Or.inr ⟨Or.inr (Or.inr (Or.inr (Or.inl ⟨d, h1, rfl⟩))), Or.inr (by simp)⟩
  · exact Or.inr ⟨Or.inr (Or.inr (Or.inr (Or.inr ⟨d, h1, rfl⟩))), Or.inr (by simp)⟩
theorem ab_atI {G : AbG} {h : AbH} {a : Nat} {c : Nat × (Nat → Int)} : ∀ (q : Nat) (x : Nat × va_E), ab_at G (hsI h a c) q x → (q = a ∧ x = (1, ab_eI G c)) ∨ (ab_at G h q x ∧ (q ≠ a ∨ x.1 ≠ 1)) := by
  intro q x hx
  rcases hx with ⟨d, h1, rfl⟩ | ⟨d, h1, rfl⟩ | ⟨d, h1, rfl⟩ | ⟨d, h1, rfl⟩ | ⟨d, h1, rfl⟩
  · exact Or.inr ⟨Or.inl ⟨d, h1, rfl⟩, Or.inr (by simp)⟩
  · rcases ab_upS (show va_up (hpI h) a (some c) q = some d from h1) with ⟨e1, e2⟩ | ⟨e1, e2⟩
    · exact Or.inl ⟨e1, by rw [e2]⟩
    · exact Or.inr ⟨Or.inr (Or.inl ⟨d, e2, rfl⟩), Or.inl e1⟩
  · exact Or.inr ⟨Or.inr (Or.inr (Or.inl ⟨d, h1, rfl⟩)), Or.inr (by simp)⟩
  · exact Or.inr ⟨Or.inr (Or.inr (Or.inr (Or.inl ⟨d, h1, rfl⟩))), Or.inr (by simp)⟩
  · exact Or.inr ⟨Or.inr (Or.inr (Or.inr (Or.inr ⟨d, h1, rfl⟩))), Or.inr (by simp)⟩
theorem ab_atJ {G : AbG} {h : AbH} {a : Nat} {c : Nat × (Nat → Int)} : ∀ (q : Nat) (x : Nat × va_E), ab_at G (hsJ h a c) q x → (q = a ∧ x = (2, ab_eJ G c)) ∨ (ab_at G h q x ∧ (q ≠ a ∨ x.1 ≠ 2)) := by
  intro q x hx
  rcases hx with ⟨d, h1, rfl⟩ | ⟨d, h1, rfl⟩ | ⟨d, h1, rfl⟩ | ⟨d, h1, rfl⟩ | ⟨d, h1, rfl⟩
  · exact Or.inr ⟨Or.inl ⟨d, h1, rfl⟩, Or.inr (by simp)⟩
  · exact Or.inr ⟨Or.inr (Or.inl ⟨d, h1, rfl⟩), Or.inr (by simp)⟩
  · rcases ab_upS (show va_up (hpJ h) a (some c) q = some d from h1) with ⟨e1, e2⟩ | ⟨e1, e2⟩
    · exact Or.inl ⟨e1, by rw [e2]⟩
    · exact Or.inr ⟨Or.inr (Or.inr (Or.inl ⟨d, e2, rfl⟩)), Or.inl e1⟩
  · exact Or.inr ⟨Or.inr (Or.inr (Or.inr (Or.inl ⟨d, h1, rfl⟩))), Or.inr (by simp)⟩
  · exact Or.inr ⟨Or.inr (Or.inr (Or.inr (Or.inr ⟨d, h1, rfl⟩))), Or.inr (by simp)⟩
theorem ab_atZ {G : AbG} {h : AbH} {a : Nat} {c : Nat × (Nat → Int)} : ∀ (q : Nat) (x : Nat × va_E), ab_at G (hsZ h a c) q x → (q = a ∧ x = (3, ab_eZ G c)) ∨ (ab_at G h q x ∧ (q ≠ a ∨ x.1 ≠ 3)) := by
  intro q x hx
  rcases hx with ⟨d, h1, rfl⟩ | ⟨d, h1, rfl⟩ | ⟨d, h1, rfl⟩ | ⟨d, h1, rfl⟩ | ⟨d, h1, rfl⟩
  · exact Or.inr ⟨Or.inl ⟨d, h1, rfl⟩, Or.inr (by simp)⟩
  · exact Or.inr ⟨Or.inr (Or.inl ⟨d, h1, rfl⟩), Or.inr (by simp)⟩
  · exact Or.inr ⟨Or.inr (Or.inr (Or.inl ⟨d, h1, rfl⟩)), Or.inr (by simp)⟩
  · rcases ab_upS (show va_up (hpZ h) a (some c) q = some d from h1) with ⟨e1, e2⟩ | ⟨e1, e2⟩
    · exact Or.inl ⟨e1, by rw [e2]⟩
    · exact Or.inr ⟨Or.inr (Or.inr (Or.inr (Or.inl ⟨d, e2, rfl⟩))), Or.inl e1⟩
  · exact Or.inr ⟨Or.inr (Or.inr (Or.inr (Or.inr ⟨d, h1, rfl⟩))), Or.inr (by simp)⟩
theorem ab_atR {G : AbG} {h : AbH} {a : Nat} {c : Nat × Nat × (Nat → Option Nat)} : ∀ (q : Nat) (x : Nat × va_E), ab_at G (hsR h a c) q x → (q = a ∧ x = (4, ab_eR G c)) ∨ (ab_at G h q x ∧ (q ≠ a ∨ x.1 ≠ 4)) := by
  intro q x hx
  rcases hx with ⟨d, h1, rfl⟩ | ⟨d, h1, rfl⟩ | ⟨d, h1, rfl⟩ | ⟨d, h1, rfl⟩ | ⟨d, h1, rfl⟩
  · exact Or.inr ⟨Or.inl ⟨d, h1, rfl⟩, Or.inr (by simp)⟩
  · exact Or.inr ⟨Or.inr (Or.inl ⟨d, h1, rfl⟩), Or.inr (by simp)⟩
  · exact Or.inr ⟨Or.inr (Or.inr (Or.inl ⟨d, h1, rfl⟩)), Or.inr (by simp)⟩
  · exact Or.inr ⟨Or.inr (Or.inr (Or.inr (Or.inl ⟨d, h1, rfl⟩))), Or.inr (by simp)⟩
  · rcases ab_upS (show va_up (hpR h) a (some c) q = some d from h1) with ⟨e1, e2⟩ | ⟨e1, e2⟩
    · exact Or.inl ⟨e1, by rw [e2]⟩
    · exact Or.inr ⟨Or.inr (Or.inr (Or.inr (Or.inr ⟨d, e2, rfl⟩))), Or.inl e1⟩
/-- no cell of the map at this address -/
def ab_new (h : AbH) (q : Nat) : Prop := hpO h q = none ∧ hpI h q = none ∧ hpJ h q = none ∧ hpZ h q = none ∧ hpR h q = none
theorem ab_new_at {G : AbG} {h : AbH} {q : Nat} (hn : ab_new h q) : ∀ x : Nat × va_E, ¬ ab_at G h q x := by
  obtain ⟨h1, h2, h3, h4, h5⟩ := hn
  intro x hx
  rcases hx with ⟨d, e, -⟩ | ⟨d, e, -⟩ | ⟨d, e, -⟩ | ⟨d, e, -⟩ | ⟨d, e, -⟩
  · rw [h1] at e; cases e
  · rw [h2] at e; cases e
  · rw [h3] at e; cases e
  · rw [h4] at e; cases e
  · rw [h5] at e; cases e
theorem Rl.fresh {G : AbG} {h : AbH} {H : Heap} (R : Rl G h H) : ab_new h H.size := by
  have key : ∀ x : Nat × va_E, ¬ ab_at G h H.size x := fun x hx => absurd (R.1 _ x hx).2.lt (Nat.lt_irrefl _)
  refine ⟨?_, ?_, ?_, ?_, ?_⟩
  · cases e : hpO h H.size with
    | none => rfl
    | some c => exact absurd (Or.inl ⟨c, e, rfl⟩) (key (0, ab_eO c))
  · cases e : hpI h H.size with
    | none => rfl
    | some c => exact absurd (Or.inr (Or.inl ⟨c, e, rfl⟩)) (key (1, ab_eI G c))
  · cases e : hpJ h H.size with
    | none => rfl
    | some c => exact absurd (Or.inr (Or.inr (Or.inl ⟨c, e, rfl⟩))) (key (2, ab_eJ G c))
  · cases e : hpZ h H.size with
    | none => rfl
    | some c => exact absurd (Or.inr (Or.inr (Or.inr (Or.inl ⟨c, e, rfl⟩)))) (key (3, ab_eZ G c))
  · cases e : hpR h H.size with
    | none => rfl
    | some c => exact absurd (Or.inr (Or.inr (Or.inr (Or.inr ⟨c, e, rfl⟩)))) (key (4, ab_eR G c))
theorem ab_rgO {h : AbH} {a : Nat} {c : Nat × List AbV} (r : ab_rg h) (hc : ∀ v ∈ c.2, ab_ok v) : ab_rg (hsO h a c) := by
  refine ⟨fun q d hd => ?_, r.2.1, r.2.2.1, r.2.2.2.1, r.2.2.2.2⟩
  rcases ab_upS (show va_up (hpO h) a (some c) q = some d from hd) with ⟨e1, e2⟩ | ⟨e1, e2⟩
  · rw [e2]; exact hc
  · exact r.1 q d e2
theorem ab_rgI {h : AbH} {a : Nat} {c : Nat × (Nat → Int)} (r : ab_rg h) (hc : c.1 < 2147483648 ∧ ∀ j, in32 (c.2 j)) : ab_rg (hsI h a c) := by
  refine ⟨r.1, fun q d hd => ?_, r.2.2.1, r.2.2.2.1, r.2.2.2.2⟩
  rcases ab_upS (show va_up (hpI h) a (some c) q = some d from hd) with ⟨e1, e2⟩ | ⟨e1, e2⟩
  · rw [e2]; exact hc
  · exact r.2.1 q d e2
theorem ab_rgJ {h : AbH} {a : Nat} {c : Nat × (Nat → Int)} (r : ab_rg h) (hc : c.1 < 2147483648 ∧ ∀ j, in64 (c.2 j)) : ab_rg (hsJ h a c) := by
  refine ⟨r.1, r.2.1, fun q d hd => ?_, r.2.2.2.1, r.2.2.2.2⟩
  rcases ab_upS (show va_up (hpJ h) a (some c) q = some d from hd) with ⟨e1, e2⟩ | ⟨e1, e2⟩
  · rw [e2]; exact hc
  · exact r.2.2.1 q d e2
theorem ab_rgZ {h : AbH} {a : Nat} {c : Nat × (Nat → Int)} (r : ab_rg h) (hc : c.1 < 2147483648 ∧ ∀ j, c.2 j = 0 ∨ c.2 j = 1) : ab_rg (hsZ h a c) := by
  refine ⟨r.1, r.2.1, r.2.2.1, fun q d hd => ?_, r.2.2.2.2⟩
  rcases ab_upS (show va_up (hpZ h) a (some c) q = some d from hd) with ⟨e1, e2⟩ | ⟨e1, e2⟩
  · rw [e2]; exact hc
  · exact r.2.2.2.1 q d e2
theorem ab_rgR {h : AbH} {a : Nat} {c : Nat × Nat × (Nat → Option Nat)} (r : ab_rg h) (hc : c.2.1 < 2147483648 ∧ (c.1 = 0 ∨ c.1 = 2 ∨ c.1 = 7)) : ab_rg (hsR h a c) := by
  refine ⟨r.1, r.2.1, r.2.2.1, r.2.2.2.1, fun q d hd => ?_⟩
  rcases ab_upS (show va_up (hpR h) a (some c) q = some d from hd) with ⟨e1, e2⟩ | ⟨e1, e2⟩
  · rw [e2]; exact hc
  · exact r.2.2.2.2 q d e2
/-! what is known of the tables -/
def st_len : List Nat := [3, 4, 4, 3]
def st_byt : List (List Int32) := [[108, 97, 119], [109, 101, 101, 116], [108, 111, 97, 110], [97, 108, 108]]
def st_idx : List Nat := [46, 55, 60, 65]
def st_tx : List String := ["law", "meet", "loan", "all"]
def ab_tys (G : AbG) : List (ClassId × FieldType) := [(gC G 0, .int), (gC G 1, .long), (gC G 2, .boolean), (gC G 3, .object RX1), (gC G 5, .object RX3), (gC G 10, .object RX8)]
def ab_nest : List (String × Nat × MethodName × String) := [("LoanLayers", 18, ⟨"LoanLayers$Past", "<init>", "()V"⟩, "LoanLayers"), ("LoanLayers", 29, ⟨"LoanLayers$Text", "<init>", "()V"⟩, "LoanLayers"), ("LoanLayers", 36, ⟨"LoanLayers$Windows", "<init>", "()V"⟩, "LoanLayers"), ("LoanLayers", 43, ⟨"LoanLayers$Layers", "<init>", "()V"⟩, "LoanLayers"), ("LoanLayers", 50, ⟨"LoanLayers$Way", "<init>", "()V"⟩, "LoanLayers"), ("LoanLayers$Text", 31, ⟨"LoanLayers", "within", "(III)Z"⟩, "LoanLayers"), ("LoanLayers$World", 42, ⟨"LoanLayers", "within", "(III)Z"⟩, "LoanLayers"), ("LoanLayers$Text", 126, ⟨"LoanLayers", "pairOf", "(II)I"⟩, "LoanLayers"), ("LoanLayers$Past", 21, ⟨"LoanLayers", "within", "(III)Z"⟩, "LoanLayers"), ("LoanLayers$Windows", 30, ⟨"LoanLayers", "pairOf", "(II)I"⟩, "LoanLayers"), ("LoanLayers$Windows", 73, ⟨"LoanLayers", "within", "(III)Z"⟩, "LoanLayers"), ("LoanLayers$Layers", 66, ⟨"LoanLayers", "within", "(III)Z"⟩, "LoanLayers"), ("LoanLayers$Way", 63, ⟨"LoanLayers", "isDate", "(I)Z"⟩, "LoanLayers"), ("LoanLayers$Way", 70, ⟨"LoanLayers", "isTongue", "(I)Z"⟩, "LoanLayers"), ("LoanLayers$Way", 50, ⟨"LoanLayers", "within", "(III)Z"⟩, "LoanLayers"), ("LoanLayers$Way", 103, ⟨"LoanLayers", "pairOf", "(II)I"⟩, "LoanLayers")]
def Kn (G : AbG) (s : State) : Prop :=
  va_K (gD G) vwCl (ab_tys G) s ∧ (∀ t ∈ ab_nest, va_Nw (.methodLinkNest t.1 t.2.1 t.2.2.1 t.2.2.2) s) ∧ (va_AO RX1 s ∧ va_AO RX3 s ∧ va_AO RX8 s) ∧
  (∀ i, i < 4 → vk_R RX5 (st_idx.getD i 0) (st_tx.getD i "") (gK G i) s) ∧ vk_S 4 st_len st_byt (gK G) (gV G) (fun q => (gH G).size ≤ q) s (gH G) ∧
  va_Z "java/lang/String" "COMPACT_STRINGS" "Z" (.int 1) (fun q => (gH G).size ≤ q) s (gH G) ∧ va_Zq "jdk/internal/util/Preconditions" "SIOOBE_FORMATTER" "Ljava/util/function/BiFunction;" (fun q => (gH G).size ≤ q) s (gH G) ∧
  ∀ (q : Nat) (c : Nat × (Nat → Int)), gM G q = some c → q < (gH G).size ∧ c.1 < 2147483648 ∧ (∀ j, in32 (c.2 j)) ∧ va_X q c.1 (fun j => Int32.ofInt (c.2 j)) s (gH G)
theorem Kn.warm {G : AbG} {s U : State} (hW : s.WarmedH U.vm) (h : Kn G s) : Kn G U := by
  obtain ⟨h1, h2, ⟨a1, a2, a3⟩, h4, h5, h6, h7, h8⟩ := h
  have hv := hW.alike
  refine ⟨va_K.moved hv h1, fun t ht => va_Nw.warmM hW (h2 t ht), ⟨a1.moved hv, a2.moved hv, a3.moved hv⟩, fun i hi => (h4 i hi).warm hW, h5.moved hv, va_Z.moved hv h6, va_Zq.moved hv h7, fun q c hq => ?_⟩
  obtain ⟨g1, g2, g3, g4⟩ := h8 q c hq
  exact ⟨g1, g2, g3, g4.moved hv⟩
theorem Kn.same {G : AbG} {s U : State} (hv : U.vm = s.vm) (h : Kn G s) : Kn G U := by
  obtain ⟨h1, h2, ⟨a1, a2, a3⟩, h4, h5, h6, h7, h8⟩ := h
  have ha : s.vm.Alike U.vm := by rw [hv]; exact Vm.Alike.refl _
  refine ⟨va_K.moved ha h1, fun t ht => va_Nw.same rfl hv.symm (h2 t ht), ⟨a1.moved ha, a2.moved ha, a3.moved ha⟩, fun i hi => (h4 i hi).same hv, h5.moved ha, va_Z.moved ha h6, va_Zq.moved ha h7, fun q c hq => ?_⟩
  obtain ⟨g1, g2, g3, g4⟩ := h8 q c hq
  exact ⟨g1, g2, g3, g4.moved ha⟩
/-! methods: name, code, locals, return type, cells and slots that a call may make -/
abbrev AbM : Type := MethodName × ByteArray × Nat × Option FieldType × Nat × Nat
def mY (md : AbM) : MethodName := md.1
def mC (md : AbM) : ByteArray := md.2.1
def mL (md : AbM) : Nat := md.2.2.1
def mR (md : AbM) : Option FieldType := md.2.2.2.1
def mN (md : AbM) : Nat := md.2.2.2.2.1
def mS (md : AbM) : Nat := md.2.2.2.2.2
def lwW : List Cond := lw_tbl.filter goodWord
theorem lw_in {w : Cond} (h : w ∈ lw_tbl) (g : goodWord w = true) : w ∈ lwW := List.mem_filter.mpr ⟨h, g⟩
def wsOf (md : AbM) : List Cond := Cond.code (mY md) (mC md) (mL md) (mR md) :: lwW
def rmOf (d : Nat) (md : AbM) : Room := { frames := d, cells := mN md, slots := mS md, locals := 64 * d }
def PcV (G : AbG) (av : List AbV) (h : AbH) : Array Value → State → Prop := fun v U => v = (av.map ab_cv).toArray ∧ (∀ a ∈ av, ab_ok a) ∧ Rl G h U.heap ∧ Kn G U
def QcV (G : AbG) (K : Option AbV → AbH → Prop) : Array Value → State → Outcome → State → Prop := fun _ _ o t => ∃ (r : Option AbV) (h : AbH), o = .returned (r.map ab_cv) ∧ (∀ a, r = some a → ab_ok a) ∧ Rl G h t.heap ∧ K r h
/-- the method's contract: from the heap h with these arguments it returns, and K holds of answer and heap -/
def Vm (d : Nat) (md : AbM) (av : List AbV) (h : AbH) (K : Option AbV → AbH → Prop) : Prop :=
  ∀ (l : Launch) (G : AbG), Met l (mY md) (wsOf md) (rmOf d md) (PcV G av h) (QcV G K) (mN md) (mS md) (fun q => (gH G).size ≤ q)
def Cx (G : AbG) (d : Nat) (md : AbM) (R : Room) (p : Program) (s : State) (m : MethodId) (args : Array Value) (meth : Method) (c : Code) : Prop :=
  p.tables.exec = Jvm.exec ∧ c.code = mC md ∧ c.maxLocals = mL md ∧ meth.sig.returnType = mR md ∧ s.vm.findClass (mY md).cls = some m.cls ∧ (∀ w ∈ lwW, w.before args s = true) ∧ meth.locks = false ∧ meth.name = (mY md).name ∧ Kn G s ∧ d ≤ R.frames ∧ 64 * d ≤ R.locals ∧ R.cells = mN md ∧ R.slots = mS md
def ab_la : Nat → List (Option AbV) → List (Nat × Value)
  | _, [] => []
  | i, none :: t => ab_la (i + 1) t
  | i, some v :: t => (i, ab_cv v) :: ab_la (i + 1) t
theorem ab_la_mem : ∀ (ls : List (Option AbV)) (k i : Nat) (v : AbV), ls[i]? = some (some v) → (k + i, ab_cv v) ∈ ab_la k ls := by
  intro ls
  induction ls with
  | nil => intro k i v h; simp at h
  | cons x t ih =>
    intro k i v h
    cases i with
    | zero =>
      simp only [List.getElem?_cons_zero, Option.some.injEq] at h
      subst h
      exact List.mem_cons_self
    | succ i =>
      rw [List.getElem?_cons_succ] at h
      have h1 := ih (k + 1) i v h
      rw [show k + 1 + i = k + (i + 1) by omega] at h1
      cases x with
      | none => exact h1
      | some w => exact List.mem_cons_of_mem _ h1
theorem ab_la_inv : ∀ (ls : List (Option AbV)) (k : Nat) (q : Nat × Value), q ∈ ab_la k ls → ∃ (i : Nat) (v : AbV), q = (k + i, ab_cv v) ∧ ls[i]? = some (some v) := by
  intro ls
  induction ls with
  | nil => intro k q h; cases h
  | cons x t ih =>
    intro k q h
    have go : q ∈ ab_la (k + 1) t → ∃ (i : Nat) (v : AbV), q = (k + i, ab_cv v) ∧ (x :: t)[i]? = some (some v) := by
      intro h2
      obtain ⟨i, v, e1, e2⟩ := ih (k + 1) q h2
      exact ⟨i + 1, v, by rw [e1]; rw [show k + 1 + i = k + (i + 1) by omega], by rw [List.getElem?_cons_succ]; exact e2⟩
    cases x with
    | none => exact go h
    | some w =>
      rcases List.mem_cons.mp h with h | h
      · exact ⟨0, w, h, rfl⟩
      · exact go h
def lvR (lsr : Array Slot) (n : Nat) (ls : List (Option AbV)) : Prop := lv_has lsr n (ab_la 0 ls)
theorem lvR.get {lsr : Array Slot} {n i : Nat} {ls : List (Option AbV)} {v : AbV} (h : lvR lsr n ls) (hi : ls[i]? = some (some v)) : lsr[i]? = some (.val (ab_cv v)) := by
  have := h.2.2 _ (ab_la_mem ls 0 i v hi)
  simpa using this
theorem lvR.to {lsr : Array Slot} {n : Nat} {ls ls' : List (Option AbV)} (h : lvR lsr n ls) (hi : ∀ (i : Nat) (v : AbV), ls'[i]? = some (some v) → lsr[i]? = some (.val (ab_cv v))) : lvR lsr n ls' := by
  refine ⟨h.1, h.2.1, fun q hq => ?_⟩
  obtain ⟨i, v, e1, e2⟩ := ab_la_inv ls' 0 q hq
  rw [e1]
  have := hi i v e2
  simpa using this
/-- fewer locals known -/
def ab_sub : List (Option AbV) → List (Option AbV) → Prop
  | [], _ => True
  | none :: t, _ :: u => ab_sub t u
  | some v :: t, w :: u => w = some v ∧ ab_sub t u
  | none :: t, [] => ab_sub t []
  | some _ :: _, [] => False
theorem ab_sub_get : ∀ (a b : List (Option AbV)), ab_sub a b → ∀ (i : Nat) (v : AbV), a[i]? = some (some v) → b[i]? = some (some v) := by
  intro a
  induction a with
  | nil => intro b _ i v h; simp at h
  | cons x t ih =>
    intro b hs i v h
    cases b with
    | nil =>
      cases x with
      | none =>
        cases i with
        | zero => simp at h
        | succ i => rw [List.getElem?_cons_succ] at h; have := ih [] hs i v h; simp at this
      | some w => exact absurd hs id
    | cons y u =>
      cases x with
      | none =>
        cases i with
        | zero => simp at h
        | succ i => rw [List.getElem?_cons_succ] at h ⊢; exact ih u hs i v h
      | some w =>
        cases i with
        | zero =>
          simp only [List.getElem?_cons_zero, Option.some.injEq] at h ⊢
          rw [hs.1, h]
        | succ i => rw [List.getElem?_cons_succ] at h ⊢; exact ih u hs.2 i v h
/-- the rest of the method: at pc, with these locals, stack and heap, bc cells and bs slots still to be made, it comes to an end with K -/
def Vx (d : Nat) (md : AbM) (bc bs pc : Nat) (ls : List (Option AbV)) (st : List AbV) (h : AbH) (K : Option AbV → AbH → Prop) : Prop :=
  ∀ (l : Launch) (G : AbG) (p : Program) (e : Env) (R : Room) (s : State) (m : MethodId) (args : Array Value) (below : List Frame) (meth : Method) (c : Code) (H : Heap) (locs : List Loc) (cells slots : Nat) (lsr : Array Slot),
    Cx G d md R p s m args meth c → lvR lsr (mL md) ls → (∀ v ∈ st, ab_ok v) → (∀ v, some v ∈ ls → ab_ok v) → Rl G h H → (∀ q ∈ locs, (gH G).size ≤ q.base) → cells + bc ≤ mN md → slots + bs ≤ mS md →
    W p l e R s m args below meth c H locs cells slots (MQ below (QcV G K) args s (mN md) (mS md) (fun q => (gH G).size ≤ q)) (F0 m pc lsr (st.map ab_cv))
theorem Vx.forget {d : Nat} {md : AbM} {bc bs pc : Nat} {ls ls' : List (Option AbV)} {st : List AbV} {h : AbH} {K : Option AbV → AbH → Prop} (hs : ab_sub ls' ls) (k : Vx d md bc bs pc ls' st h K) : Vx d md bc bs pc ls st h K := by
  intro l G p e R s m args below meth c H locs cells slots lsr C hL hst hls hR hlo hbc hbs
  refine k l G p e R s m args below meth c H locs cells slots lsr C (hL.to fun i v hi => hL.get (ab_sub_get _ _ hs i v hi)) hst (fun v hv => ?_) hR hlo hbc hbs
  obtain ⟨i, hi⟩ := List.getElem?_of_mem hv
  exact hls v (List.mem_of_getElem? (ab_sub_get _ _ hs i v hi))
theorem Vx.less {d : Nat} {md : AbM} {bc bs bc' bs' pc : Nat} {ls : List (Option AbV)} {st : List AbV} {h : AbH} {K : Option AbV → AbH → Prop} (h1 : bc' ≤ bc) (h2 : bs' ≤ bs) (k : Vx d md bc' bs' pc ls st h K) : Vx d md bc bs pc ls st h K := by
  intro l G p e R s m args below meth c H locs cells slots lsr C hL hst hls hR hlo hbc hbs
  exact k l G p e R s m args below meth c H locs cells slots lsr C hL hst hls hR hlo (by omega) (by omega)
/-- the locals with which a method begins -/
def ab_args : List AbV → List (Option AbV)
  | [] => []
  | .inr (.inl n) :: t => some (vL n) :: none :: ab_args t
  | .inl n :: t => some (vI n) :: ab_args t
  | .inr (.inr r) :: t => some (vR r) :: ab_args t
theorem ab_cat (r : Option Nat) : (va_rf r).category = 1 := by cases r <;> rfl
theorem ab_args_la : ∀ (av : List AbV) (k : Nat), ab_la k (ab_args av) = lv_args k (av.map ab_cv) := by
  intro av
  induction av with
  | nil => intro k; rfl
  | cons x t ih =>
    intro k
    rcases x with n | n | r
    · show (k, ab_cv (vI n)) :: ab_la (k + 1) (ab_args t) = (k, ab_cv (vI n)) :: lv_args (k + 1) (t.map ab_cv)
      rw [ih]
    · show (k, ab_cv (vL n)) :: ab_la (k + 1 + 1) (ab_args t) = (k, ab_cv (vL n)) :: lv_args (k + 2) (t.map ab_cv)
      rw [ih]
    · show (k, ab_cv (vR r)) :: ab_la (k + 1) (ab_args t) = (k, ab_cv (vR r)) :: lv_args (if (va_rf r).category = 2 then k + 2 else k + 1) (t.map ab_cv)
      rw [ih, ab_cat, if_neg (by decide)]
theorem ab_args_len : ∀ av : List AbV, (lg_sl (av.map ab_cv)).length = (ab_args av).length := by
  intro av
  induction av with
  | nil => rfl
  | cons x t ih =>
    have h1 : lg_sl ((x :: t).map ab_cv) = (if (ab_cv x).category = 2 then [Slot.val (ab_cv x), .second] else [.val (ab_cv x)]) ++ lg_sl (t.map ab_cv) := rfl
    rw [h1, List.length_append, ih]
    rcases x with n | n | r
    · show 1 + _ = (ab_args t).length + 1
      omega
    · show 2 + _ = (ab_args t).length + 1 + 1
      omega
    · show (if (va_rf r).category = 2 then [Slot.val (va_rf r), .second] else [.val (va_rf r)]).length + _ = (ab_args t).length + 1
      rw [ab_cat, if_neg (by decide)]
      show 1 + _ = _
      omega
theorem ab_args_ok : ∀ av : List AbV, (∀ a ∈ av, ab_ok a) → ∀ v, some v ∈ ab_args av → ab_ok v := by
  intro av
  induction av with
  | nil => intro _ v h; cases h
  | cons x t ih =>
    intro ha v h
    have h1 := ha x List.mem_cons_self
    have h2 := ih (fun a q => ha a (List.mem_cons_of_mem _ q)) v
    rcases x with n | n | r
    · rcases List.mem_cons.mp h with h | h
      · cases h; exact h1
      · exact h2 h
    · rcases List.mem_cons.mp h with h | h
      · cases h; exact h1
      · rcases List.mem_cons.mp h with h | h
        · cases h
        · exact h2 h
    · rcases List.mem_cons.mp h with h | h
      · cases h; trivial
      · exact h2 h
theorem Vm.intro {d : Nat} {md : AbM} {av : List AbV} {h : AbH} {K : Option AbV → AbH → Prop} (hy : plainName (mY md).cls = true) (hn : (ab_args av).length ≤ mL md) (k : (∀ a ∈ av, ab_ok a) → Vx d md (mN md) (mS md) 0 (ab_args av) [] h K) : Vm d md av h K := by
  intro l G
  refine Met.ofW (cc := mC md) (maxL := mL md) (ret := mR md) hy rfl ?_
  intro p e s m args below meth c s₁ B hml hv
  obtain ⟨rfl, ho, hR, hK⟩ := hv
  have hts := atoms_spec (ws := wsOf md) B.pre
  have hl := lv_entry (av.map ab_cv) (n := mL md) (by rw [ab_args_len]; exact hn)
  rw [lg_entry_eq]
  generalize (lg_sl (av.map ab_cv) ++ List.replicate (mL md - (lg_sl (av.map ab_cv)).length) Slot.unset).toArray = lsr at hl ⊢
  rw [← ab_args_la] at hl
  exact k ho l G p e _ s m _ below meth c s.heap [] 0 0 lsr ⟨B.exec, B.bytes, hml, B.returns, findClass_of_methodNamed B.named, fun w hw => hts w (List.mem_cons_of_mem _ hw), B.notSynchronized, (name_of_methodNamed B.named B.method).1, hK, Nat.le_refl _, Nat.le_refl _, rfl, rfl⟩ hl (fun v h => by cases h) (ab_args_ok av ho) hR (fun q h => by cases h) (by omega) (by omega)
end
section
theorem i32_eq {n : Int} (h : in32 n) : (Int32.ofInt n).toInt = n := Int32.toInt_ofInt_of_le (by have := h.1; omega) (by have := h.2; omega)
theorem i64_eq {n : Int} (h : in64 n) : (Int64.ofInt n).toInt = n := Int64.toInt_ofInt_of_le (by have := h.1; omega) (by have := h.2; omega)
theorem i32_inj {a b : Int} (ha : in32 a) (hb : in32 b) : Int32.ofInt a = Int32.ofInt b ↔ a = b := by
  rw [← Int32.toInt_inj, i32_eq ha, i32_eq hb]
theorem i32_le {a b : Int} (ha : in32 a) (hb : in32 b) : Int32.ofInt a ≤ Int32.ofInt b ↔ a ≤ b := by
  rw [Int32.le_iff_toInt_le, i32_eq ha, i32_eq hb]
theorem i32_lt {a b : Int} (ha : in32 a) (hb : in32 b) : Int32.ofInt a < Int32.ofInt b ↔ a < b := by
  rw [Int32.lt_iff_toInt_lt, i32_eq ha, i32_eq hb]
theorem i32_nat {a : Int} (ha : in32 a) : (Int32.ofInt a).toNatClampNeg = a.toNat := Int32.toNatClampNeg_ofInt_of_le (by have := ha.1; omega) (by have := ha.2; omega)
theorem i32_0 : in32 0 := ⟨by decide, by decide⟩
theorem i32_in {i : Int} {n : Nat} (hi : in32 i) (h0 : 0 ≤ i) (hn : i < (n : Int)) : vp_in (Int32.ofInt i) n := by
  intro h
  rcases h with h | h
  · rw [show (0 : Int32) = Int32.ofInt 0 from rfl, i32_lt hi i32_0] at h
    omega
  · rw [i32_nat hi] at h
    omega

theorem rr_iload_n {d : Nat} {md : AbM} {bc bs pc pc' : Nat} {ls : List (Option AbV)} {st : List AbV} {h : AbH} {K : Option AbV → AbH → Prop} {i : Fin 4} {x : Int} (hd : decode (mC md) pc = .ok (.iload_n i, 1)) (hp : pc + 1 = pc') (hi : ls[(i : Nat)]? = some (some (vI x))) (k : Vx d md bc bs pc' ls (vI x :: st) h K) : Vx d md bc bs pc ls st h K := by
  intro l G p e R s m args below meth c H locs cells slots lsr C hL hst hls hR hlo hbc hbs
  have C0 := C
  obtain ⟨hx, hb, hml, hret, hown, hts, hlk, hnm, hKn, hd1, hd2, hRc, hRs⟩ := C0
  subst hp
  refine lv_iload_n hx hb hd rfl (hL.get hi) ?_
  exact k l G p e R s m args below meth c H locs cells slots lsr C hL (List.forall_mem_cons.mpr ⟨hls _ (List.mem_of_getElem? hi), hst⟩) hls hR hlo hbc hbs
theorem rr_iload {d : Nat} {md : AbM} {bc bs pc pc' : Nat} {ls : List (Option AbV)} {st : List AbV} {h : AbH} {K : Option AbV → AbH → Prop} {i : Nat} {x : Int} (hd : decode (mC md) pc = .ok (.iload i, 2)) (hp : pc + 2 = pc') (hi : ls[i]? = some (some (vI x))) (k : Vx d md bc bs pc' ls (vI x :: st) h K) : Vx d md bc bs pc ls st h K := by
  intro l G p e R s m args below meth c H locs cells slots lsr C hL hst hls hR hlo hbc hbs
  have C0 := C
  obtain ⟨hx, hb, hml, hret, hown, hts, hlk, hnm, hKn, hd1, hd2, hRc, hRs⟩ := C0
  subst hp
  refine lv_iload hx hb hd (hL.get hi) ?_
  exact k l G p e R s m args below meth c H locs cells slots lsr C hL (List.forall_mem_cons.mpr ⟨hls _ (List.mem_of_getElem? hi), hst⟩) hls hR hlo hbc hbs
theorem rr_lload_n {d : Nat} {md : AbM} {bc bs pc pc' : Nat} {ls : List (Option AbV)} {st : List AbV} {h : AbH} {K : Option AbV → AbH → Prop} {i : Fin 4} {x : Int} (hd : decode (mC md) pc = .ok (.lload_n i, 1)) (hp : pc + 1 = pc') (hi : ls[(i : Nat)]? = some (some (vL x))) (k : Vx d md bc bs pc' ls (vL x :: st) h K) : Vx d md bc bs pc ls st h K := by
  intro l G p e R s m args below meth c H locs cells slots lsr C hL hst hls hR hlo hbc hbs
  have C0 := C
  obtain ⟨hx, hb, hml, hret, hown, hts, hlk, hnm, hKn, hd1, hd2, hRc, hRs⟩ := C0
  subst hp
  refine lv_lload_n hx hb hd rfl (hL.get hi) ?_
  exact k l G p e R s m args below meth c H locs cells slots lsr C hL (List.forall_mem_cons.mpr ⟨hls _ (List.mem_of_getElem? hi), hst⟩) hls hR hlo hbc hbs
theorem rr_lload {d : Nat} {md : AbM} {bc bs pc pc' : Nat} {ls : List (Option AbV)} {st : List AbV} {h : AbH} {K : Option AbV → AbH → Prop} {i : Nat} {x : Int} (hd : decode (mC md) pc = .ok (.lload i, 2)) (hp : pc + 2 = pc') (hi : ls[i]? = some (some (vL x))) (k : Vx d md bc bs pc' ls (vL x :: st) h K) : Vx d md bc bs pc ls st h K := by
  intro l G p e R s m args below meth c H locs cells slots lsr C hL hst hls hR hlo hbc hbs
  have C0 := C
  obtain ⟨hx, hb, hml, hret, hown, hts, hlk, hnm, hKn, hd1, hd2, hRc, hRs⟩ := C0
  subst hp
  refine lv_lload hx hb hd (hL.get hi) ?_
  exact k l G p e R s m args below meth c H locs cells slots lsr C hL (List.forall_mem_cons.mpr ⟨hls _ (List.mem_of_getElem? hi), hst⟩) hls hR hlo hbc hbs
theorem rr_aload_n {d : Nat} {md : AbM} {bc bs pc pc' : Nat} {ls : List (Option AbV)} {st : List AbV} {h : AbH} {K : Option AbV → AbH → Prop} {i : Fin 4} {r : Option Nat} (hd : decode (mC md) pc = .ok (.aload_n i, 1)) (hp : pc + 1 = pc') (hi : ls[(i : Nat)]? = some (some (vR r))) (k : Vx d md bc bs pc' ls (vR r :: st) h K) : Vx d md bc bs pc ls st h K := by
  intro l G p e R s m args below meth c H locs cells slots lsr C hL hst hls hR hlo hbc hbs
  have C0 := C
  obtain ⟨hx, hb, hml, hret, hown, hts, hlk, hnm, hKn, hd1, hd2, hRc, hRs⟩ := C0
  subst hp
  have k2 := k l G p e R s m args below meth c H locs cells slots lsr C hL (List.forall_mem_cons.mpr ⟨trivial, hst⟩) hls hR hlo hbc hbs
  cases r with
  | none => exact lv_aload_nN hx hb hd rfl (hL.get hi) k2
  | some a => exact lv_aload_n hx hb hd rfl (hL.get hi) k2
theorem rr_aload {d : Nat} {md : AbM} {bc bs pc pc' : Nat} {ls : List (Option AbV)} {st : List AbV} {h : AbH} {K : Option AbV → AbH → Prop} {i : Nat} {r : Option Nat} (hd : decode (mC md) pc = .ok (.aload i, 2)) (hp : pc + 2 = pc') (hi : ls[i]? = some (some (vR r))) (k : Vx d md bc bs pc' ls (vR r :: st) h K) : Vx d md bc bs pc ls st h K := by
  intro l G p e R s m args below meth c H locs cells slots lsr C hL hst hls hR hlo hbc hbs
  have C0 := C
  obtain ⟨hx, hb, hml, hret, hown, hts, hlk, hnm, hKn, hd1, hd2, hRc, hRs⟩ := C0
  subst hp
  have k2 := k l G p e R s m args below meth c H locs cells slots lsr C hL (List.forall_mem_cons.mpr ⟨trivial, hst⟩) hls hR hlo hbc hbs
  cases r with
  | none => exact lv_aloadN hx hb hd (hL.get hi) k2
  | some a => exact lv_aload hx hb hd (hL.get hi) k2
def ab_pl (ls : List (Option AbV)) (i : Nat) : Prop := match i with
  | 0 => True
  | i + 1 => ∀ n : Int, ls[i]? ≠ some (some (vL n))
theorem lvR.st1 {lsr : Array Slot} {n i : Nat} {ls : List (Option AbV)} {v : AbV} (hc : (ab_cv v).category = 1) (h : ab_pl ls i) (hL : lv_has lsr n ((i, ab_cv v) :: (ab_la 0 ls).filter (fun q => !(q.1 == i) && !(q.1 + 1 == i && q.2.category == 2)))) : lvR lsr n (ls.set i (some v)) := by
  refine ⟨hL.1, hL.2.1, fun q hq => ?_⟩
  obtain ⟨j, w, e1, e2⟩ := ab_la_inv _ 0 q hq
  subst e1
  rw [Nat.zero_add] at hq ⊢
  rw [List.getElem?_set] at e2
  refine hL.2.2 _ ?_
  split at e2
  next hij =>
    subst hij
    split at e2
    · cases e2
      exact List.mem_cons_self
    · cases e2
  next hij =>
    refine List.mem_cons_of_mem _ (List.mem_filter.mpr ⟨by simpa using ab_la_mem ls 0 j w e2, ?_⟩)
    have h1 : (j == i) = false := by simpa using fun q => hij q.symm
    by_cases h2 : j + 1 = i
    · subst h2
      have h3 : ((ab_cv w).category == 2) = false := by
        rcases w with x | x | x
        · rfl
        · exact absurd e2 (h x)
        · show ((va_rf x).category == 2) = false
          rw [ab_cat]; rfl
      simp [h1, h3]
    · have h4 : (j + 1 == i) = false := by simpa using h2
      simp [h1, h4]
theorem lvR.st2 {lsr : Array Slot} {n i : Nat} {ls : List (Option AbV)} {x : Int} (h : ab_pl ls i) (hL : lv_has lsr n ((i, ab_cv (vL x)) :: (ab_la 0 ls).filter (fun q => !(q.1 == i) && (!(q.1 == i + 1) && !(q.1 + 1 == i && q.2.category == 2))))) : lvR lsr n ((ls.set i (some (vL x))).set (i + 1) none) := by
  refine ⟨hL.1, hL.2.1, fun q hq => ?_⟩
  obtain ⟨j, w, e1, e2⟩ := ab_la_inv _ 0 q hq
  subst e1
  rw [Nat.zero_add] at hq ⊢
  rw [List.getElem?_set] at e2
  refine hL.2.2 _ ?_
  split at e2
  next hij =>
    subst hij
    split at e2
    · cases e2
    · cases e2
  next hij1 =>
    rw [List.getElem?_set] at e2
    split at e2
    next hij =>
      subst hij
      split at e2
      · cases e2
        exact List.mem_cons_self
      · cases e2
    next hij =>
      refine List.mem_cons_of_mem _ (List.mem_filter.mpr ⟨by simpa using ab_la_mem ls 0 j w e2, ?_⟩)
      have h1 : (j == i) = false := by simpa using fun q => hij q.symm
      have h0 : (j == i + 1) = false := by simpa using fun q => hij1 q.symm
      by_cases h2 : j + 1 = i
      · subst h2
        have h3 : ((ab_cv w).category == 2) = false := by
          rcases w with x | x | x
          · rfl
          · exact absurd e2 (h x)
          · show ((va_rf x).category == 2) = false
            rw [ab_cat]; rfl
        simp [h1, h0, h3]
      · have h4 : (j + 1 == i) = false := by simpa using h2
        simp [h1, h0, h4]
theorem ab_set_ok {ls : List (Option AbV)} {i : Nat} {v : AbV} (hls : ∀ w, some w ∈ ls → ab_ok w) (hv : ab_ok v) : ∀ w, some w ∈ ls.set i (some v) → ab_ok w := by
  intro w hw
  rcases List.mem_or_eq_of_mem_set hw with h | h
  · exact hls w h
  · cases h; exact hv
theorem ab_set_ok0 {ls : List (Option AbV)} {i : Nat} (hls : ∀ w, some w ∈ ls → ab_ok w) : ∀ w, some w ∈ ls.set i none → ab_ok w := by
  intro w hw
  rcases List.mem_or_eq_of_mem_set hw with h | h
  · exact hls w h
  · cases h
theorem rr_istore_n {d : Nat} {md : AbM} {bc bs pc pc' : Nat} {ls : List (Option AbV)} {st : List AbV} {h : AbH} {K : Option AbV → AbH → Prop} {ls' : List (Option AbV)} {i : Fin 4} {x : Int} (hd : decode (mC md) pc = .ok (.istore_n i, 1)) (hp : pc + 1 = pc') (hn : (i : Nat) < mL md) (hpl : ab_pl ls (i : Nat)) (hl : ls.set (i : Nat) (some (vI x)) = ls') (k : Vx d md bc bs pc' ls' st h K) : Vx d md bc bs pc ls (vI x :: st) h K := by
  intro l G p e R s m args below meth c H locs cells slots lsr C hL hst hls hR hlo hbc hbs
  have C0 := C
  obtain ⟨hx, hb, hml, hret, hown, hts, hlk, hnm, hKn, hd1, hd2, hRc, hRs⟩ := C0
  subst hp; subst hl
  exact lv_istore_n hx hb hd rfl hL hn rfl (fun lsr' hl' => k l G p e R s m args below meth c H locs cells slots lsr' C (lvR.st1 rfl hpl hl') (fun v hv => hst v (List.mem_cons_of_mem _ hv)) (ab_set_ok hls (hst _ List.mem_cons_self)) hR hlo hbc hbs)
theorem rr_istore {d : Nat} {md : AbM} {bc bs pc pc' : Nat} {ls : List (Option AbV)} {st : List AbV} {h : AbH} {K : Option AbV → AbH → Prop} {ls' : List (Option AbV)} {i : Nat} {x : Int} (hd : decode (mC md) pc = .ok (.istore i, 2)) (hp : pc + 2 = pc') (hn : i < mL md) (hpl : ab_pl ls i) (hl : ls.set i (some (vI x)) = ls') (k : Vx d md bc bs pc' ls' st h K) : Vx d md bc bs pc ls (vI x :: st) h K := by
  intro l G p e R s m args below meth c H locs cells slots lsr C hL hst hls hR hlo hbc hbs
  have C0 := C
  obtain ⟨hx, hb, hml, hret, hown, hts, hlk, hnm, hKn, hd1, hd2, hRc, hRs⟩ := C0
  subst hp; subst hl
  exact lv_istore hx hb hd hL hn rfl (fun lsr' hl' => k l G p e R s m args below meth c H locs cells slots lsr' C (lvR.st1 rfl hpl hl') (fun v hv => hst v (List.mem_cons_of_mem _ hv)) (ab_set_ok hls (hst _ List.mem_cons_self)) hR hlo hbc hbs)
theorem rr_astore_n {d : Nat} {md : AbM} {bc bs pc pc' : Nat} {ls : List (Option AbV)} {st : List AbV} {h : AbH} {K : Option AbV → AbH → Prop} {ls' : List (Option AbV)} {i : Fin 4} {x : Option Nat} (hd : decode (mC md) pc = .ok (.astore_n i, 1)) (hp : pc + 1 = pc') (hn : (i : Nat) < mL md) (hpl : ab_pl ls (i : Nat)) (hl : ls.set (i : Nat) (some (vR x)) = ls') (k : Vx d md bc bs pc' ls' st h K) : Vx d md bc bs pc ls (vR x :: st) h K := by
  intro l G p e R s m args below meth c H locs cells slots lsr C hL hst hls hR hlo hbc hbs
  have C0 := C
  obtain ⟨hx, hb, hml, hret, hown, hts, hlk, hnm, hKn, hd1, hd2, hRc, hRs⟩ := C0
  subst hp; subst hl
  cases x with
  | none => exact lv_astore_nN hx hb hd rfl hL hn rfl (fun lsr' hl' => k l G p e R s m args below meth c H locs cells slots lsr' C (lvR.st1 rfl hpl hl') (fun v hv => hst v (List.mem_cons_of_mem _ hv)) (ab_set_ok hls trivial) hR hlo hbc hbs)
  | some a => exact lv_astore_n hx hb hd rfl hL hn rfl (fun lsr' hl' => k l G p e R s m args below meth c H locs cells slots lsr' C (lvR.st1 rfl hpl hl') (fun v hv => hst v (List.mem_cons_of_mem _ hv)) (ab_set_ok hls trivial) hR hlo hbc hbs)
theorem rr_astore {d : Nat} {md : AbM} {bc bs pc pc' : Nat} {ls : List (Option AbV)} {st : List AbV} {h : AbH} {K : Option AbV → AbH → Prop} {ls' : List (Option AbV)} {i : Nat} {x : Option Nat} (hd : decode (mC md) pc = .ok (.astore i, 2)) (hp : pc + 2 = pc') (hn : i < mL md) (hpl : ab_pl ls i) (hl : ls.set i (some (vR x)) = ls') (k : Vx d md bc bs pc' ls' st h K) : Vx d md bc bs pc ls (vR x :: st) h K := by
  intro l G p e R s m args below meth c H locs cells slots lsr C hL hst hls hR hlo hbc hbs
  have C0 := C
  obtain ⟨hx, hb, hml, hret, hown, hts, hlk, hnm, hKn, hd1, hd2, hRc, hRs⟩ := C0
  subst hp; subst hl
  cases x with
  | none => exact lv_astoreN hx hb hd hL hn rfl (fun lsr' hl' => k l G p e R s m args below meth c H locs cells slots lsr' C (lvR.st1 rfl hpl hl') (fun v hv => hst v (List.mem_cons_of_mem _ hv)) (ab_set_ok hls trivial) hR hlo hbc hbs)
  | some a => exact lv_astore hx hb hd hL hn rfl (fun lsr' hl' => k l G p e R s m args below meth c H locs cells slots lsr' C (lvR.st1 rfl hpl hl') (fun v hv => hst v (List.mem_cons_of_mem _ hv)) (ab_set_ok hls trivial) hR hlo hbc hbs)
theorem rr_lstore_n {d : Nat} {md : AbM} {bc bs pc pc' : Nat} {ls : List (Option AbV)} {st : List AbV} {h : AbH} {K : Option AbV → AbH → Prop} {ls' : List (Option AbV)} {i : Fin 4} {x : Int} (hd : decode (mC md) pc = .ok (.lstore_n i, 1)) (hp : pc + 1 = pc') (hn : (i : Nat) + 1 < mL md) (hpl : ab_pl ls (i : Nat)) (hl : (ls.set (i : Nat) (some (vL x))).set ((i : Nat) + 1) none = ls') (k : Vx d md bc bs pc' ls' st h K) : Vx d md bc bs pc ls (vL x :: st) h K := by
  intro l G p e R s m args below meth c H locs cells slots lsr C hL hst hls hR hlo hbc hbs
  have C0 := C
  obtain ⟨hx, hb, hml, hret, hown, hts, hlk, hnm, hKn, hd1, hd2, hRc, hRs⟩ := C0
  subst hp; subst hl
  exact lv_lstore_n hx hb hd rfl hL hn rfl (fun lsr' hl' => k l G p e R s m args below meth c H locs cells slots lsr' C (lvR.st2 hpl hl') (fun v hv => hst v (List.mem_cons_of_mem _ hv)) (ab_set_ok0 (ab_set_ok hls (hst _ List.mem_cons_self))) hR hlo hbc hbs)
theorem rr_lstore {d : Nat} {md : AbM} {bc bs pc pc' : Nat} {ls : List (Option AbV)} {st : List AbV} {h : AbH} {K : Option AbV → AbH → Prop} {ls' : List (Option AbV)} {i : Nat} {x : Int} (hd : decode (mC md) pc = .ok (.lstore i, 2)) (hp : pc + 2 = pc') (hn : i + 1 < mL md) (hpl : ab_pl ls i) (hl : (ls.set i (some (vL x))).set (i + 1) none = ls') (k : Vx d md bc bs pc' ls' st h K) : Vx d md bc bs pc ls (vL x :: st) h K := by
  intro l G p e R s m args below meth c H locs cells slots lsr C hL hst hls hR hlo hbc hbs
  have C0 := C
  obtain ⟨hx, hb, hml, hret, hown, hts, hlk, hnm, hKn, hd1, hd2, hRc, hRs⟩ := C0
  subst hp; subst hl
  exact lv_lstore hx hb hd hL hn rfl (fun lsr' hl' => k l G p e R s m args below meth c H locs cells slots lsr' C (lvR.st2 hpl hl') (fun v hv => hst v (List.mem_cons_of_mem _ hv)) (ab_set_ok0 (ab_set_ok hls (hst _ List.mem_cons_self))) hR hlo hbc hbs)
theorem rr_iinc {d : Nat} {md : AbM} {bc bs pc pc' : Nat} {ls : List (Option AbV)} {st : List AbV} {h : AbH} {K : Option AbV → AbH → Prop} {ls' : List (Option AbV)} {i : Nat} {n x : Int} (hd : decode (mC md) pc = .ok (.iinc i n, 3)) (hp : pc + 3 = pc') (hi : ls[i]? = some (some (vI x))) (hn : i < mL md) (hpl : ab_pl ls i) (hr : in32 (x + n)) (hl : ls.set i (some (vI (x + n))) = ls') (k : Vx d md bc bs pc' ls' st h K) : Vx d md bc bs pc ls st h K := by
  intro l G p e R s m args below meth c H locs cells slots lsr C hL hst hls hR hlo hbc hbs
  have C0 := C
  obtain ⟨hx, hb, hml, hret, hown, hts, hlk, hnm, hKn, hd1, hd2, hRc, hRs⟩ := C0
  subst hp; subst hl
  obtain ⟨z, hz⟩ := List.getElem?_of_mem (by simpa using ab_la_mem ls 0 i (vI x) hi)
  exact lv_iinc hx hb hd hL (k := z) hz (v := Int32.ofInt (x + n)) (by rw [Int32.ofInt_add]) hn rfl (fun lsr' hl' => k l G p e R s m args below meth c H locs cells slots lsr' C (lvR.st1 (v := vI (x + n)) rfl hpl hl') hst (ab_set_ok hls hr) hR hlo hbc hbs)
theorem rr_iconst {d : Nat} {md : AbM} {bc bs pc pc' : Nat} {ls : List (Option AbV)} {st : List AbV} {h : AbH} {K : Option AbV → AbH → Prop} {n : Int} (hd : decode (mC md) pc = .ok (.iconst n, 1)) (hp : pc + 1 = pc') (hn : in32 n) (k : Vx d md bc bs pc' ls (vI n :: st) h K) : Vx d md bc bs pc ls (st) h K := by
  intro l G p e R s m args below meth c H locs cells slots lsr C hL hst hls hR hlo hbc hbs
  have C0 := C
  obtain ⟨hx, hb, hml, hret, hown, hts, hlk, hnm, hKn, hd1, hd2, hRc, hRs⟩ := C0
  subst hp
  refine lv_iconst hx hb hd rfl ?_
  exact k l G p e R s m args below meth c H locs cells slots lsr C hL (List.forall_mem_cons.mpr ⟨hn, hst⟩) hls hR hlo hbc hbs
theorem rr_bipush {d : Nat} {md : AbM} {bc bs pc pc' : Nat} {ls : List (Option AbV)} {st : List AbV} {h : AbH} {K : Option AbV → AbH → Prop} {n : Int} (hd : decode (mC md) pc = .ok (.bipush n, 2)) (hp : pc + 2 = pc') (hn : in32 n) (hv : (Int8.ofInt n).toInt32 = Int32.ofInt n) (k : Vx d md bc bs pc' ls (vI n :: st) h K) : Vx d md bc bs pc ls (st) h K := by
  intro l G p e R s m args below meth c H locs cells slots lsr C hL hst hls hR hlo hbc hbs
  have C0 := C
  obtain ⟨hx, hb, hml, hret, hown, hts, hlk, hnm, hKn, hd1, hd2, hRc, hRs⟩ := C0
  subst hp
  refine lv_bipush hx hb hd (v := Int32.ofInt n) hv ?_
  exact k l G p e R s m args below meth c H locs cells slots lsr C hL (List.forall_mem_cons.mpr ⟨hn, hst⟩) hls hR hlo hbc hbs
theorem rr_sipush {d : Nat} {md : AbM} {bc bs pc pc' : Nat} {ls : List (Option AbV)} {st : List AbV} {h : AbH} {K : Option AbV → AbH → Prop} {n : Int} (hd : decode (mC md) pc = .ok (.sipush n, 3)) (hp : pc + 3 = pc') (hn : in32 n) (hv : (Int16.ofInt n).toInt32 = Int32.ofInt n) (k : Vx d md bc bs pc' ls (vI n :: st) h K) : Vx d md bc bs pc ls (st) h K := by
  intro l G p e R s m args below meth c H locs cells slots lsr C hL hst hls hR hlo hbc hbs
  have C0 := C
  obtain ⟨hx, hb, hml, hret, hown, hts, hlk, hnm, hKn, hd1, hd2, hRc, hRs⟩ := C0
  subst hp
  refine lv_sipush hx hb hd (v := Int32.ofInt n) hv ?_
  exact k l G p e R s m args below meth c H locs cells slots lsr C hL (List.forall_mem_cons.mpr ⟨hn, hst⟩) hls hR hlo hbc hbs
theorem rr_lconst {d : Nat} {md : AbM} {bc bs pc pc' : Nat} {ls : List (Option AbV)} {st : List AbV} {h : AbH} {K : Option AbV → AbH → Prop} {z : Fin 2} {n : Int} (hd : decode (mC md) pc = .ok (.lconst z, 1)) (hp : pc + 1 = pc') (hn : in64 n) (hv : Int64.ofNat (z : Nat) = Int64.ofInt n) (k : Vx d md bc bs pc' ls (vL n :: st) h K) : Vx d md bc bs pc ls (st) h K := by
  intro l G p e R s m args below meth c H locs cells slots lsr C hL hst hls hR hlo hbc hbs
  have C0 := C
  obtain ⟨hx, hb, hml, hret, hown, hts, hlk, hnm, hKn, hd1, hd2, hRc, hRs⟩ := C0
  subst hp
  refine lv_lconst hx hb hd (v := Int64.ofInt n) hv ?_
  exact k l G p e R s m args below meth c H locs cells slots lsr C hL (List.forall_mem_cons.mpr ⟨hn, hst⟩) hls hR hlo hbc hbs
theorem rr_ldc2 {d : Nat} {md : AbM} {bc bs pc pc' : Nat} {ls : List (Option AbV)} {st : List AbV} {h : AbH} {K : Option AbV → AbH → Prop} {i : Nat} {n : Int} (hd : decode (mC md) pc = .ok (.ldc2_w i, 3)) (hp : pc + 3 = pc') (hw : Cond.constantLong (mY md).cls i (Int64.ofInt n) ∈ lwW) (hn : in64 n) (k : Vx d md bc bs pc' ls (vL n :: st) h K) : Vx d md bc bs pc ls (st) h K := by
  intro l G p e R s m args below meth c H locs cells slots lsr C hL hst hls hR hlo hbc hbs
  have C0 := C
  obtain ⟨hx, hb, hml, hret, hown, hts, hlk, hnm, hKn, hd1, hd2, hRc, hRs⟩ := C0
  subst hp
  refine lv_ldc2 hx hb hown (v := Int64.ofInt n) (hts _ hw) hd ?_
  exact k l G p e R s m args below meth c H locs cells slots lsr C hL (List.forall_mem_cons.mpr ⟨hn, hst⟩) hls hR hlo hbc hbs
theorem rr_null {d : Nat} {md : AbM} {bc bs pc pc' : Nat} {ls : List (Option AbV)} {st : List AbV} {h : AbH} {K : Option AbV → AbH → Prop}  (hd : decode (mC md) pc = .ok (.aconst_null, 1)) (hp : pc + 1 = pc')  (k : Vx d md bc bs pc' ls (vR none :: st) h K) : Vx d md bc bs pc ls (st) h K := by
  intro l G p e R s m args below meth c H locs cells slots lsr C hL hst hls hR hlo hbc hbs
  have C0 := C
  obtain ⟨hx, hb, hml, hret, hown, hts, hlk, hnm, hKn, hd1, hd2, hRc, hRs⟩ := C0
  subst hp
  refine lv_null hx hb hd ?_
  exact k l G p e R s m args below meth c H locs cells slots lsr C hL (List.forall_mem_cons.mpr ⟨trivial, hst⟩) hls hR hlo hbc hbs
theorem rr_dup {d : Nat} {md : AbM} {bc bs pc pc' : Nat} {ls : List (Option AbV)} {st : List AbV} {h : AbH} {K : Option AbV → AbH → Prop} {v : AbV} (hd : decode (mC md) pc = .ok (.dup, 1)) (hp : pc + 1 = pc') (hc : (ab_cv v).category = 1) (k : Vx d md bc bs pc' ls (v :: v :: st) h K) : Vx d md bc bs pc ls (v :: st) h K := by
  intro l G p e R s m args below meth c H locs cells slots lsr C hL hst hls hR hlo hbc hbs
  have C0 := C
  obtain ⟨hx, hb, hml, hret, hown, hts, hlk, hnm, hKn, hd1, hd2, hRc, hRs⟩ := C0
  subst hp
  refine lv_dup hx hb hd hc ?_
  exact k l G p e R s m args below meth c H locs cells slots lsr C hL (List.forall_mem_cons.mpr ⟨hst _ List.mem_cons_self, hst⟩) hls hR hlo hbc hbs
theorem rr_pop {d : Nat} {md : AbM} {bc bs pc pc' : Nat} {ls : List (Option AbV)} {st : List AbV} {h : AbH} {K : Option AbV → AbH → Prop} {v : AbV} (hd : decode (mC md) pc = .ok (.pop, 1)) (hp : pc + 1 = pc') (hc : (ab_cv v).category = 1) (k : Vx d md bc bs pc' ls (st) h K) : Vx d md bc bs pc ls (v :: st) h K := by
  intro l G p e R s m args below meth c H locs cells slots lsr C hL hst hls hR hlo hbc hbs
  have C0 := C
  obtain ⟨hx, hb, hml, hret, hown, hts, hlk, hnm, hKn, hd1, hd2, hRc, hRs⟩ := C0
  subst hp
  refine lv_pop hx hb hd hc ?_
  exact k l G p e R s m args below meth c H locs cells slots lsr C hL (fun w hw => hst w (List.mem_cons_of_mem _ hw)) hls hR hlo hbc hbs
theorem rr_dup2 {d : Nat} {md : AbM} {bc bs pc pc' : Nat} {ls : List (Option AbV)} {st : List AbV} {h : AbH} {K : Option AbV → AbH → Prop} {v w : AbV} (hd : decode (mC md) pc = .ok (.dup2, 1)) (hp : pc + 1 = pc') (hc : (ab_cv v).category = 1) (hc2 : (ab_cv w).category = 1) (k : Vx d md bc bs pc' ls (v :: w :: v :: w :: st) h K) : Vx d md bc bs pc ls (v :: w :: st) h K := by
  intro l G p e R s m args below meth c H locs cells slots lsr C hL hst hls hR hlo hbc hbs
  have C0 := C
  obtain ⟨hx, hb, hml, hret, hown, hts, hlk, hnm, hKn, hd1, hd2, hRc, hRs⟩ := C0
  subst hp
  refine lv_dup2_11 hx hb hd hc hc2 ?_
  exact k l G p e R s m args below meth c H locs cells slots lsr C hL (List.forall_mem_cons.mpr ⟨hst _ List.mem_cons_self, List.forall_mem_cons.mpr ⟨hst _ (List.mem_cons_of_mem _ List.mem_cons_self), hst⟩⟩) hls hR hlo hbc hbs
theorem rr_iadd {d : Nat} {md : AbM} {bc bs pc pc' : Nat} {ls : List (Option AbV)} {st : List AbV} {h : AbH} {K : Option AbV → AbH → Prop} {a b : Int} (hd : decode (mC md) pc = .ok (.iadd, 1)) (hp : pc + 1 = pc') (hr : in32 (a + b)) (k : Vx d md bc bs pc' ls (vI (a + b) :: st) h K) : Vx d md bc bs pc ls (vI b :: vI a :: st) h K := by
  intro l G p e R s m args below meth c H locs cells slots lsr C hL hst hls hR hlo hbc hbs
  have C0 := C
  obtain ⟨hx, hb, hml, hret, hown, hts, hlk, hnm, hKn, hd1, hd2, hRc, hRs⟩ := C0
  subst hp
  obtain ⟨hsb, hsta⟩ := List.forall_mem_cons.mp hst
  obtain ⟨hsa, hst⟩ := List.forall_mem_cons.mp hsta
  refine lv_iadd hx hb hd ?_
  rw [← Int32.ofInt_add]
  exact k l G p e R s m args below meth c H locs cells slots lsr C hL (List.forall_mem_cons.mpr ⟨hr, hst⟩) hls hR hlo hbc hbs
theorem rr_isub {d : Nat} {md : AbM} {bc bs pc pc' : Nat} {ls : List (Option AbV)} {st : List AbV} {h : AbH} {K : Option AbV → AbH → Prop} {a b : Int} (hd : decode (mC md) pc = .ok (.isub, 1)) (hp : pc + 1 = pc') (hr : in32 (a - b)) (k : Vx d md bc bs pc' ls (vI (a - b) :: st) h K) : Vx d md bc bs pc ls (vI b :: vI a :: st) h K := by
  intro l G p e R s m args below meth c H locs cells slots lsr C hL hst hls hR hlo hbc hbs
  have C0 := C
  obtain ⟨hx, hb, hml, hret, hown, hts, hlk, hnm, hKn, hd1, hd2, hRc, hRs⟩ := C0
  subst hp
  obtain ⟨hsb, hsta⟩ := List.forall_mem_cons.mp hst
  obtain ⟨hsa, hst⟩ := List.forall_mem_cons.mp hsta
  refine lv_isub hx hb hd ?_
  rw [← Int32.ofInt_sub]
  exact k l G p e R s m args below meth c H locs cells slots lsr C hL (List.forall_mem_cons.mpr ⟨hr, hst⟩) hls hR hlo hbc hbs
theorem rr_imul {d : Nat} {md : AbM} {bc bs pc pc' : Nat} {ls : List (Option AbV)} {st : List AbV} {h : AbH} {K : Option AbV → AbH → Prop} {a b : Int} (hd : decode (mC md) pc = .ok (.imul, 1)) (hp : pc + 1 = pc') (hr : in32 (a * b)) (k : Vx d md bc bs pc' ls (vI (a * b) :: st) h K) : Vx d md bc bs pc ls (vI b :: vI a :: st) h K := by
  intro l G p e R s m args below meth c H locs cells slots lsr C hL hst hls hR hlo hbc hbs
  have C0 := C
  obtain ⟨hx, hb, hml, hret, hown, hts, hlk, hnm, hKn, hd1, hd2, hRc, hRs⟩ := C0
  subst hp
  obtain ⟨hsb, hsta⟩ := List.forall_mem_cons.mp hst
  obtain ⟨hsa, hst⟩ := List.forall_mem_cons.mp hsta
  refine lv_imul hx hb hd ?_
  rw [← Int32.ofInt_mul]
  exact k l G p e R s m args below meth c H locs cells slots lsr C hL (List.forall_mem_cons.mpr ⟨hr, hst⟩) hls hR hlo hbc hbs
theorem i32_divp {a b : Int} (ha : in32 a) (hb : in32 b) (h0 : 0 ≤ a) (h : 0 < b) : in32 (a / b) ∧ in32 (a % b) := by
  have h1 : 0 ≤ a / b := Int.ediv_nonneg h0 (by omega)
  have h2 : a / b ≤ a := Int.ediv_le_self b h0
  have h3 : 0 ≤ a % b := Int.emod_nonneg a (by omega)
  have h4 : a % b < b := Int.emod_lt_of_pos a h
  unfold in32 at *
  omega
theorem i32_tdiv {a b : Int} (ha : in32 a) (hb : in32 b) (h0 : 0 ≤ a) (h : 0 < b) : Int32.ofInt a / Int32.ofInt b = Int32.ofInt (a / b) := by
  apply Int32.toInt_inj.mp
  rw [i32_eq (i32_divp ha hb h0 h).1, Int32.toInt_div_of_ne_right, i32_eq ha, i32_eq hb, Int.tdiv_eq_ediv_of_nonneg h0]
  intro e
  have := congrArg Int32.toInt e
  rw [i32_eq hb] at this
  have e2 : (-1 : Int32).toInt = -1 := rfl
  omega
theorem i32_tmod {a b : Int} (ha : in32 a) (hb : in32 b) (h0 : 0 ≤ a) (h : 0 < b) : Int32.ofInt a - Int32.ofInt a / Int32.ofInt b * Int32.ofInt b = Int32.ofInt (a % b) := by
  rw [i32_tdiv ha hb h0 h, ← Int32.ofInt_mul, ← Int32.ofInt_sub]
  congr 1
  have := Int.mul_ediv_add_emod a b
  rw [Int.mul_comm] at this
  omega
theorem i32_ne0 {b : Int} (hb : in32 b) (h : 0 < b) : ¬ Int32.ofInt b = 0 := by
  rw [show (0 : Int32) = Int32.ofInt 0 from rfl, i32_inj hb i32_0]
  omega
theorem rr_idiv {d : Nat} {md : AbM} {bc bs pc pc' : Nat} {ls : List (Option AbV)} {st : List AbV} {h : AbH} {K : Option AbV → AbH → Prop} {a b : Int} (hd : decode (mC md) pc = .ok (.idiv, 1)) (hp : pc + 1 = pc') (hr : 0 ≤ a ∧ 0 < b) (k : Vx d md bc bs pc' ls (vI (a / b) :: st) h K) : Vx d md bc bs pc ls (vI b :: vI a :: st) h K := by
  intro l G p e R s m args below meth c H locs cells slots lsr C hL hst hls hR hlo hbc hbs
  have C0 := C
  obtain ⟨hx, hb, hml, hret, hown, hts, hlk, hnm, hKn, hd1, hd2, hRc, hRs⟩ := C0
  subst hp
  obtain ⟨hsb, hsta⟩ := List.forall_mem_cons.mp hst
  obtain ⟨hsa, hst⟩ := List.forall_mem_cons.mp hsta
  refine lv_idiv hx hb hd (i32_ne0 hsb hr.2) ?_
  rw [i32_tdiv hsa hsb hr.1 hr.2]
  exact k l G p e R s m args below meth c H locs cells slots lsr C hL (List.forall_mem_cons.mpr ⟨(i32_divp hsa hsb hr.1 hr.2).1, hst⟩) hls hR hlo hbc hbs
theorem rr_irem {d : Nat} {md : AbM} {bc bs pc pc' : Nat} {ls : List (Option AbV)} {st : List AbV} {h : AbH} {K : Option AbV → AbH → Prop} {a b : Int} (hd : decode (mC md) pc = .ok (.irem, 1)) (hp : pc + 1 = pc') (hr : 0 ≤ a ∧ 0 < b) (k : Vx d md bc bs pc' ls (vI (a % b) :: st) h K) : Vx d md bc bs pc ls (vI b :: vI a :: st) h K := by
  intro l G p e R s m args below meth c H locs cells slots lsr C hL hst hls hR hlo hbc hbs
  have C0 := C
  obtain ⟨hx, hb, hml, hret, hown, hts, hlk, hnm, hKn, hd1, hd2, hRc, hRs⟩ := C0
  subst hp
  obtain ⟨hsb, hsta⟩ := List.forall_mem_cons.mp hst
  obtain ⟨hsa, hst⟩ := List.forall_mem_cons.mp hsta
  refine lv_irem hx hb hd (i32_ne0 hsb hr.2) ?_
  rw [i32_tmod hsa hsb hr.1 hr.2]
  exact k l G p e R s m args below meth c H locs cells slots lsr C hL (List.forall_mem_cons.mpr ⟨(i32_divp hsa hsb hr.1 hr.2).2, hst⟩) hls hR hlo hbc hbs
theorem rr_i2l {d : Nat} {md : AbM} {bc bs pc pc' : Nat} {ls : List (Option AbV)} {st : List AbV} {h : AbH} {K : Option AbV → AbH → Prop} {a : Int} (hd : decode (mC md) pc = .ok (.i2l, 1)) (hp : pc + 1 = pc')  (k : Vx d md bc bs pc' ls (vL a :: st) h K) : Vx d md bc bs pc ls (vI a :: st) h K := by
  intro l G p e R s m args below meth c H locs cells slots lsr C hL hst hls hR hlo hbc hbs
  have C0 := C
  obtain ⟨hx, hb, hml, hret, hown, hts, hlk, hnm, hKn, hd1, hd2, hRc, hRs⟩ := C0
  subst hp
  obtain ⟨hsa, hst⟩ := List.forall_mem_cons.mp hst
  have hsa : in32 a := hsa
  refine lv_i2l hx hb hd (v := Int64.ofInt a) (Int32.toInt64_ofInt (by have := hsa.1; exact this) (by have := hsa.2; exact this)) ?_
  exact k l G p e R s m args below meth c H locs cells slots lsr C hL (List.forall_mem_cons.mpr ⟨⟨by have := hsa.1; omega, by have := hsa.2; omega⟩, hst⟩) hls hR hlo hbc hbs
theorem rr_l2i {d : Nat} {md : AbM} {bc bs pc pc' : Nat} {ls : List (Option AbV)} {st : List AbV} {h : AbH} {K : Option AbV → AbH → Prop} {a : Int} (hd : decode (mC md) pc = .ok (.l2i, 1)) (hp : pc + 1 = pc') (hr : in32 a) (k : Vx d md bc bs pc' ls (vI a :: st) h K) : Vx d md bc bs pc ls (vL a :: st) h K := by
  intro l G p e R s m args below meth c H locs cells slots lsr C hL hst hls hR hlo hbc hbs
  have C0 := C
  obtain ⟨hx, hb, hml, hret, hown, hts, hlk, hnm, hKn, hd1, hd2, hRc, hRs⟩ := C0
  subst hp
  obtain ⟨hsa, hst⟩ := List.forall_mem_cons.mp hst
  refine lv_l2i hx hb hd (v := Int32.ofInt a) Int64.toInt32_ofInt ?_
  exact k l G p e R s m args below meth c H locs cells slots lsr C hL (List.forall_mem_cons.mpr ⟨hr, hst⟩) hls hR hlo hbc hbs
theorem rr_icmp_eq {d : Nat} {md : AbM} {bc bs pc pc' : Nat} {ls : List (Option AbV)} {st : List AbV} {h : AbH} {K : Option AbV → AbH → Prop} {off : Int} {tgt : Nat} {a b : Int} (hd : decode (mC md) pc = .ok (.if_icmp .eq off, 3)) (hp : pc + 3 = pc') (ht : (pc : Int) + off = (tgt : Int)) (kt : a = b → Vx d md bc bs tgt ls st h K) (kf : ¬ (a = b) → Vx d md bc bs pc' ls st h K) : Vx d md bc bs pc ls (vI b :: vI a :: st) h K := by
  intro l G p e R s m args below meth c H locs cells slots lsr C hL hst hls hR hlo hbc hbs
  have C0 := C
  obtain ⟨hx, hb, hml, hret, hown, hts, hlk, hnm, hKn, hd1, hd2, hRc, hRs⟩ := C0
  subst hp
  obtain ⟨hsb, hsta⟩ := List.forall_mem_cons.mp hst
  obtain ⟨hsa, hst⟩ := List.forall_mem_cons.mp hsta
  have hsa : in32 a := hsa
  have hsb : in32 b := hsb
  exact lv_icmp_eq hx hb hd ht (fun hc => kt ((i32_inj hsa hsb).mp hc) l G p e R s m args below meth c H locs cells slots lsr C hL hst hls hR hlo hbc hbs) (fun hc => kf (fun z => hc ((i32_inj hsa hsb).mpr z)) l G p e R s m args below meth c H locs cells slots lsr C hL hst hls hR hlo hbc hbs)
theorem rr_icmp_ne {d : Nat} {md : AbM} {bc bs pc pc' : Nat} {ls : List (Option AbV)} {st : List AbV} {h : AbH} {K : Option AbV → AbH → Prop} {off : Int} {tgt : Nat} {a b : Int} (hd : decode (mC md) pc = .ok (.if_icmp .ne off, 3)) (hp : pc + 3 = pc') (ht : (pc : Int) + off = (tgt : Int)) (kt : a ≠ b → Vx d md bc bs tgt ls st h K) (kf : ¬ (a ≠ b) → Vx d md bc bs pc' ls st h K) : Vx d md bc bs pc ls (vI b :: vI a :: st) h K := by
  intro l G p e R s m args below meth c H locs cells slots lsr C hL hst hls hR hlo hbc hbs
  have C0 := C
  obtain ⟨hx, hb, hml, hret, hown, hts, hlk, hnm, hKn, hd1, hd2, hRc, hRs⟩ := C0
  subst hp
  obtain ⟨hsb, hsta⟩ := List.forall_mem_cons.mp hst
  obtain ⟨hsa, hst⟩ := List.forall_mem_cons.mp hsta
  have hsa : in32 a := hsa
  have hsb : in32 b := hsb
  exact lv_icmp_ne hx hb hd ht (fun hc => kt ((not_congr (i32_inj hsa hsb)).mp hc) l G p e R s m args below meth c H locs cells slots lsr C hL hst hls hR hlo hbc hbs) (fun hc => kf (fun z => z ((i32_inj hsa hsb).mp hc)) l G p e R s m args below meth c H locs cells slots lsr C hL hst hls hR hlo hbc hbs)
theorem rr_icmp_lt {d : Nat} {md : AbM} {bc bs pc pc' : Nat} {ls : List (Option AbV)} {st : List AbV} {h : AbH} {K : Option AbV → AbH → Prop} {off : Int} {tgt : Nat} {a b : Int} (hd : decode (mC md) pc = .ok (.if_icmp .lt off, 3)) (hp : pc + 3 = pc') (ht : (pc : Int) + off = (tgt : Int)) (kt : a < b → Vx d md bc bs tgt ls st h K) (kf : ¬ (a < b) → Vx d md bc bs pc' ls st h K) : Vx d md bc bs pc ls (vI b :: vI a :: st) h K := by
  intro l G p e R s m args below meth c H locs cells slots lsr C hL hst hls hR hlo hbc hbs
  have C0 := C
  obtain ⟨hx, hb, hml, hret, hown, hts, hlk, hnm, hKn, hd1, hd2, hRc, hRs⟩ := C0
  subst hp
  obtain ⟨hsb, hsta⟩ := List.forall_mem_cons.mp hst
  obtain ⟨hsa, hst⟩ := List.forall_mem_cons.mp hsta
  have hsa : in32 a := hsa
  have hsb : in32 b := hsb
  exact lv_icmp_lt hx hb hd ht (fun hc => kt ((i32_lt hsa hsb).mp hc) l G p e R s m args below meth c H locs cells slots lsr C hL hst hls hR hlo hbc hbs) (fun hc => kf (fun z => hc ((i32_lt hsa hsb).mpr z)) l G p e R s m args below meth c H locs cells slots lsr C hL hst hls hR hlo hbc hbs)
theorem rr_icmp_ge {d : Nat} {md : AbM} {bc bs pc pc' : Nat} {ls : List (Option AbV)} {st : List AbV} {h : AbH} {K : Option AbV → AbH → Prop} {off : Int} {tgt : Nat} {a b : Int} (hd : decode (mC md) pc = .ok (.if_icmp .ge off, 3)) (hp : pc + 3 = pc') (ht : (pc : Int) + off = (tgt : Int)) (kt : b ≤ a → Vx d md bc bs tgt ls st h K) (kf : ¬ (b ≤ a) → Vx d md bc bs pc' ls st h K) : Vx d md bc bs pc ls (vI b :: vI a :: st) h K := by
  intro l G p e R s m args below meth c H locs cells slots lsr C hL hst hls hR hlo hbc hbs
  have C0 := C
  obtain ⟨hx, hb, hml, hret, hown, hts, hlk, hnm, hKn, hd1, hd2, hRc, hRs⟩ := C0
  subst hp
  obtain ⟨hsb, hsta⟩ := List.forall_mem_cons.mp hst
  obtain ⟨hsa, hst⟩ := List.forall_mem_cons.mp hsta
  have hsa : in32 a := hsa
  have hsb : in32 b := hsb
  exact lv_icmp_ge hx hb hd ht (fun hc => kt ((i32_le hsb hsa).mp hc) l G p e R s m args below meth c H locs cells slots lsr C hL hst hls hR hlo hbc hbs) (fun hc => kf (fun z => hc ((i32_le hsb hsa).mpr z)) l G p e R s m args below meth c H locs cells slots lsr C hL hst hls hR hlo hbc hbs)
theorem rr_icmp_gt {d : Nat} {md : AbM} {bc bs pc pc' : Nat} {ls : List (Option AbV)} {st : List AbV} {h : AbH} {K : Option AbV → AbH → Prop} {off : Int} {tgt : Nat} {a b : Int} (hd : decode (mC md) pc = .ok (.if_icmp .gt off, 3)) (hp : pc + 3 = pc') (ht : (pc : Int) + off = (tgt : Int)) (kt : b < a → Vx d md bc bs tgt ls st h K) (kf : ¬ (b < a) → Vx d md bc bs pc' ls st h K) : Vx d md bc bs pc ls (vI b :: vI a :: st) h K := by
  intro l G p e R s m args below meth c H locs cells slots lsr C hL hst hls hR hlo hbc hbs
  have C0 := C
  obtain ⟨hx, hb, hml, hret, hown, hts, hlk, hnm, hKn, hd1, hd2, hRc, hRs⟩ := C0
  subst hp
  obtain ⟨hsb, hsta⟩ := List.forall_mem_cons.mp hst
  obtain ⟨hsa, hst⟩ := List.forall_mem_cons.mp hsta
  have hsa : in32 a := hsa
  have hsb : in32 b := hsb
  exact lv_icmp_gt hx hb hd ht (fun hc => kt ((i32_lt hsb hsa).mp hc) l G p e R s m args below meth c H locs cells slots lsr C hL hst hls hR hlo hbc hbs) (fun hc => kf (fun z => hc ((i32_lt hsb hsa).mpr z)) l G p e R s m args below meth c H locs cells slots lsr C hL hst hls hR hlo hbc hbs)
theorem rr_icmp_le {d : Nat} {md : AbM} {bc bs pc pc' : Nat} {ls : List (Option AbV)} {st : List AbV} {h : AbH} {K : Option AbV → AbH → Prop} {off : Int} {tgt : Nat} {a b : Int} (hd : decode (mC md) pc = .ok (.if_icmp .le off, 3)) (hp : pc + 3 = pc') (ht : (pc : Int) + off = (tgt : Int)) (kt : a ≤ b → Vx d md bc bs tgt ls st h K) (kf : ¬ (a ≤ b) → Vx d md bc bs pc' ls st h K) : Vx d md bc bs pc ls (vI b :: vI a :: st) h K := by
  intro l G p e R s m args below meth c H locs cells slots lsr C hL hst hls hR hlo hbc hbs
  have C0 := C
  obtain ⟨hx, hb, hml, hret, hown, hts, hlk, hnm, hKn, hd1, hd2, hRc, hRs⟩ := C0
  subst hp
  obtain ⟨hsb, hsta⟩ := List.forall_mem_cons.mp hst
  obtain ⟨hsa, hst⟩ := List.forall_mem_cons.mp hsta
  have hsa : in32 a := hsa
  have hsb : in32 b := hsb
  exact lv_icmp_le hx hb hd ht (fun hc => kt ((i32_le hsa hsb).mp hc) l G p e R s m args below meth c H locs cells slots lsr C hL hst hls hR hlo hbc hbs) (fun hc => kf (fun z => hc ((i32_le hsa hsb).mpr z)) l G p e R s m args below meth c H locs cells slots lsr C hL hst hls hR hlo hbc hbs)
theorem rr_if_eq {d : Nat} {md : AbM} {bc bs pc pc' : Nat} {ls : List (Option AbV)} {st : List AbV} {h : AbH} {K : Option AbV → AbH → Prop} {off : Int} {tgt : Nat} {a : Int} (hd : decode (mC md) pc = .ok (.ifCond .eq off, 3)) (hp : pc + 3 = pc') (ht : (pc : Int) + off = (tgt : Int)) (kt : a = 0 → Vx d md bc bs tgt ls st h K) (kf : ¬ (a = 0) → Vx d md bc bs pc' ls st h K) : Vx d md bc bs pc ls (vI a :: st) h K := by
  intro l G p e R s m args below meth c H locs cells slots lsr C hL hst hls hR hlo hbc hbs
  have C0 := C
  obtain ⟨hx, hb, hml, hret, hown, hts, hlk, hnm, hKn, hd1, hd2, hRc, hRs⟩ := C0
  subst hp
  obtain ⟨hsa, hst⟩ := List.forall_mem_cons.mp hst
  have hsa : in32 a := hsa
  exact lv_if_eq hx hb hd ht (fun hc => kt ((i32_inj hsa i32_0).mp hc) l G p e R s m args below meth c H locs cells slots lsr C hL hst hls hR hlo hbc hbs) (fun hc => kf (fun z => hc ((i32_inj hsa i32_0).mpr z)) l G p e R s m args below meth c H locs cells slots lsr C hL hst hls hR hlo hbc hbs)
theorem rr_if_ne {d : Nat} {md : AbM} {bc bs pc pc' : Nat} {ls : List (Option AbV)} {st : List AbV} {h : AbH} {K : Option AbV → AbH → Prop} {off : Int} {tgt : Nat} {a : Int} (hd : decode (mC md) pc = .ok (.ifCond .ne off, 3)) (hp : pc + 3 = pc') (ht : (pc : Int) + off = (tgt : Int)) (kt : a ≠ 0 → Vx d md bc bs tgt ls st h K) (kf : ¬ (a ≠ 0) → Vx d md bc bs pc' ls st h K) : Vx d md bc bs pc ls (vI a :: st) h K := by
  intro l G p e R s m args below meth c H locs cells slots lsr C hL hst hls hR hlo hbc hbs
  have C0 := C
  obtain ⟨hx, hb, hml, hret, hown, hts, hlk, hnm, hKn, hd1, hd2, hRc, hRs⟩ := C0
  subst hp
  obtain ⟨hsa, hst⟩ := List.forall_mem_cons.mp hst
  have hsa : in32 a := hsa
  exact lv_if_ne hx hb hd ht (fun hc => kt ((not_congr (i32_inj hsa i32_0)).mp hc) l G p e R s m args below meth c H locs cells slots lsr C hL hst hls hR hlo hbc hbs) (fun hc => kf (fun z => z ((i32_inj hsa i32_0).mp hc)) l G p e R s m args below meth c H locs cells slots lsr C hL hst hls hR hlo hbc hbs)
theorem rr_if_lt {d : Nat} {md : AbM} {bc bs pc pc' : Nat} {ls : List (Option AbV)} {st : List AbV} {h : AbH} {K : Option AbV → AbH → Prop} {off : Int} {tgt : Nat} {a : Int} (hd : decode (mC md) pc = .ok (.ifCond .lt off, 3)) (hp : pc + 3 = pc') (ht : (pc : Int) + off = (tgt : Int)) (kt : a < 0 → Vx d md bc bs tgt ls st h K) (kf : ¬ (a < 0) → Vx d md bc bs pc' ls st h K) : Vx d md bc bs pc ls (vI a :: st) h K := by
  intro l G p e R s m args below meth c H locs cells slots lsr C hL hst hls hR hlo hbc hbs
  have C0 := C
  obtain ⟨hx, hb, hml, hret, hown, hts, hlk, hnm, hKn, hd1, hd2, hRc, hRs⟩ := C0
  subst hp
  obtain ⟨hsa, hst⟩ := List.forall_mem_cons.mp hst
  have hsa : in32 a := hsa
  exact lv_if_lt hx hb hd ht (fun hc => kt ((i32_lt hsa i32_0).mp hc) l G p e R s m args below meth c H locs cells slots lsr C hL hst hls hR hlo hbc hbs) (fun hc => kf (fun z => hc ((i32_lt hsa i32_0).mpr z)) l G p e R s m args below meth c H locs cells slots lsr C hL hst hls hR hlo hbc hbs)
theorem rr_if_ge {d : Nat} {md : AbM} {bc bs pc pc' : Nat} {ls : List (Option AbV)} {st : List AbV} {h : AbH} {K : Option AbV → AbH → Prop} {off : Int} {tgt : Nat} {a : Int} (hd : decode (mC md) pc = .ok (.ifCond .ge off, 3)) (hp : pc + 3 = pc') (ht : (pc : Int) + off = (tgt : Int)) (kt : 0 ≤ a → Vx d md bc bs tgt ls st h K) (kf : ¬ (0 ≤ a) → Vx d md bc bs pc' ls st h K) : Vx d md bc bs pc ls (vI a :: st) h K := by
  intro l G p e R s m args below meth c H locs cells slots lsr C hL hst hls hR hlo hbc hbs
  have C0 := C
  obtain ⟨hx, hb, hml, hret, hown, hts, hlk, hnm, hKn, hd1, hd2, hRc, hRs⟩ := C0
  subst hp
  obtain ⟨hsa, hst⟩ := List.forall_mem_cons.mp hst
  have hsa : in32 a := hsa
  exact lv_if_ge hx hb hd ht (fun hc => kt ((i32_le i32_0 hsa).mp hc) l G p e R s m args below meth c H locs cells slots lsr C hL hst hls hR hlo hbc hbs) (fun hc => kf (fun z => hc ((i32_le i32_0 hsa).mpr z)) l G p e R s m args below meth c H locs cells slots lsr C hL hst hls hR hlo hbc hbs)
theorem rr_if_gt {d : Nat} {md : AbM} {bc bs pc pc' : Nat} {ls : List (Option AbV)} {st : List AbV} {h : AbH} {K : Option AbV → AbH → Prop} {off : Int} {tgt : Nat} {a : Int} (hd : decode (mC md) pc = .ok (.ifCond .gt off, 3)) (hp : pc + 3 = pc') (ht : (pc : Int) + off = (tgt : Int)) (kt : 0 < a → Vx d md bc bs tgt ls st h K) (kf : ¬ (0 < a) → Vx d md bc bs pc' ls st h K) : Vx d md bc bs pc ls (vI a :: st) h K := by
  intro l G p e R s m args below meth c H locs cells slots lsr C hL hst hls hR hlo hbc hbs
  have C0 := C
  obtain ⟨hx, hb, hml, hret, hown, hts, hlk, hnm, hKn, hd1, hd2, hRc, hRs⟩ := C0
  subst hp
  obtain ⟨hsa, hst⟩ := List.forall_mem_cons.mp hst
  have hsa : in32 a := hsa
  exact lv_if_gt hx hb hd ht (fun hc => kt ((i32_lt i32_0 hsa).mp hc) l G p e R s m args below meth c H locs cells slots lsr C hL hst hls hR hlo hbc hbs) (fun hc => kf (fun z => hc ((i32_lt i32_0 hsa).mpr z)) l G p e R s m args below meth c H locs cells slots lsr C hL hst hls hR hlo hbc hbs)
theorem rr_if_le {d : Nat} {md : AbM} {bc bs pc pc' : Nat} {ls : List (Option AbV)} {st : List AbV} {h : AbH} {K : Option AbV → AbH → Prop} {off : Int} {tgt : Nat} {a : Int} (hd : decode (mC md) pc = .ok (.ifCond .le off, 3)) (hp : pc + 3 = pc') (ht : (pc : Int) + off = (tgt : Int)) (kt : a ≤ 0 → Vx d md bc bs tgt ls st h K) (kf : ¬ (a ≤ 0) → Vx d md bc bs pc' ls st h K) : Vx d md bc bs pc ls (vI a :: st) h K := by
  intro l G p e R s m args below meth c H locs cells slots lsr C hL hst hls hR hlo hbc hbs
  have C0 := C
  obtain ⟨hx, hb, hml, hret, hown, hts, hlk, hnm, hKn, hd1, hd2, hRc, hRs⟩ := C0
  subst hp
  obtain ⟨hsa, hst⟩ := List.forall_mem_cons.mp hst
  have hsa : in32 a := hsa
  exact lv_if_le hx hb hd ht (fun hc => kt ((i32_le hsa i32_0).mp hc) l G p e R s m args below meth c H locs cells slots lsr C hL hst hls hR hlo hbc hbs) (fun hc => kf (fun z => hc ((i32_le hsa i32_0).mpr z)) l G p e R s m args below meth c H locs cells slots lsr C hL hst hls hR hlo hbc hbs)
theorem rr_ifnull {d : Nat} {md : AbM} {bc bs pc pc' : Nat} {ls : List (Option AbV)} {st : List AbV} {h : AbH} {K : Option AbV → AbH → Prop} {off : Int} {tgt : Nat} {r : Option Nat} (hd : decode (mC md) pc = .ok (.ifnull off, 3)) (hp : pc + 3 = pc') (ht : (pc : Int) + off = (tgt : Int)) (kt : r = none → Vx d md bc bs tgt ls st h K) (kf : ¬ (r = none) → Vx d md bc bs pc' ls st h K) : Vx d md bc bs pc ls (vR r :: st) h K := by
  intro l G p e R s m args below meth c H locs cells slots lsr C hL hst hls hR hlo hbc hbs
  have C0 := C
  obtain ⟨hx, hb, hml, hret, hown, hts, hlk, hnm, hKn, hd1, hd2, hRc, hRs⟩ := C0
  subst hp
  obtain ⟨hsa, hs2⟩ := List.forall_mem_cons.mp hst
  cases r with
  | none => exact lv_ifnullN hx hb hd ht (kt rfl l G p e R s m args below meth c H locs cells slots lsr C hL hs2 hls hR hlo hbc hbs)
  | some a => exact lv_ifnull hx hb hd (kf (fun z => by cases z) l G p e R s m args below meth c H locs cells slots lsr C hL hs2 hls hR hlo hbc hbs)
theorem rr_ifnonnull {d : Nat} {md : AbM} {bc bs pc pc' : Nat} {ls : List (Option AbV)} {st : List AbV} {h : AbH} {K : Option AbV → AbH → Prop} {off : Int} {tgt : Nat} {r : Option Nat} (hd : decode (mC md) pc = .ok (.ifnonnull off, 3)) (hp : pc + 3 = pc') (ht : (pc : Int) + off = (tgt : Int)) (kt : r ≠ none → Vx d md bc bs tgt ls st h K) (kf : ¬ (r ≠ none) → Vx d md bc bs pc' ls st h K) : Vx d md bc bs pc ls (vR r :: st) h K := by
  intro l G p e R s m args below meth c H locs cells slots lsr C hL hst hls hR hlo hbc hbs
  have C0 := C
  obtain ⟨hx, hb, hml, hret, hown, hts, hlk, hnm, hKn, hd1, hd2, hRc, hRs⟩ := C0
  subst hp
  obtain ⟨hsa, hs2⟩ := List.forall_mem_cons.mp hst
  cases r with
  | none => exact lv_ifnonnullN hx hb hd (kf (fun z => z rfl) l G p e R s m args below meth c H locs cells slots lsr C hL hs2 hls hR hlo hbc hbs)
  | some a => exact lv_ifnonnull hx hb hd ht (kt (fun z => by cases z) l G p e R s m args below meth c H locs cells slots lsr C hL hs2 hls hR hlo hbc hbs)
theorem rr_goto {d : Nat} {md : AbM} {bc bs pc pc' : Nat} {ls : List (Option AbV)} {st : List AbV} {h : AbH} {K : Option AbV → AbH → Prop} {off : Int} (hd : decode (mC md) pc = .ok (.goto off, 3)) (ht : (pc : Int) + off = (pc' : Int)) (k : Vx d md bc bs pc' ls st h K) : Vx d md bc bs pc ls st h K := by
  intro l G p e R s m args below meth c H locs cells slots lsr C hL hst hls hR hlo hbc hbs
  have C0 := C
  obtain ⟨hx, hb, hml, hret, hown, hts, hlk, hnm, hKn, hd1, hd2, hRc, hRs⟩ := C0
  exact lv_goto hx hb hd ht (k l G p e R s m args below meth c H locs cells slots lsr C hL hst hls hR hlo hbc hbs)
def lcm (a b : Int) : Int := if a < b then -1 else if a = b then 0 else 1
theorem lcm_lt {a b : Int} : lcm a b < 0 ↔ a < b := by unfold lcm; split <;> (try split) <;> omega
theorem lcm_ge {a b : Int} : 0 ≤ lcm a b ↔ b ≤ a := by unfold lcm; split <;> (try split) <;> omega
theorem lcm_gt {a b : Int} : 0 < lcm a b ↔ b < a := by unfold lcm; split <;> (try split) <;> omega
theorem lcm_le {a b : Int} : lcm a b ≤ 0 ↔ a ≤ b := by unfold lcm; split <;> (try split) <;> omega
theorem lcm_eq {a b : Int} : lcm a b = 0 ↔ a = b := by unfold lcm; split <;> (try split) <;> omega
theorem lcm_ne {a b : Int} : lcm a b ≠ 0 ↔ a ≠ b := by unfold lcm; split <;> (try split) <;> omega
theorem lcm_ok (a b : Int) : in32 (lcm a b) := by unfold lcm in32; split <;> (try split) <;> omega
theorem lcm_cv {a b : Int} (ha : in64 a) (hb : in64 b) : lg_cmp (Int64.ofInt a) (Int64.ofInt b) = Int32.ofInt (lcm a b) := by
  unfold lg_cmp lcm
  have e1 : (Int64.ofInt a > Int64.ofInt b) ↔ b < a := by
    show Int64.ofInt b < Int64.ofInt a ↔ _
    rw [Int64.lt_iff_toInt_lt, i64_eq ha, i64_eq hb]
  have e2 : (Int64.ofInt a = Int64.ofInt b) ↔ a = b := by
    rw [← Int64.toInt_inj, i64_eq ha, i64_eq hb]
  by_cases h1 : a < b
  · rw [if_neg (fun z => by have := e1.mp z; omega), if_neg (fun z => by have := e2.mp z; omega), if_pos h1]
    rfl
  · by_cases h2 : a = b
    · rw [if_neg (fun z => by have := e1.mp z; omega), if_pos (e2.mpr h2), if_neg h1, if_pos h2]
      rfl
    · rw [if_pos (e1.mpr (by omega)), if_neg h1, if_neg h2]
      rfl
theorem rr_lcmp {d : Nat} {md : AbM} {bc bs pc pc' : Nat} {ls : List (Option AbV)} {st : List AbV} {h : AbH} {K : Option AbV → AbH → Prop} {a b : Int} (hd : decode (mC md) pc = .ok (.lcmp, 1)) (hp : pc + 1 = pc')  (k : Vx d md bc bs pc' ls (vI (lcm a b) :: st) h K) : Vx d md bc bs pc ls (vL b :: vL a :: st) h K := by
  intro l G p e R s m args below meth c H locs cells slots lsr C hL hst hls hR hlo hbc hbs
  have C0 := C
  obtain ⟨hx, hb, hml, hret, hown, hts, hlk, hnm, hKn, hd1, hd2, hRc, hRs⟩ := C0
  subst hp
  obtain ⟨hsb, hsta⟩ := List.forall_mem_cons.mp hst
  obtain ⟨hsa, hst⟩ := List.forall_mem_cons.mp hsta
  refine W.lcmp hx hb hd ?_
  rw [lcm_cv hsa hsb]
  exact k l G p e R s m args below meth c H locs cells slots lsr C hL (List.forall_mem_cons.mpr ⟨lcm_ok a b, hst⟩) hls hR hlo hbc hbs
theorem rr_tableIn {d : Nat} {md : AbM} {bc bs pc pc' : Nat} {ls : List (Option AbV)} {st : List AbV} {h : AbH} {K : Option AbV → AbH → Prop} {dflt lo hi off : Int} {offs : Array Int} {len : Nat} {a : Int} (i : Nat) (hd : decode (mC md) pc = .ok (.tableswitch dflt lo hi offs, len)) (ha : a = lo + i) (hh : lo + i ≤ hi) (ho : offs[i]? = some off) (ht : (pc : Int) + off = (pc' : Int)) (k : Vx d md bc bs pc' ls st h K) : Vx d md bc bs pc ls (vI a :: st) h K := by
  intro l G p e R s m args below meth c H locs cells slots lsr C hL hst hls hR hlo hbc hbs
  have C0 := C
  obtain ⟨hx, hb, hml, hret, hown, hts, hlk, hnm, hKn, hd1, hd2, hRc, hRs⟩ := C0
  obtain ⟨hsa, hst⟩ := List.forall_mem_cons.mp hst
  have hsa : in32 a := hsa
  have ea := i32_eq hsa
  exact lv_tableIn hx hb hd (by rw [ea]; omega) (by rw [ea]; omega) (by rw [ea, show (a - lo).toNat = i by omega]; exact ho) ht (k l G p e R s m args below meth c H locs cells slots lsr C hL hst hls hR hlo hbc hbs)
theorem rr_tableOut {d : Nat} {md : AbM} {bc bs pc pc' : Nat} {ls : List (Option AbV)} {st : List AbV} {h : AbH} {K : Option AbV → AbH → Prop} {dflt lo hi : Int} {offs : Array Int} {len : Nat} {a : Int} (hd : decode (mC md) pc = .ok (.tableswitch dflt lo hi offs, len)) (ha : a < lo ∨ hi < a) (ht : (pc : Int) + dflt = (pc' : Int)) (k : Vx d md bc bs pc' ls st h K) : Vx d md bc bs pc ls (vI a :: st) h K := by
  intro l G p e R s m args below meth c H locs cells slots lsr C hL hst hls hR hlo hbc hbs
  have C0 := C
  obtain ⟨hx, hb, hml, hret, hown, hts, hlk, hnm, hKn, hd1, hd2, hRc, hRs⟩ := C0
  obtain ⟨hsa, hst⟩ := List.forall_mem_cons.mp hst
  have hsa : in32 a := hsa
  have ea := i32_eq hsa
  exact lv_tableOut hx hb hd (by rw [ea]; exact ha) ht (k l G p e R s m args below meth c H locs cells slots lsr C hL hst hls hR hlo hbc hbs)
theorem rr_iret {d : Nat} {md : AbM} {bc bs pc pc' : Nat} {ls : List (Option AbV)} {st : List AbV} {h : AbH} {K : Option AbV → AbH → Prop} {a : Int} (hd : decode (mC md) pc = .ok (.ireturn, 1)) (hrt : mR md = some .int) (k : K (some (vI a)) h) : Vx d md bc bs pc ls ([vI a]) h K := by
  intro l G p e R s m args below meth c H locs cells slots lsr C hL hst hls hR hlo hbc hbs
  have C0 := C
  obtain ⟨hx, hb, hml, hret, hown, hts, hlk, hnm, hKn, hd1, hd2, hRc, hRs⟩ := C0
  refine W.widen (k := mN md) (n := mS md) (by omega) (by omega) ?_
  exact W.iret hx hb (hret.trans hrt) (fun t ht hW => ⟨some (vI a), h, rfl, (fun b e => by cases e; exact hst _ List.mem_cons_self), by rw [ht]; exact hR, k⟩) hlo hd hlk
theorem rr_zret {d : Nat} {md : AbM} {bc bs pc pc' : Nat} {ls : List (Option AbV)} {st : List AbV} {h : AbH} {K : Option AbV → AbH → Prop} {a : Int} {ty : FieldType} (hd : decode (mC md) pc = .ok (.ireturn, 1)) (hrt : mR md = some ty) (hnr : narrow ty (.int (Int32.ofInt a)) = .int (Int32.ofInt a)) (k : K (some (vI a)) h) : Vx d md bc bs pc ls ([vI a]) h K := by
  intro l G p e R s m args below meth c H locs cells slots lsr C hL hst hls hR hlo hbc hbs
  have C0 := C
  obtain ⟨hx, hb, hml, hret, hown, hts, hlk, hnm, hKn, hd1, hd2, hRc, hRs⟩ := C0
  refine W.widen (k := mN md) (n := mS md) (by omega) (by omega) ?_
  exact W.zret hx hb (hret.trans hrt) hnr (fun t ht hW => ⟨some (vI a), h, rfl, (fun b e => by cases e; exact hst _ List.mem_cons_self), by rw [ht]; exact hR, k⟩) hlo hd hlk
theorem rr_lret {d : Nat} {md : AbM} {bc bs pc pc' : Nat} {ls : List (Option AbV)} {st : List AbV} {h : AbH} {K : Option AbV → AbH → Prop} {a : Int} (hd : decode (mC md) pc = .ok (.lreturn, 1)) (hrt : mR md = some .long) (k : K (some (vL a)) h) : Vx d md bc bs pc ls ([vL a]) h K := by
  intro l G p e R s m args below meth c H locs cells slots lsr C hL hst hls hR hlo hbc hbs
  have C0 := C
  obtain ⟨hx, hb, hml, hret, hown, hts, hlk, hnm, hKn, hd1, hd2, hRc, hRs⟩ := C0
  refine W.widen (k := mN md) (n := mS md) (by omega) (by omega) ?_
  exact W.lret hx hb (hret.trans hrt) (fun t ht hW => ⟨some (vL a), h, rfl, (fun b e => by cases e; exact hst _ List.mem_cons_self), by rw [ht]; exact hR, k⟩) hlo hd hlk
theorem rr_vret {d : Nat} {md : AbM} {bc bs pc pc' : Nat} {ls : List (Option AbV)} {st : List AbV} {h : AbH} {K : Option AbV → AbH → Prop}  (hd : decode (mC md) pc = .ok (.return_, 1)) (hrt : mR md = none) (k : K (none) h) : Vx d md bc bs pc ls ([]) h K := by
  intro l G p e R s m args below meth c H locs cells slots lsr C hL hst hls hR hlo hbc hbs
  have C0 := C
  obtain ⟨hx, hb, hml, hret, hown, hts, hlk, hnm, hKn, hd1, hd2, hRc, hRs⟩ := C0
  refine W.widen (k := mN md) (n := mS md) (by omega) (by omega) ?_
  exact W.vret hx hb (hret.trans hrt) (fun t ht hW => ⟨none, h, rfl, (fun b e => by cases e), by rw [ht]; exact hR, k⟩) hlo hd hlk
theorem rr_aret {d : Nat} {md : AbM} {bc bs pc pc' : Nat} {ls : List (Option AbV)} {st : List AbV} {h : AbH} {K : Option AbV → AbH → Prop} {r : Option Nat} {rt : FieldType} (hd : decode (mC md) pc = .ok (.areturn, 1)) (hrt : mR md = some rt) (hty : (∃ n, rt = .object n) ∨ ∃ t, rt = .array t) (k : K (some (vR r)) h) : Vx d md bc bs pc ls ([vR r]) h K := by
  intro l G p e R s m args below meth c H locs cells slots lsr C hL hst hls hR hlo hbc hbs
  have C0 := C
  obtain ⟨hx, hb, hml, hret, hown, hts, hlk, hnm, hKn, hd1, hd2, hRc, hRs⟩ := C0
  refine W.widen (k := mN md) (n := mS md) (by omega) (by omega) ?_
  exact W.aret hx hb (hret.trans hrt) hty (by cases r with
    | none => exact Or.inl rfl
    | some a => exact Or.inr ⟨a, rfl⟩) (fun t ht hW => ⟨some (vR r), h, rfl, (fun b e => by cases e; trivial), by rw [ht]; exact hR, k⟩) hlo hd hlk
theorem zn_b {a : Int} (h : a = 0 ∨ a = 1) : narrow .boolean (.int (Int32.ofInt a)) = .int (Int32.ofInt a) := by
  rcases h with rfl | rfl <;> rfl
end
section
def ClF (ci : Nat) (C : String) (T : u_T) (N : Nat) (ty : Nat → FieldType) : Prop := vwCl[ci]? = some (C, T, N) ∧ (∀ w ∈ u_ws C T N, w ∈ lwW) ∧ (∀ k, k < N → parseFieldDescriptor (T k).2.2.1 = some (ty k)) ∧ ∀ a, a < N → ∀ b, b < N → a ≠ b → (T a).2.1 ≠ (T b).2.1
theorem Rl.PO {G : AbG} {h : AbH} {H : Heap} (R : Rl G h H) {a ci : Nat} {fs : List AbV} (ho : hpO h a = some (ci, fs)) : va_P (gD G) vwCl [(a, .inr (ci, fs.map ab_cv))] H := by
  intro k q hk
  have hz : k < 1 := (List.getElem?_eq_some_iff.mp hk).1
  rw [show k = 0 by omega] at hk
  cases hk
  exact (R.1 a (0, ab_eO (ci, fs)) (Or.inl ⟨_, ho, rfl⟩)).2
theorem Rl.atI {G : AbG} {h : AbH} {H : Heap} (R : Rl G h H) {a : Nat} {c : Nat × (Nat → Int)} (ho : hpI h a = some c) : (gH G).size ≤ a ∧ H[a]? = some (vp_cell (gC G 0) (c.1, .inl (fun j => Int32.ofInt (c.2 j)))) := R.1 a (1, ab_eI G c) (Or.inr (Or.inl ⟨_, ho, rfl⟩))
theorem Rl.atJ {G : AbG} {h : AbH} {H : Heap} (R : Rl G h H) {a : Nat} {c : Nat × (Nat → Int)} (ho : hpJ h a = some c) : (gH G).size ≤ a ∧ H[a]? = some (vp_cell (gC G 1) (c.1, .inr (.inl (fun j => Int64.ofInt (c.2 j))))) := R.1 a (2, ab_eJ G c) (Or.inr (Or.inr (Or.inl ⟨_, ho, rfl⟩)))
theorem Rl.atZ {G : AbG} {h : AbH} {H : Heap} (R : Rl G h H) {a : Nat} {c : Nat × (Nat → Int)} (ho : hpZ h a = some c) : (gH G).size ≤ a ∧ H[a]? = some (vp_cell (gC G 2) (c.1, .inl (fun j => Int32.ofInt (c.2 j)))) := R.1 a (3, ab_eZ G c) (Or.inr (Or.inr (Or.inr (Or.inl ⟨_, ho, rfl⟩))))
theorem Rl.atR {G : AbG} {h : AbH} {H : Heap} (R : Rl G h H) {a : Nat} {c : Nat × Nat × (Nat → Option Nat)} (ho : hpR h a = some c) : (gH G).size ≤ a ∧ H[a]? = some (vp_cell (gC G (3 + c.1)) (c.2.1, .inr (.inr (.inr (.inr c.2.2))))) := R.1 a (4, ab_eR G c) (Or.inr (Or.inr (Or.inr (Or.inr ⟨_, ho, rfl⟩))))
def wpGI (h : AbH) (q : Option Nat) (ci j : Nat) (f : Int → Prop) : Prop := ∃ (a : Nat) (fs : List AbV) (n : Int), q = some a ∧ hpO h a = some (ci, fs) ∧ fs[j]? = some (vI n) ∧ f n
def wpGL (h : AbH) (q : Option Nat) (ci j : Nat) (f : Int → Prop) : Prop := ∃ (a : Nat) (fs : List AbV) (n : Int), q = some a ∧ hpO h a = some (ci, fs) ∧ fs[j]? = some (vL n) ∧ f n
def wpGR (h : AbH) (q : Option Nat) (ci j : Nat) (f : Option Nat → Prop) : Prop := ∃ (a : Nat) (fs : List AbV) (n : Option Nat), q = some a ∧ hpO h a = some (ci, fs) ∧ fs[j]? = some (vR n) ∧ f n
def wpP (h : AbH) (q : Option Nat) (ci j : Nat) (v : AbV) (f : AbH → Prop) : Prop := ∃ (a : Nat) (fs : List AbV), q = some a ∧ hpO h a = some (ci, fs) ∧ j < fs.length ∧ f (hsO h a (ci, fs.set j v))
def wpLI (h : AbH) (q : Option Nat) (i : Int) (f : Int → Prop) : Prop := ∃ (a n : Nat) (g : Nat → Int), q = some a ∧ hpI h a = some (n, g) ∧ 0 ≤ i ∧ i < (n : Int) ∧ f (g i.toNat)
def wpLJ (h : AbH) (q : Option Nat) (i : Int) (f : Int → Prop) : Prop := ∃ (a n : Nat) (g : Nat → Int), q = some a ∧ hpJ h a = some (n, g) ∧ 0 ≤ i ∧ i < (n : Int) ∧ f (g i.toNat)
def wpLZ (h : AbH) (q : Option Nat) (i : Int) (f : Int → Prop) : Prop := ∃ (a n : Nat) (g : Nat → Int), q = some a ∧ hpZ h a = some (n, g) ∧ 0 ≤ i ∧ i < (n : Int) ∧ f (g i.toNat)
def wpLR (h : AbH) (q : Option Nat) (i : Int) (f : Option Nat → Prop) : Prop := ∃ (a k n : Nat) (g : Nat → Option Nat), q = some a ∧ hpR h a = some (k, n, g) ∧ 0 ≤ i ∧ i < (n : Int) ∧ f (g i.toNat)
def wpSI (h : AbH) (q : Option Nat) (i x : Int) (f : AbH → Prop) : Prop := ∃ (a n : Nat) (g : Nat → Int), q = some a ∧ hpI h a = some (n, g) ∧ 0 ≤ i ∧ i < (n : Int) ∧ f (hsI h a (n, va_up g i.toNat x))
def wpSJ (h : AbH) (q : Option Nat) (i x : Int) (f : AbH → Prop) : Prop := ∃ (a n : Nat) (g : Nat → Int), q = some a ∧ hpJ h a = some (n, g) ∧ 0 ≤ i ∧ i < (n : Int) ∧ f (hsJ h a (n, va_up g i.toNat x))
def wpSZ (h : AbH) (q : Option Nat) (i x : Int) (f : AbH → Prop) : Prop := ∃ (a n : Nat) (g : Nat → Int), q = some a ∧ hpZ h a = some (n, g) ∧ 0 ≤ i ∧ i < (n : Int) ∧ (x = 0 ∨ x = 1) ∧ f (hsZ h a (n, va_up g i.toNat x))
def wpSR (h : AbH) (q : Option Nat) (i : Int) (r : Option Nat) (f : AbH → Prop) : Prop := ∃ (a k n : Nat) (g : Nat → Option Nat), q = some a ∧ hpR h a = some (k, n, g) ∧ 0 ≤ i ∧ i < (n : Int) ∧ (∀ b, r = some b → ∃ fs, hpO h b = some (k, fs)) ∧ f (hsR h a (k, n, va_up g i.toNat r))
def wpNI (h : AbH) (q : Option Nat) (f : Int → Prop) : Prop := ∃ (a n : Nat) (g : Nat → Int), q = some a ∧ hpI h a = some (n, g) ∧ f (n : Int)
def wpNJ (h : AbH) (q : Option Nat) (f : Int → Prop) : Prop := ∃ (a n : Nat) (g : Nat → Int), q = some a ∧ hpJ h a = some (n, g) ∧ f (n : Int)
def wpNZ (h : AbH) (q : Option Nat) (f : Int → Prop) : Prop := ∃ (a n : Nat) (g : Nat → Int), q = some a ∧ hpZ h a = some (n, g) ∧ f (n : Int)
def wpNR (h : AbH) (q : Option Nat) (f : Int → Prop) : Prop := ∃ (a k n : Nat) (g : Nat → Option Nat), q = some a ∧ hpR h a = some (k, n, g) ∧ f (n : Int)
def wpLX (h : AbH) (q : Option Nat) (i : Int) (f : Int → Prop) : Prop := ∃ (a n : Nat) (g : Nat → Int), q = some a ∧ hpX h a = some (n, g) ∧ 0 ≤ i ∧ i < (n : Int) ∧ f (g i.toNat)
def wpNX (h : AbH) (q : Option Nat) (f : Int → Prop) : Prop := ∃ (a n : Nat) (g : Nat → Int), q = some a ∧ hpX h a = some (n, g) ∧ f (n : Int)
def kI (f : Int → AbH → Prop) : Option AbV → AbH → Prop := fun r h => ∃ n, r = some (vI n) ∧ f n h
def kL (f : Int → AbH → Prop) : Option AbV → AbH → Prop := fun r h => ∃ n, r = some (vL n) ∧ f n h
def kR (f : Option Nat → AbH → Prop) : Option AbV → AbH → Prop := fun r h => ∃ n, r = some (vR n) ∧ f n h
def kV (f : AbH → Prop) : Option AbV → AbH → Prop := fun r h => r = none ∧ f h
theorem i64_of {n : Int} (h : in32 n) : in64 n := ⟨by have := h.1; omega, by have := h.2; omega⟩
theorem i32_ofNat {n : Nat} (h : n < 2147483648) : in32 (n : Int) := ⟨by omega, by omega⟩
theorem rr_getI {d : Nat} {md : AbM} {bc bs pc pc' : Nat} {ls : List (Option AbV)} {st : List AbV} {h : AbH} {K : Option AbV → AbH → Prop} {q : Option Nat} {ci j N i : Nat} {C : String} {T : u_T} {ty : Nat → FieldType} {f : Int → Prop} (cf : ClF ci C T N ty) (hj : j < N) (hd : decode (mC md) pc = .ok (.getfield i, 3)) (hp : pc + 3 = pc') (hw : Cond.fieldLink (mY md).cls i (T j).1 (T j).2.1 (T j).2.2.1 ∈ lwW) (hh : wpGI h q ci j f) (k : ∀ n, f n → Vx d md bc bs pc' ls (vI n :: st) h K) : Vx d md bc bs pc ls (vR q :: st) h K := by
  intro l G p e R s m args below meth c H locs cells slots lsr C9 hL hst hls hR hlo hbc hbs
  have C0 := C9
  obtain ⟨hx, hb, hml, hret, hown, hts, hlk, hnm, hKn, hd1, hd2, hRc, hRs⟩ := C0
  subst hp
  obtain ⟨a, fs, n, rfl, ho, hn, hf⟩ := hh
  refine va_get (D := gD G) (ci := ci) (v := ab_cv (vI n)) (C := C) (T := T) (N := N) hx hb hts cf.2.1 hown hKn.1 (hR.PO ho) 0 rfl cf.1 j hj (hts _ hw) (fun _ z => z) (by rw [List.getElem?_map, hn]; rfl) hd ?_
  exact k n hf l G p e R s m args below meth c H locs cells slots lsr C9 hL (List.forall_mem_cons.mpr ⟨hR.2.2.1.1 a _ ho _ (List.mem_of_getElem? hn), fun w hw => hst w (List.mem_cons_of_mem _ hw)⟩) hls hR hlo hbc hbs
theorem rr_getL {d : Nat} {md : AbM} {bc bs pc pc' : Nat} {ls : List (Option AbV)} {st : List AbV} {h : AbH} {K : Option AbV → AbH → Prop} {q : Option Nat} {ci j N i : Nat} {C : String} {T : u_T} {ty : Nat → FieldType} {f : Int → Prop} (cf : ClF ci C T N ty) (hj : j < N) (hd : decode (mC md) pc = .ok (.getfield i, 3)) (hp : pc + 3 = pc') (hw : Cond.fieldLink (mY md).cls i (T j).1 (T j).2.1 (T j).2.2.1 ∈ lwW) (hh : wpGL h q ci j f) (k : ∀ n, f n → Vx d md bc bs pc' ls (vL n :: st) h K) : Vx d md bc bs pc ls (vR q :: st) h K := by
  intro l G p e R s m args below meth c H locs cells slots lsr C9 hL hst hls hR hlo hbc hbs
  have C0 := C9
  obtain ⟨hx, hb, hml, hret, hown, hts, hlk, hnm, hKn, hd1, hd2, hRc, hRs⟩ := C0
  subst hp
  obtain ⟨a, fs, n, rfl, ho, hn, hf⟩ := hh
  refine va_get (D := gD G) (ci := ci) (v := ab_cv (vL n)) (C := C) (T := T) (N := N) hx hb hts cf.2.1 hown hKn.1 (hR.PO ho) 0 rfl cf.1 j hj (hts _ hw) (fun _ z => z) (by rw [List.getElem?_map, hn]; rfl) hd ?_
  exact k n hf l G p e R s m args below meth c H locs cells slots lsr C9 hL (List.forall_mem_cons.mpr ⟨hR.2.2.1.1 a _ ho _ (List.mem_of_getElem? hn), fun w hw => hst w (List.mem_cons_of_mem _ hw)⟩) hls hR hlo hbc hbs
theorem rr_getR {d : Nat} {md : AbM} {bc bs pc pc' : Nat} {ls : List (Option AbV)} {st : List AbV} {h : AbH} {K : Option AbV → AbH → Prop} {q : Option Nat} {ci j N i : Nat} {C : String} {T : u_T} {ty : Nat → FieldType} {f : Option Nat → Prop} (cf : ClF ci C T N ty) (hj : j < N) (hd : decode (mC md) pc = .ok (.getfield i, 3)) (hp : pc + 3 = pc') (hw : Cond.fieldLink (mY md).cls i (T j).1 (T j).2.1 (T j).2.2.1 ∈ lwW) (hh : wpGR h q ci j f) (k : ∀ n, f n → Vx d md bc bs pc' ls (vR n :: st) h K) : Vx d md bc bs pc ls (vR q :: st) h K := by
  intro l G p e R s m args below meth c H locs cells slots lsr C9 hL hst hls hR hlo hbc hbs
  have C0 := C9
  obtain ⟨hx, hb, hml, hret, hown, hts, hlk, hnm, hKn, hd1, hd2, hRc, hRs⟩ := C0
  subst hp
  obtain ⟨a, fs, n, rfl, ho, hn, hf⟩ := hh
  refine va_get (D := gD G) (ci := ci) (v := ab_cv (vR n)) (C := C) (T := T) (N := N) hx hb hts cf.2.1 hown hKn.1 (hR.PO ho) 0 rfl cf.1 j hj (hts _ hw) (fun _ z => z) (by rw [List.getElem?_map, hn]; rfl) hd ?_
  exact k n hf l G p e R s m args below meth c H locs cells slots lsr C9 hL (List.forall_mem_cons.mpr ⟨hR.2.2.1.1 a _ ho _ (List.mem_of_getElem? hn), fun w hw => hst w (List.mem_cons_of_mem _ hw)⟩) hls hR hlo hbc hbs
theorem rr_put {d : Nat} {md : AbM} {bc bs pc pc' : Nat} {ls : List (Option AbV)} {st : List AbV} {h : AbH} {K : Option AbV → AbH → Prop} {q : Option Nat} {v : AbV} {ci j N i : Nat} {C : String} {T : u_T} {ty : Nat → FieldType} {fty : FieldType} {f : AbH → Prop} (cf : ClF ci C T N ty) (hj : j < N) (hd : decode (mC md) pc = .ok (.putfield i, 3)) (hp : pc + 3 = pc') (hw : Cond.fieldLink (mY md).cls i (T j).1 (T j).2.1 (T j).2.2.1 ∈ lwW) (hfin : (T j).2.2.2 = false) (hdt : parseFieldDescriptor (T j).2.2.1 = some fty) (hn : narrow fty (ab_cv v) = ab_cv v) (hfit : fits fty (ab_cv v) = true) (hh : wpP h q ci j v f) (k : ∀ h', f h' → Vx d md bc bs pc' ls st h' K) : Vx d md bc bs pc ls (v :: vR q :: st) h K := by
  intro l G p e R s m args below meth c H locs cells slots lsr C9 hL hst hls hR hlo hbc hbs
  have C0 := C9
  obtain ⟨hx, hb, hml, hret, hown, hts, hlk, hnm, hKn, hd1, hd2, hRc, hRs⟩ := C0
  subst hp
  obtain ⟨a, fs, rfl, ho, hl, hf⟩ := hh
  obtain ⟨hsv, hst⟩ := List.forall_mem_cons.mp hst
  have hst : ∀ w ∈ st, ab_ok w := fun w hw => hst w (List.mem_cons_of_mem _ hw)
  have hap := va_apart (own := (mY md).cls) hts cf.2.1 ty cf.2.2.1 cf.2.2.2 hKn.1 cf.1
  have hN := (hR.1 a (0, ab_eO (ci, fs)) (Or.inl ⟨_, ho, rfl⟩)).1
  obtain ⟨r, h1, cell, q1, q2, q3, q4⟩ := (hR.1 a (0, ab_eO (ci, fs)) (Or.inl ⟨_, ho, rfl⟩)).2
  have hr : r = (C, T, N) := Option.some.inj (h1.symm.trans cf.1)
  subst hr
  obtain ⟨hS, hfc, kC, hkC, hkind⟩ := hKn.1.1 ci _ cf.1
  obtain ⟨cf0, kf, fi, f0, hi, hsl⟩ := hS j hj
  have hlay := hts _ (cf.2.1 _ (u_in_lay hj))
  unfold u_lay at hlay
  rw [if_neg (by rw [hfin]; decide)] at hlay
  have hst0 := (u_facts hfc hkC (u_lays hts cf.2.1 hj) hi).1
  have h6 := u_store hfc hkC hkind hlay hi hdt hn hfit
  refine W.putK (v := ab_cv v) hx hb (f := f0) ⟨hown, hts _ hw, ⟨_, _, _, hi⟩, hst0⟩ (by rw [q2]; exact h6) q1 q3 (by rw [hsl]; exact k2_hasslot (q4 j hj)) rfl rfl hd fun H' e1 e2 e3 => ?_
  rw [hsl] at e1 ⊢
  have hlm : j < (fs.map ab_cv).length := by rw [List.length_map]; exact hl
  have hR' : Rl G (hsO h a (ci, fs.set j v)) H' := by
    refine hR.put (a := a) (k := 0) ab_atO (fun x hx => hR.2.1 a x (0, ab_eO (ci, fs)) hx (Or.inl ⟨_, ho, rfl⟩)) (ab_rgO hR.2.2.1 (fun w hw => ?_)) ⟨rfl, rfl, rfl⟩ hN ?_ (Nat.le_of_eq e2.symm) (fun q _ hq => e3 q hq)
    · rcases List.mem_or_eq_of_mem_set hw with z | z
      · exact hR.2.2.1.1 a _ ho w z
      · rw [z]; exact hsv
    · refine ⟨_, cf.1, t_OB.to (V := updV (vp_V (fs.map ab_cv)) j (ab_cv v)) ⟨_, e1, q2, q3, t_set q4 hap hj (ab_cv v)⟩ (fun x _ => ?_)⟩
      rw [vp_updV_set hlm, ← List.map_set]
  exact k _ hf l G p e R s m args below meth c H' _ cells slots lsr C9 hL hst hls hR' (fun x hx => by
    rcases List.mem_append.mp hx with z | z
    · exact hlo x z
    · rw [List.mem_singleton.mp z]; exact hN) hbc hbs
theorem rr_putF {d : Nat} {md : AbM} {bc bs pc pc' : Nat} {ls : List (Option AbV)} {st : List AbV} {h : AbH} {K : Option AbV → AbH → Prop} {q : Option Nat} {v : AbV} {ci j N i : Nat} {C : String} {T : u_T} {ty : Nat → FieldType} {fty : FieldType} {f : AbH → Prop} (cf : ClF ci C T N ty) (hj : j < N) (hd : decode (mC md) pc = .ok (.putfield i, 3)) (hp : pc + 3 = pc') (hw : Cond.fieldLink (mY md).cls i (T j).1 (T j).2.1 (T j).2.2.1 ∈ lwW) (hfin : (T j).2.2.2 = true) (hin2 : (mY md).name = "<init>") (hdecl : (T j).1 = (mY md).cls) (hdt : parseFieldDescriptor (T j).2.2.1 = some fty) (hn : narrow fty (ab_cv v) = ab_cv v) (hfit : fits fty (ab_cv v) = true) (hh : wpP h q ci j v f) (k : ∀ h', f h' → Vx d md bc bs pc' ls st h' K) : Vx d md bc bs pc ls (v :: vR q :: st) h K := by
  intro l G p e R s m args below meth c H locs cells slots lsr C9 hL hst hls hR hlo hbc hbs
  have C0 := C9
  obtain ⟨hx, hb, hml, hret, hown, hts, hlk, hnm, hKn, hd1, hd2, hRc, hRs⟩ := C0
  subst hp
  obtain ⟨a, fs, rfl, ho, hl, hf⟩ := hh
  obtain ⟨hsv, hst⟩ := List.forall_mem_cons.mp hst
  have hst : ∀ w ∈ st, ab_ok w := fun w hw => hst w (List.mem_cons_of_mem _ hw)
  have hap := va_apart (own := (mY md).cls) hts cf.2.1 ty cf.2.2.1 cf.2.2.2 hKn.1 cf.1
  have hN := (hR.1 a (0, ab_eO (ci, fs)) (Or.inl ⟨_, ho, rfl⟩)).1
  obtain ⟨r, h1, cell, q1, q2, q3, q4⟩ := (hR.1 a (0, ab_eO (ci, fs)) (Or.inl ⟨_, ho, rfl⟩)).2
  have hr : r = (C, T, N) := Option.some.inj (h1.symm.trans cf.1)
  subst hr
  obtain ⟨hS, hfc, kC, hkC, hkind⟩ := hKn.1.1 ci _ cf.1
  obtain ⟨cf0, kf, fi, f0, hi, hsl⟩ := hS j hj
  have hlay := hts _ (cf.2.1 _ (u_in_lay hj))
  unfold u_lay at hlay
  rw [if_pos hfin] at hlay
  have hst0 := (u_facts hfc hkC (u_lays hts cf.2.1 hj) hi).1
  have hcf : m.cls = cf0 := by
    obtain ⟨_, _, c', _, _, _, -, -, hf', -, -, -, hown2, -⟩ := Cond.laysFinal_spec hlay
    have e1 : c' = cf0 := by have := hi.symm.trans hf'; simp at this; exact this.1.symm
    rw [hdecl] at hown2
    rw [← e1]; exact Option.some.inj (hown.symm.trans hown2)
  have h6 := u_fits hfc hkC hkind (Or.inr hlay) hi hdt hn hfit
  refine W.putFinK (v := ab_cv v) hx hb hown (hts _ hw) hi hst0 hcf (hnm.trans hin2) (by rw [q2]; exact h6) q1 q3 (by rw [hsl]; exact k2_hasslot (q4 j hj)) rfl rfl hd fun H' e1 e2 e3 => ?_
  rw [hsl] at e1 ⊢
  have hlm : j < (fs.map ab_cv).length := by rw [List.length_map]; exact hl
  have hR' : Rl G (hsO h a (ci, fs.set j v)) H' := by
    refine hR.put (a := a) (k := 0) ab_atO (fun x hx => hR.2.1 a x (0, ab_eO (ci, fs)) hx (Or.inl ⟨_, ho, rfl⟩)) (ab_rgO hR.2.2.1 (fun w hw => ?_)) ⟨rfl, rfl, rfl⟩ hN ?_ (Nat.le_of_eq e2.symm) (fun q _ hq => e3 q hq)
    · rcases List.mem_or_eq_of_mem_set hw with z | z
      · exact hR.2.2.1.1 a _ ho w z
      · rw [z]; exact hsv
    · refine ⟨_, cf.1, t_OB.to (V := updV (vp_V (fs.map ab_cv)) j (ab_cv v)) ⟨_, e1, q2, q3, t_set q4 hap hj (ab_cv v)⟩ (fun x _ => ?_)⟩
      rw [vp_updV_set hlm, ← List.map_set]
  exact k _ hf l G p e R s m args below meth c H' _ cells slots lsr C9 hL hst hls hR' (fun x hx => by
    rcases List.mem_append.mp hx with z | z
    · exact hlo x z
    · rw [List.mem_singleton.mp z]; exact hN) hbc hbs
theorem rr_iald {d : Nat} {md : AbM} {bc bs pc pc' : Nat} {ls : List (Option AbV)} {st : List AbV} {h : AbH} {K : Option AbV → AbH → Prop} {q : Option Nat} {i : Int} {f : Int → Prop} (hd : decode (mC md) pc = .ok (.iaload, 1)) (hp : pc + 1 = pc') (hh : wpLI h q i f) (k : ∀ n, f n → Vx d md bc bs pc' ls (vI n :: st) h K) : Vx d md bc bs pc ls (vI i :: vR q :: st) h K := by
  intro l G p e R s m args below meth c H locs cells slots lsr C hL hst hls hR hlo hbc hbs
  have C0 := C
  obtain ⟨hx, hb, hml, hret, hown, hts, hlk, hnm, hKn, hd1, hd2, hRc, hRs⟩ := C0
  subst hp
  obtain ⟨a, n, g, rfl, ho, h0, h1, hf⟩ := hh
  obtain ⟨hsi, hst⟩ := List.forall_mem_cons.mp hst
  have hsi : in32 i := hsi
  have hvi := i32_in hsi h0 h1
  refine W.iald (v := .int (Int32.ofInt (g i.toNat))) hx hb (hR.atI ho).2 ((hKn.1.2 0 _ rfl).1 n _) (fun q => by cases q) (by show ¬ (_ ∨ (arrV _ _ _).slots.size ≤ _); rw [arrV_size]; exact hvi) (by show (arrV _ _ _).slots[_]? = _; rw [arrV_read _ _ (by rw [i32_nat hsi]; omega), i32_nat hsi]) rfl rfl hd ?_
  exact k _ hf l G p e R s m args below meth c H locs cells slots lsr C hL (List.forall_mem_cons.mpr ⟨(hR.2.2.1.2.1 a _ ho).2 _, fun w hw => hst w (List.mem_cons_of_mem _ hw)⟩) hls hR hlo hbc hbs
theorem rr_lald {d : Nat} {md : AbM} {bc bs pc pc' : Nat} {ls : List (Option AbV)} {st : List AbV} {h : AbH} {K : Option AbV → AbH → Prop} {q : Option Nat} {i : Int} {f : Int → Prop} (hd : decode (mC md) pc = .ok (.laload, 1)) (hp : pc + 1 = pc') (hh : wpLJ h q i f) (k : ∀ n, f n → Vx d md bc bs pc' ls (vL n :: st) h K) : Vx d md bc bs pc ls (vI i :: vR q :: st) h K := by
  intro l G p e R s m args below meth c H locs cells slots lsr C hL hst hls hR hlo hbc hbs
  have C0 := C
  obtain ⟨hx, hb, hml, hret, hown, hts, hlk, hnm, hKn, hd1, hd2, hRc, hRs⟩ := C0
  subst hp
  obtain ⟨a, n, g, rfl, ho, h0, h1, hf⟩ := hh
  obtain ⟨hsi, hst⟩ := List.forall_mem_cons.mp hst
  have hsi : in32 i := hsi
  have hvi := i32_in hsi h0 h1
  refine W.lald (v := .long (Int64.ofInt (g i.toNat))) hx hb (hR.atJ ho).2 ((hKn.1.2 1 _ rfl).1 n _) (fun q => by cases q) (by show ¬ (_ ∨ (arrV _ _ _).slots.size ≤ _); rw [arrV_size]; exact hvi) (by show (arrV _ _ _).slots[_]? = _; rw [arrV_read _ _ (by rw [i32_nat hsi]; omega), i32_nat hsi]) rfl rfl hd ?_
  exact k _ hf l G p e R s m args below meth c H locs cells slots lsr C hL (List.forall_mem_cons.mpr ⟨(hR.2.2.1.2.2.1 a _ ho).2 _, fun w hw => hst w (List.mem_cons_of_mem _ hw)⟩) hls hR hlo hbc hbs
theorem rr_zald {d : Nat} {md : AbM} {bc bs pc pc' : Nat} {ls : List (Option AbV)} {st : List AbV} {h : AbH} {K : Option AbV → AbH → Prop} {q : Option Nat} {i : Int} {f : Int → Prop} (hd : decode (mC md) pc = .ok (.baload, 1)) (hp : pc + 1 = pc') (hh : wpLZ h q i f) (k : ∀ n, f n → Vx d md bc bs pc' ls (vI n :: st) h K) : Vx d md bc bs pc ls (vI i :: vR q :: st) h K := by
  intro l G p e R s m args below meth c H locs cells slots lsr C hL hst hls hR hlo hbc hbs
  have C0 := C
  obtain ⟨hx, hb, hml, hret, hown, hts, hlk, hnm, hKn, hd1, hd2, hRc, hRs⟩ := C0
  subst hp
  obtain ⟨a, n, g, rfl, ho, h0, h1, hf⟩ := hh
  obtain ⟨hsi, hst⟩ := List.forall_mem_cons.mp hst
  have hsi : in32 i := hsi
  have hvi := i32_in hsi h0 h1
  refine W.zald (v := .int (Int32.ofInt (g i.toNat))) hx hb (hR.atZ ho).2 ((hKn.1.2 2 _ rfl).1 n _) (fun q => by cases q) (by show ¬ (_ ∨ (arrV _ _ _).slots.size ≤ _); rw [arrV_size]; exact hvi) (by show (arrV _ _ _).slots[_]? = _; rw [arrV_read _ _ (by rw [i32_nat hsi]; omega), i32_nat hsi]) rfl rfl hd ?_
  exact k _ hf l G p e R s m args below meth c H locs cells slots lsr C hL (List.forall_mem_cons.mpr ⟨by rcases (hR.2.2.1.2.2.2.1 a _ ho).2 i.toNat with z | z <;> (have z2 : g i.toNat = _ := z; show in32 (g i.toNat); rw [z2]; exact ⟨by decide, by decide⟩), fun w hw => hst w (List.mem_cons_of_mem _ hw)⟩) hls hR hlo hbc hbs
def ab_tc (k : Nat) : String := if k = 0 then RX1 else if k = 2 then RX3 else RX8
theorem ab_tys_r {G : AbG} {k : Nat} (hk : k = 0 ∨ k = 2 ∨ k = 7) : ∃ t0 : Nat, (ab_tys G)[t0]? = some (gC G (3 + k), FieldType.object (ab_tc k)) := by
  rcases hk with rfl | rfl | rfl
  · exact ⟨3, rfl⟩
  · exact ⟨4, rfl⟩
  · exact ⟨5, rfl⟩
theorem rr_aald {d : Nat} {md : AbM} {bc bs pc pc' : Nat} {ls : List (Option AbV)} {st : List AbV} {h : AbH} {K : Option AbV → AbH → Prop} {q : Option Nat} {i : Int} {f : Option Nat → Prop} (hd : decode (mC md) pc = .ok (.aaload, 1)) (hp : pc + 1 = pc') (hh : wpLR h q i f) (k : ∀ n, f n → Vx d md bc bs pc' ls (vR n :: st) h K) : Vx d md bc bs pc ls (vI i :: vR q :: st) h K := by
  intro l G p e R s m args below meth c H locs cells slots lsr C hL hst hls hR hlo hbc hbs
  have C0 := C
  obtain ⟨hx, hb, hml, hret, hown, hts, hlk, hnm, hKn, hd1, hd2, hRc, hRs⟩ := C0
  subst hp
  obtain ⟨a, k0, n, g, rfl, ho, h0, h1, hf⟩ := hh
  obtain ⟨hsi, hst⟩ := List.forall_mem_cons.mp hst
  have hsi : in32 i := hsi
  have hvi := i32_in hsi h0 h1
  obtain ⟨t0, ht0⟩ := ab_tys_r (G := G) (hR.2.2.1.2.2.2.2 a _ ho).2
  refine W.aald (ty := .object (ab_tc k0)) (v := va_rf (g i.toNat)) hx hb (hR.atR ho).2 ((hKn.1.2 t0 _ ht0).1 n _) rfl (fun q => by cases q) (by show ¬ (_ ∨ (arrV _ _ _).slots.size ≤ _); rw [arrV_size]; exact hvi) (by show (arrV _ _ _).slots[_]? = _; rw [arrV_read _ _ (by rw [i32_nat hsi]; show _ < n; omega), i32_nat hsi]) rfl rfl hd ?_
  exact k _ hf l G p e R s m args below meth c H locs cells slots lsr C hL (List.forall_mem_cons.mpr ⟨trivial, fun w hw => hst w (List.mem_cons_of_mem _ hw)⟩) hls hR hlo hbc hbs
theorem rr_alenI {d : Nat} {md : AbM} {bc bs pc pc' : Nat} {ls : List (Option AbV)} {st : List AbV} {h : AbH} {K : Option AbV → AbH → Prop} {q : Option Nat} {f : Int → Prop} (hd : decode (mC md) pc = .ok (.arraylength, 1)) (hp : pc + 1 = pc') (hh : wpNI h q f) (k : ∀ n, f n → Vx d md bc bs pc' ls (vI n :: st) h K) : Vx d md bc bs pc ls (vR q :: st) h K := by
  intro l G p e R s m args below meth c H locs cells slots lsr C hL hst hls hR hlo hbc hbs
  have C0 := C
  obtain ⟨hx, hb, hml, hret, hown, hts, hlk, hnm, hKn, hd1, hd2, hRc, hRs⟩ := C0
  subst hp
  obtain ⟨a, n, g, rfl, ho, hf⟩ := hh
  have hn : n < 2147483648 := (hR.2.2.1.2.1 a _ ho).1
  
  refine W.alen (n := Int32.ofInt (n : Int)) hx hb (hR.atI ho).2 ((hKn.1.2 0 _ rfl).1 n _) (by show (arrV _ _ _).slots.size.toInt32 = _; rw [arrV_size]; rfl) rfl rfl hd ?_
  exact k _ hf l G p e R s m args below meth c H locs cells slots lsr C hL (List.forall_mem_cons.mpr ⟨i32_ofNat hn, fun w hw => hst w (List.mem_cons_of_mem _ hw)⟩) hls hR hlo hbc hbs
theorem rr_alenJ {d : Nat} {md : AbM} {bc bs pc pc' : Nat} {ls : List (Option AbV)} {st : List AbV} {h : AbH} {K : Option AbV → AbH → Prop} {q : Option Nat} {f : Int → Prop} (hd : decode (mC md) pc = .ok (.arraylength, 1)) (hp : pc + 1 = pc') (hh : wpNJ h q f) (k : ∀ n, f n → Vx d md bc bs pc' ls (vI n :: st) h K) : Vx d md bc bs pc ls (vR q :: st) h K := by
  intro l G p e R s m args below meth c H locs cells slots lsr C hL hst hls hR hlo hbc hbs
  have C0 := C
  obtain ⟨hx, hb, hml, hret, hown, hts, hlk, hnm, hKn, hd1, hd2, hRc, hRs⟩ := C0
  subst hp
  obtain ⟨a, n, g, rfl, ho, hf⟩ := hh
  have hn : n < 2147483648 := (hR.2.2.1.2.2.1 a _ ho).1
  
  refine W.alen (n := Int32.ofInt (n : Int)) hx hb (hR.atJ ho).2 ((hKn.1.2 1 _ rfl).1 n _) (by show (arrV _ _ _).slots.size.toInt32 = _; rw [arrV_size]; rfl) rfl rfl hd ?_
  exact k _ hf l G p e R s m args below meth c H locs cells slots lsr C hL (List.forall_mem_cons.mpr ⟨i32_ofNat hn, fun w hw => hst w (List.mem_cons_of_mem _ hw)⟩) hls hR hlo hbc hbs
theorem rr_alenZ {d : Nat} {md : AbM} {bc bs pc pc' : Nat} {ls : List (Option AbV)} {st : List AbV} {h : AbH} {K : Option AbV → AbH → Prop} {q : Option Nat} {f : Int → Prop} (hd : decode (mC md) pc = .ok (.arraylength, 1)) (hp : pc + 1 = pc') (hh : wpNZ h q f) (k : ∀ n, f n → Vx d md bc bs pc' ls (vI n :: st) h K) : Vx d md bc bs pc ls (vR q :: st) h K := by
  intro l G p e R s m args below meth c H locs cells slots lsr C hL hst hls hR hlo hbc hbs
  have C0 := C
  obtain ⟨hx, hb, hml, hret, hown, hts, hlk, hnm, hKn, hd1, hd2, hRc, hRs⟩ := C0
  subst hp
  obtain ⟨a, n, g, rfl, ho, hf⟩ := hh
  have hn : n < 2147483648 := (hR.2.2.1.2.2.2.1 a _ ho).1
  
  refine W.alen (n := Int32.ofInt (n : Int)) hx hb (hR.atZ ho).2 ((hKn.1.2 2 _ rfl).1 n _) (by show (arrV _ _ _).slots.size.toInt32 = _; rw [arrV_size]; rfl) rfl rfl hd ?_
  exact k _ hf l G p e R s m args below meth c H locs cells slots lsr C hL (List.forall_mem_cons.mpr ⟨i32_ofNat hn, fun w hw => hst w (List.mem_cons_of_mem _ hw)⟩) hls hR hlo hbc hbs
theorem rr_alenR {d : Nat} {md : AbM} {bc bs pc pc' : Nat} {ls : List (Option AbV)} {st : List AbV} {h : AbH} {K : Option AbV → AbH → Prop} {q : Option Nat} {f : Int → Prop} (hd : decode (mC md) pc = .ok (.arraylength, 1)) (hp : pc + 1 = pc') (hh : wpNR h q f) (k : ∀ n, f n → Vx d md bc bs pc' ls (vI n :: st) h K) : Vx d md bc bs pc ls (vR q :: st) h K := by
  intro l G p e R s m args below meth c H locs cells slots lsr C hL hst hls hR hlo hbc hbs
  have C0 := C
  obtain ⟨hx, hb, hml, hret, hown, hts, hlk, hnm, hKn, hd1, hd2, hRc, hRs⟩ := C0
  subst hp
  obtain ⟨a, k0, n, g, rfl, ho, hf⟩ := hh
  have hn : n < 2147483648 := (hR.2.2.1.2.2.2.2 a _ ho).1
  obtain ⟨t0, ht0⟩ := ab_tys_r (G := G) (hR.2.2.1.2.2.2.2 a _ ho).2
  refine W.alen (n := Int32.ofInt (n : Int)) hx hb (hR.atR ho).2 ((hKn.1.2 t0 _ ht0).1 n _) (by show (arrV _ _ _).slots.size.toInt32 = _; rw [arrV_size]; rfl) rfl rfl hd ?_
  exact k _ hf l G p e R s m args below meth c H locs cells slots lsr C hL (List.forall_mem_cons.mpr ⟨i32_ofNat hn, fun w hw => hst w (List.mem_cons_of_mem _ hw)⟩) hls hR hlo hbc hbs
abbrev ab_z01 (x : Int) : Prop := x = 0 ∨ x = 1
theorem rr_iast {d : Nat} {md : AbM} {bc bs pc pc' : Nat} {ls : List (Option AbV)} {st : List AbV} {h : AbH} {K : Option AbV → AbH → Prop} {q : Option Nat} {i x : Int} {f : AbH → Prop} (hd : decode (mC md) pc = .ok (.iastore, 1)) (hp : pc + 1 = pc') (hh : wpSI h q i x f) (k : ∀ h', f h' → Vx d md bc bs pc' ls st h' K) : Vx d md bc bs pc ls (vI x :: vI i :: vR q :: st) h K := by
  intro l G p e R s m args below meth c H locs cells slots lsr C hL hst hls hR hlo hbc hbs
  have C0 := C
  obtain ⟨hx, hb, hml, hret, hown, hts, hlk, hnm, hKn, hd1, hd2, hRc, hRs⟩ := C0
  subst hp
  obtain ⟨a, n, g, rfl, ho, h0, h1, hf⟩ := hh
  obtain ⟨hsx, hst⟩ := List.forall_mem_cons.mp hst
  obtain ⟨hsi, hst⟩ := List.forall_mem_cons.mp hst
  have hst : ∀ w ∈ st, ab_ok w := fun w hw => hst w (List.mem_cons_of_mem _ hw)
  have hsi : in32 i := hsi
  have hvi := i32_in hsi h0 h1
  have hN := (hR.atI ho).1
  refine W.iast hx hb (hR.atI ho).2 ((hKn.1.2 0 _ rfl).1 n _) (fun q => by cases q) (by show ¬ (_ ∨ (arrV _ _ _).slots.size ≤ _); rw [arrV_size]; exact hvi) rfl rfl hd fun H' e1 e2 e3 => ?_
  rw [i32_nat hsi] at e1 ⊢
  have hR' : Rl G (hsI h a (n, va_up g i.toNat x)) H' := by
    refine hR.put (a := a) (k := 1) ab_atI (fun y hy => hR.2.1 a y (1, ab_eI G (n, g)) hy (Or.inr (Or.inl ⟨_, ho, rfl⟩))) (ab_rgI hR.2.2.1 ⟨(hR.2.2.1.2.1 a _ ho).1, fun j => ?_⟩) ⟨rfl, rfl, rfl⟩ hN ?_ (Nat.le_of_eq e2.symm) (fun q _ hq => e3 q hq)
    · show in32 (va_up g i.toNat x j)
      unfold va_up
      split
      · exact hsx
      · exact (hR.2.2.1.2.1 a _ ho).2 j
    · show H'[a]? = some (vp_cell _ _)
      rw [e1]
      rw [vp_cell_i, vp_cell_i, arrV_store]
      congr 2
      funext y
      show updV _ _ _ y = Value.int (Int32.ofInt (va_up g i.toNat x y))
      unfold updV va_up
      split <;> rfl
  exact k _ hf l G p e R s m args below meth c H' _ cells slots lsr C hL hst hls hR' (fun x hx => by
    rcases List.mem_append.mp hx with z | z
    · exact hlo x z
    · rw [List.mem_singleton.mp z]; exact hN) hbc hbs
theorem rr_last {d : Nat} {md : AbM} {bc bs pc pc' : Nat} {ls : List (Option AbV)} {st : List AbV} {h : AbH} {K : Option AbV → AbH → Prop} {q : Option Nat} {i x : Int} {f : AbH → Prop} (hd : decode (mC md) pc = .ok (.lastore, 1)) (hp : pc + 1 = pc') (hh : wpSJ h q i x f) (k : ∀ h', f h' → Vx d md bc bs pc' ls st h' K) : Vx d md bc bs pc ls (vL x :: vI i :: vR q :: st) h K := by
  intro l G p e R s m args below meth c H locs cells slots lsr C hL hst hls hR hlo hbc hbs
  have C0 := C
  obtain ⟨hx, hb, hml, hret, hown, hts, hlk, hnm, hKn, hd1, hd2, hRc, hRs⟩ := C0
  subst hp
  obtain ⟨a, n, g, rfl, ho, h0, h1, hf⟩ := hh
  obtain ⟨hsx, hst⟩ := List.forall_mem_cons.mp hst
  obtain ⟨hsi, hst⟩ := List.forall_mem_cons.mp hst
  have hst : ∀ w ∈ st, ab_ok w := fun w hw => hst w (List.mem_cons_of_mem _ hw)
  have hsi : in32 i := hsi
  have hvi := i32_in hsi h0 h1
  have hN := (hR.atJ ho).1
  refine W.last hx hb (hR.atJ ho).2 ((hKn.1.2 1 _ rfl).1 n _) (fun q => by cases q) (by show ¬ (_ ∨ (arrV _ _ _).slots.size ≤ _); rw [arrV_size]; exact hvi) rfl rfl hd fun H' e1 e2 e3 => ?_
  rw [i32_nat hsi] at e1 ⊢
  have hR' : Rl G (hsJ h a (n, va_up g i.toNat x)) H' := by
    refine hR.put (a := a) (k := 2) ab_atJ (fun y hy => hR.2.1 a y (2, ab_eJ G (n, g)) hy (Or.inr (Or.inr (Or.inl ⟨_, ho, rfl⟩)))) (ab_rgJ hR.2.2.1 ⟨(hR.2.2.1.2.2.1 a _ ho).1, fun j => ?_⟩) ⟨rfl, rfl, rfl⟩ hN ?_ (Nat.le_of_eq e2.symm) (fun q _ hq => e3 q hq)
    · show in64 (va_up g i.toNat x j)
      unfold va_up
      split
      · exact hsx
      · exact (hR.2.2.1.2.2.1 a _ ho).2 j
    · show H'[a]? = some (vp_cell _ _)
      rw [e1]
      rw [vp_cell_l, vp_cell_l, arrV_store]
      congr 2
      funext y
      show updV _ _ _ y = Value.long (Int64.ofInt (va_up g i.toNat x y))
      unfold updV va_up
      split <;> rfl
  exact k _ hf l G p e R s m args below meth c H' _ cells slots lsr C hL hst hls hR' (fun x hx => by
    rcases List.mem_append.mp hx with z | z
    · exact hlo x z
    · rw [List.mem_singleton.mp z]; exact hN) hbc hbs
theorem rr_zast {d : Nat} {md : AbM} {bc bs pc pc' : Nat} {ls : List (Option AbV)} {st : List AbV} {h : AbH} {K : Option AbV → AbH → Prop} {q : Option Nat} {i x : Int} {f : AbH → Prop} (hd : decode (mC md) pc = .ok (.bastore, 1)) (hp : pc + 1 = pc') (hh : wpSZ h q i x f) (k : ∀ h', f h' → Vx d md bc bs pc' ls st h' K) : Vx d md bc bs pc ls (vI x :: vI i :: vR q :: st) h K := by
  intro l G p e R s m args below meth c H locs cells slots lsr C hL hst hls hR hlo hbc hbs
  have C0 := C
  obtain ⟨hx, hb, hml, hret, hown, hts, hlk, hnm, hKn, hd1, hd2, hRc, hRs⟩ := C0
  subst hp
  obtain ⟨a, n, g, rfl, ho, h0, h1, hx01, hf⟩ := hh
  obtain ⟨hsx, hst⟩ := List.forall_mem_cons.mp hst
  obtain ⟨hsi, hst⟩ := List.forall_mem_cons.mp hst
  have hst : ∀ w ∈ st, ab_ok w := fun w hw => hst w (List.mem_cons_of_mem _ hw)
  have hsi : in32 i := hsi
  have hvi := i32_in hsi h0 h1
  have hN := (hR.atZ ho).1
  refine W.zast hx hb (hR.atZ ho).2 ((hKn.1.2 2 _ rfl).1 n _) (fun q => by cases q) (by show ¬ (_ ∨ (arrV _ _ _).slots.size ≤ _); rw [arrV_size]; exact hvi) rfl rfl hd fun H' e1 e2 e3 => ?_
  rw [i32_nat hsi] at e1 ⊢
  have hR' : Rl G (hsZ h a (n, va_up g i.toNat x)) H' := by
    refine hR.put (a := a) (k := 3) ab_atZ (fun y hy => hR.2.1 a y (3, ab_eZ G (n, g)) hy (Or.inr (Or.inr (Or.inr (Or.inl ⟨_, ho, rfl⟩))))) (ab_rgZ hR.2.2.1 ⟨(hR.2.2.1.2.2.2.1 a _ ho).1, fun j => ?_⟩) ⟨rfl, rfl, rfl⟩ hN ?_ (Nat.le_of_eq e2.symm) (fun q _ hq => e3 q hq)
    · show ab_z01 (va_up g i.toNat x j)
      unfold va_up
      split
      · exact hx01
      · exact (hR.2.2.1.2.2.2.1 a _ ho).2 j
    · show H'[a]? = some (vp_cell _ _)
      rw [e1]
      rw [zn_b hx01]
      rw [vp_cell_i, vp_cell_i, arrV_store]
      congr 2
      funext y
      show updV _ _ _ y = Value.int (Int32.ofInt (va_up g i.toNat x y))
      unfold updV va_up
      split <;> rfl
  exact k _ hf l G p e R s m args below meth c H' _ cells slots lsr C hL hst hls hR' (fun x hx => by
    rcases List.mem_append.mp hx with z | z
    · exact hlo x z
    · rw [List.mem_singleton.mp z]; exact hN) hbc hbs
theorem rr_aast {d : Nat} {md : AbM} {bc bs pc pc' : Nat} {ls : List (Option AbV)} {st : List AbV} {h : AbH} {K : Option AbV → AbH → Prop} {q : Option Nat} {i : Int} {r : Option Nat} {f : AbH → Prop} (hd : decode (mC md) pc = .ok (.aastore, 1)) (hp : pc + 1 = pc') (hh : wpSR h q i r f) (k : ∀ h', f h' → Vx d md bc bs pc' ls st h' K) : Vx d md bc bs pc ls (vR r :: vI i :: vR q :: st) h K := by
  intro l G p e R s m args below meth c H locs cells slots lsr C hL hst hls hR hlo hbc hbs
  have C0 := C
  obtain ⟨hx, hb, hml, hret, hown, hts, hlk, hnm, hKn, hd1, hd2, hRc, hRs⟩ := C0
  subst hp
  obtain ⟨a, k0, n, g, rfl, ho, h0, h1, hr0, hf⟩ := hh
  obtain ⟨hsx, hst⟩ := List.forall_mem_cons.mp hst
  obtain ⟨hsi, hst⟩ := List.forall_mem_cons.mp hst
  have hst : ∀ w ∈ st, ab_ok w := fun w hw => hst w (List.mem_cons_of_mem _ hw)
  have hsi : in32 i := hsi
  have hvi := i32_in hsi h0 h1
  have hN := (hR.atR ho).1
  have hk0 := (hR.2.2.1.2.2.2.2 a _ ho).2
  obtain ⟨t0, ht0⟩ := ab_tys_r (G := G) hk0
  have fin : ∀ H' : Heap, H'[a]? = some ((vp_cell (gC G (3 + k0)) (n, .inr (.inr (.inr (.inr g))))).setSlot (Int32.ofInt i).toNatClampNeg (va_rf r)) → H'.size = H.size → (∀ q, q ≠ a → H'[q]? = H[q]?) → W p l e R s m args below meth c H' (locs ++ [⟨a, (Int32.ofInt i).toNatClampNeg⟩]) cells slots (MQ below (QcV G K) args s (mN md) (mS md) (fun q => (gH G).size ≤ q)) (F0 m (pc + 1) lsr (st.map ab_cv)) := by
    intro H' e1 e2 e3
    rw [i32_nat hsi] at e1 ⊢
    have hR' : Rl G (hsR h a (k0, n, va_up g i.toNat r)) H' := by
      refine hR.put (a := a) (k := 4) ab_atR (fun y hy => hR.2.1 a y (4, ab_eR G (k0, n, g)) hy (Or.inr (Or.inr (Or.inr (Or.inr ⟨_, ho, rfl⟩))))) (ab_rgR hR.2.2.1 (hR.2.2.1.2.2.2.2 a (k0, n, g) ho)) ⟨rfl, rfl, rfl⟩ hN ?_ (Nat.le_of_eq e2.symm) (fun q _ hq => e3 q hq)
      show H'[a]? = some (vp_cell _ _)
      rw [e1, vp_cell_q, vp_cell_q, arrV_store]
      congr 2
      funext y
      show updV _ _ _ y = va_rf (va_up g i.toNat r y)
      unfold updV va_up
      split <;> rfl
    exact k _ hf l G p e R s m args below meth c H' _ cells slots lsr C hL hst hls hR' (fun x hx => by
      rcases List.mem_append.mp hx with z | z
      · exact hlo x z
      · rw [List.mem_singleton.mp z]; exact hN) hbc hbs
  cases r with
  | none =>
    exact va_WaastN (C := ab_tc k0) hx hb (hR.atR ho).2 ((hKn.1.2 t0 _ ht0).1 n _) (fun q => by cases q) (by show ¬ (_ ∨ (arrV _ _ _).slots.size ≤ _); rw [arrV_size]; exact hvi) rfl rfl hd fin
  | some b =>
    obtain ⟨fs, hb0⟩ := hr0 b rfl
    obtain ⟨r', hr', cellV, g1, g2, g3, -⟩ := (hR.1 b (0, ab_eO (k0, fs)) (Or.inl ⟨_, hb0, rfl⟩)).2
    have hcl : vwCl[k0]? = some r' ∧ r'.1 = ab_tc k0 := by
      refine ⟨hr', ?_⟩
      rcases hk0 with z | z | z <;> (dsimp only at z; subst z; cases hr'; rfl)
    have hcls := (hKn.1.1 k0 r' hcl.1).2
    rw [hcl.2] at hcls
    obtain ⟨kA, comp, k1, k2, k3, -⟩ := (hKn.1.2 t0 _ ht0).2
    have hcomp : comp = (gD G).1 k0 := Option.some.inj (k3.symm.trans hcls.1)
    subst hcomp
    obtain ⟨kC, hkC, -⟩ := hcls.2
    have hlt : (Int32.ofInt i).toNatClampNeg < n := Nat.not_le.mp fun q => hvi (Or.inr q)
    exact W.aast hx hb (hR.atR ho).2 (fun q h => by cases h) (fun h => by cases h) k1 k2 rfl hkC ⟨fun q => hvi (Or.inl q), by show _ < (arrV _ _ _).slots.size; rw [arrV_size]; exact hlt⟩ g1 (fun q h => by rw [g3] at h; cases h) (by rw [g2]; exact hkC) (by rw [g2]; exact va_assign hcls) rfl rfl hd fin
theorem rr_xald {d : Nat} {md : AbM} {bc bs pc pc' : Nat} {ls : List (Option AbV)} {st : List AbV} {h : AbH} {K : Option AbV → AbH → Prop} {q : Option Nat} {i : Int} {f : Int → Prop} (hd : decode (mC md) pc = .ok (.iaload, 1)) (hp : pc + 1 = pc') (hh : wpLX h q i f) (k : ∀ n, f n → Vx d md bc bs pc' ls (vI n :: st) h K) : Vx d md bc bs pc ls (vI i :: vR q :: st) h K := by
  intro l G p e R s m args below meth c H locs cells slots lsr C hL hst hls hR hlo hbc hbs
  have C0 := C
  obtain ⟨hx, hb, hml, hret, hown, hts, hlk, hnm, hKn, hd1, hd2, hRc, hRs⟩ := C0
  subst hp
  obtain ⟨a, n, g, rfl, ho, h0, h1, hf⟩ := hh
  obtain ⟨hsi, hst⟩ := List.forall_mem_cons.mp hst
  have hsi : in32 i := hsi
  have hvi := i32_in hsi h0 h1
  rw [hR.2.2.2.1.1] at ho
  obtain ⟨x1, x2, x3, scr, y1, y2, y3, y4, y5⟩ := hKn.2.2.2.2.2.2.2 a _ ho
  refine W.iald (v := .int (Int32.ofInt (g i.toNat))) hx hb ((hR.2.2.2.2.2 a x1).trans y1) y2 y3 (by rw [y4]; exact hvi) (by rw [i32_nat hsi]; exact y5 _ (by show _ < n; omega)) rfl rfl hd ?_
  exact k _ hf l G p e R s m args below meth c H locs cells slots lsr C hL (List.forall_mem_cons.mpr ⟨x3 _, fun w hw => hst w (List.mem_cons_of_mem _ hw)⟩) hls hR hlo hbc hbs
theorem rr_alenX {d : Nat} {md : AbM} {bc bs pc pc' : Nat} {ls : List (Option AbV)} {st : List AbV} {h : AbH} {K : Option AbV → AbH → Prop} {q : Option Nat} {f : Int → Prop} (hd : decode (mC md) pc = .ok (.arraylength, 1)) (hp : pc + 1 = pc') (hh : wpNX h q f) (k : ∀ n, f n → Vx d md bc bs pc' ls (vI n :: st) h K) : Vx d md bc bs pc ls (vR q :: st) h K := by
  intro l G p e R s m args below meth c H locs cells slots lsr C hL hst hls hR hlo hbc hbs
  have C0 := C
  obtain ⟨hx, hb, hml, hret, hown, hts, hlk, hnm, hKn, hd1, hd2, hRc, hRs⟩ := C0
  subst hp
  obtain ⟨a, n, g, rfl, ho, hf⟩ := hh
  rw [hR.2.2.2.1.1] at ho
  obtain ⟨x1, x2, x3, scr, y1, y2, y3, y4, y5⟩ := hKn.2.2.2.2.2.2.2 a _ ho
  refine W.alen (n := Int32.ofInt (n : Int)) hx hb ((hR.2.2.2.2.2 a x1).trans y1) y2 (by rw [y4]; rfl) rfl rfl hd ?_
  exact k _ hf l G p e R s m args below meth c H locs cells slots lsr C hL (List.forall_mem_cons.mpr ⟨i32_ofNat x2, fun w hw => hst w (List.mem_cons_of_mem _ hw)⟩) hls hR hlo hbc hbs
end
section
def ab_df : FieldType → AbV
  | .int => vI 0
  | .boolean => vI 0
  | .long => vL 0
  | _ => vR none
theorem rr_new {d : Nat} {md : AbM} {bc bs pc pc' : Nat} {ls : List (Option AbV)} {st : List AbV} {h : AbH} {K : Option AbV → AbH → Prop} {bc' bs' ci N i : Nat} {C : String} {T : u_T} {ty : Nat → FieldType} {fs : List AbV} (cf : ClF ci C T N ty) (hd : decode (mC md) pc = .ok (.new i, 3)) (hp : pc + 3 = pc') (hw : Cond.classLink (mY md).cls i C ∈ lwW) (hi : Cond.instantiable C N ∈ lwW) (hz : Cond.initialized C ∈ lwW) (hfs : ∀ j, j < N → defaultValue (ty j) = vp_V (fs.map ab_cv) j) (hok : ∀ v ∈ fs, ab_ok v) (hbc1 : bc' + 1 ≤ bc) (hbs1 : bs' + N ≤ bs) (k : ∀ q, ab_new h q → Vx d md bc' bs' pc' ls (vR (some q) :: st) (hsO h q (ci, fs)) K) : Vx d md bc bs pc ls st h K := by
  intro l G p e R s m args below meth c H locs cells slots lsr C9 hL hst hls hR hlo hbc hbs
  have C0 := C9
  obtain ⟨hx, hb, hml, hret, hown, hts, hlk, hnm, hKn, hd1, hd2, hRc, hRs⟩ := C0
  subst hp
  have hKc := hKn.1.1 ci _ cf.1
  refine W.newcK hx hb hown (hts _ hw) (hts _ hi) (hts _ hz) rfl hd (by rw [hRc]; omega) (by rw [hRs]; omega) hKc.2.1 rfl fun H1 kC hkC e1 z1 o1 => ?_
  have hN : (gH G).size ≤ H.size := hR.2.2.2.2.1
  have hfr := hR.fresh
  have hR' : Rl G (hsO h H.size (ci, fs)) H1 := by
    refine hR.put (a := H.size) (k := 0) ab_atO (fun x hx => absurd hx (ab_new_at hfr x)) (ab_rgO hR.2.2.1 hok) ⟨rfl, rfl, rfl⟩ hN ?_ (by omega) (fun q hq _ => o1 q hq)
    exact ⟨_, cf.1, (u_born ty hts cf.2.1 hKc hkC e1 cf.2.2.1).to hfs⟩
  exact k H.size hfr l G p e R s m args below meth c H1 _ (cells + 1) (slots + N) lsr C9 hL (List.forall_mem_cons.mpr ⟨trivial, hst⟩) hls hR' hlo (by omega) (by omega)
theorem rr_newI {d : Nat} {md : AbM} {bc bs pc pc' : Nat} {ls : List (Option AbV)} {st : List AbV} {h : AbH} {K : Option AbV → AbH → Prop} {bc' bs' n : Nat} {a : Int} (hd : decode (mC md) pc = .ok (.newarray .int, 2)) (hp : pc + 2 = pc') (hw : Cond.arrayClass .int ∈ lwW) (hn : a = (n : Int)) (hn2 : n ≤ 10000) (hbc1 : bc' + 1 ≤ bc) (hbs1 : bs' + n ≤ bs) (k : ∀ q, ab_new h q → Vx d md bc' bs' pc' ls (vR (some q) :: st) (hsI h q (n, fun _ => 0)) K) : Vx d md bc bs pc ls (vI a :: st) h K := by
  intro l G p e R s m args below meth c H locs cells slots lsr C hL hst hls hR hlo hbc hbs
  have C0 := C
  obtain ⟨hx, hb, hml, hret, hown, hts, hlk, hnm, hKn, hd1, hd2, hRc, hRs⟩ := C0
  subst hp; subst hn
  obtain ⟨hsi, hst⟩ := List.forall_mem_cons.mp hst
  have hsi : in32 (n : Int) := hsi
  refine va_newaK (atype := .int) (n := Int32.ofInt (n : Int)) (N := n) hx hb (hts _ hw) rfl hd rfl (fun z => by rw [show (0 : Int32) = Int32.ofInt 0 from rfl, i32_lt hsi i32_0] at z; omega) (by rw [i32_nat hsi]; omega) (by show n * _ ≤ _; have : componentBytes (newarray.typeOf .int) = 4 := rfl; rw [this]; omega) (by rw [hRc]; omega) (by rw [hRs]; omega) rfl fun H1 cA e1 z1 o1 hAr hNm => ?_
  have hcA : cA = gC G 0 := by
    have := (hKn.1.2 0 _ rfl).2
    exact Option.some.inj (hNm.symm.trans this)
  subst hcA
  have hN : (gH G).size ≤ H.size := hR.2.2.2.2.1
  have hfr := hR.fresh
  have hR' : Rl G (hsI h H.size (n, fun _ => 0)) H1 := by
    refine hR.put (a := H.size) (k := 1) ab_atI (fun x hx => absurd hx (ab_new_at hfr x)) (ab_rgI hR.2.2.1 ⟨by show n < _; omega, fun j => i32_0⟩) ⟨rfl, rfl, rfl⟩ hN ?_ (by omega) (fun q hq _ => o1 q hq)
    show H1[H.size]? = some (vp_cell _ _)
    rw [e1, vp_cell_i]
    rfl
  exact k H.size hfr l G p e R s m args below meth c H1 _ (cells + 1) (slots + n) lsr C hL (List.forall_mem_cons.mpr ⟨trivial, hst⟩) hls hR' hlo (by omega) (by omega)
theorem rr_newJ {d : Nat} {md : AbM} {bc bs pc pc' : Nat} {ls : List (Option AbV)} {st : List AbV} {h : AbH} {K : Option AbV → AbH → Prop} {bc' bs' n : Nat} {a : Int} (hd : decode (mC md) pc = .ok (.newarray .long, 2)) (hp : pc + 2 = pc') (hw : Cond.arrayClass .long ∈ lwW) (hn : a = (n : Int)) (hn2 : n ≤ 10000) (hbc1 : bc' + 1 ≤ bc) (hbs1 : bs' + n ≤ bs) (k : ∀ q, ab_new h q → Vx d md bc' bs' pc' ls (vR (some q) :: st) (hsJ h q (n, fun _ => 0)) K) : Vx d md bc bs pc ls (vI a :: st) h K := by
  intro l G p e R s m args below meth c H locs cells slots lsr C hL hst hls hR hlo hbc hbs
  have C0 := C
  obtain ⟨hx, hb, hml, hret, hown, hts, hlk, hnm, hKn, hd1, hd2, hRc, hRs⟩ := C0
  subst hp; subst hn
  obtain ⟨hsi, hst⟩ := List.forall_mem_cons.mp hst
  have hsi : in32 (n : Int) := hsi
  refine va_newaK (atype := .long) (n := Int32.ofInt (n : Int)) (N := n) hx hb (hts _ hw) rfl hd rfl (fun z => by rw [show (0 : Int32) = Int32.ofInt 0 from rfl, i32_lt hsi i32_0] at z; omega) (by rw [i32_nat hsi]; omega) (by show n * _ ≤ _; have : componentBytes (newarray.typeOf .long) = 8 := rfl; rw [this]; omega) (by rw [hRc]; omega) (by rw [hRs]; omega) rfl fun H1 cA e1 z1 o1 hAr hNm => ?_
  have hcA : cA = gC G 1 := by
    have := (hKn.1.2 1 _ rfl).2
    exact Option.some.inj (hNm.symm.trans this)
  subst hcA
  have hN : (gH G).size ≤ H.size := hR.2.2.2.2.1
  have hfr := hR.fresh
  have hR' : Rl G (hsJ h H.size (n, fun _ => 0)) H1 := by
    refine hR.put (a := H.size) (k := 2) ab_atJ (fun x hx => absurd hx (ab_new_at hfr x)) (ab_rgJ hR.2.2.1 ⟨by show n < _; omega, fun j => i64_of i32_0⟩) ⟨rfl, rfl, rfl⟩ hN ?_ (by omega) (fun q hq _ => o1 q hq)
    show H1[H.size]? = some (vp_cell _ _)
    rw [e1, vp_cell_l]
    rfl
  exact k H.size hfr l G p e R s m args below meth c H1 _ (cells + 1) (slots + n) lsr C hL (List.forall_mem_cons.mpr ⟨trivial, hst⟩) hls hR' hlo (by omega) (by omega)
theorem rr_newZ {d : Nat} {md : AbM} {bc bs pc pc' : Nat} {ls : List (Option AbV)} {st : List AbV} {h : AbH} {K : Option AbV → AbH → Prop} {bc' bs' n : Nat} {a : Int} (hd : decode (mC md) pc = .ok (.newarray .boolean, 2)) (hp : pc + 2 = pc') (hw : Cond.arrayClass .boolean ∈ lwW) (hn : a = (n : Int)) (hn2 : n ≤ 10000) (hbc1 : bc' + 1 ≤ bc) (hbs1 : bs' + n ≤ bs) (k : ∀ q, ab_new h q → Vx d md bc' bs' pc' ls (vR (some q) :: st) (hsZ h q (n, fun _ => 0)) K) : Vx d md bc bs pc ls (vI a :: st) h K := by
  intro l G p e R s m args below meth c H locs cells slots lsr C hL hst hls hR hlo hbc hbs
  have C0 := C
  obtain ⟨hx, hb, hml, hret, hown, hts, hlk, hnm, hKn, hd1, hd2, hRc, hRs⟩ := C0
  subst hp; subst hn
  obtain ⟨hsi, hst⟩ := List.forall_mem_cons.mp hst
  have hsi : in32 (n : Int) := hsi
  refine va_newaK (atype := .boolean) (n := Int32.ofInt (n : Int)) (N := n) hx hb (hts _ hw) rfl hd rfl (fun z => by rw [show (0 : Int32) = Int32.ofInt 0 from rfl, i32_lt hsi i32_0] at z; omega) (by rw [i32_nat hsi]; omega) (by show n * _ ≤ _; have : componentBytes (newarray.typeOf .boolean) = 1 := rfl; rw [this]; omega) (by rw [hRc]; omega) (by rw [hRs]; omega) rfl fun H1 cA e1 z1 o1 hAr hNm => ?_
  have hcA : cA = gC G 2 := by
    have := (hKn.1.2 2 _ rfl).2
    exact Option.some.inj (hNm.symm.trans this)
  subst hcA
  have hN : (gH G).size ≤ H.size := hR.2.2.2.2.1
  have hfr := hR.fresh
  have hR' : Rl G (hsZ h H.size (n, fun _ => 0)) H1 := by
    refine hR.put (a := H.size) (k := 3) ab_atZ (fun x hx => absurd hx (ab_new_at hfr x)) (ab_rgZ hR.2.2.1 ⟨by show n < _; omega, fun j => Or.inl rfl⟩) ⟨rfl, rfl, rfl⟩ hN ?_ (by omega) (fun q hq _ => o1 q hq)
    show H1[H.size]? = some (vp_cell _ _)
    rw [e1, vp_cell_i]
    rfl
  exact k H.size hfr l G p e R s m args below meth c H1 _ (cells + 1) (slots + n) lsr C hL (List.forall_mem_cons.mpr ⟨trivial, hst⟩) hls hR' hlo (by omega) (by omega)
theorem ab_ao {G : AbG} {s : State} (h : Kn G s) {k : Nat} (hk : k = 0 ∨ k = 2 ∨ k = 7) : va_AO (ab_tc k) s := by
  rcases hk with rfl | rfl | rfl
  · exact h.2.2.1.1
  · exact h.2.2.1.2.1
  · exact h.2.2.1.2.2
theorem rr_newR {d : Nat} {md : AbM} {bc bs pc pc' : Nat} {ls : List (Option AbV)} {st : List AbV} {h : AbH} {K : Option AbV → AbH → Prop} {bc' bs' n i : Nat} {a : Int} (k0 : Nat) (hk0 : k0 = 0 ∨ k0 = 2 ∨ k0 = 7) (hd : decode (mC md) pc = .ok (.anewarray i, 3)) (hp : pc + 3 = pc') (hw : Cond.classLink (mY md).cls i (ab_tc k0) ∈ lwW) (hn : a = (n : Int)) (hn2 : n ≤ 10000) (hbc1 : bc' + 1 ≤ bc) (hbs1 : bs' + n ≤ bs) (k : ∀ q, ab_new h q → Vx d md bc' bs' pc' ls (vR (some q) :: st) (hsR h q (k0, n, fun _ => none)) K) : Vx d md bc bs pc ls (vI a :: st) h K := by
  intro l G p e R s m args below meth c H locs cells slots lsr C hL hst hls hR hlo hbc hbs
  have C0 := C
  obtain ⟨hx, hb, hml, hret, hown, hts, hlk, hnm, hKn, hd1, hd2, hRc, hRs⟩ := C0
  subst hp; subst hn
  obtain ⟨hsi, hst⟩ := List.forall_mem_cons.mp hst
  have hsi : in32 (n : Int) := hsi
  have hcl : (Int32.ofInt (n : Int)).toNatClampNeg = n := by rw [i32_nat hsi]; omega
  refine W.anew (n := Int32.ofInt (n : Int)) hx hb hown (hts _ hw) (va_AO.use (ab_ao hKn hk0)) rfl hd rfl (fun z => by rw [show (0 : Int32) = Int32.ofInt 0 from rfl, i32_lt hsi i32_0] at z; omega) (by rw [hcl]; omega) (by rw [hRc]; omega) (by rw [hRs, hcl]; omega) fun cA kA comp f1 f2 f3 f4 => ?_
  rw [hcl]
  obtain ⟨t0, ht0⟩ := ab_tys_r (G := G) hk0
  have hcA : cA = gC G (3 + k0) := by
    obtain ⟨_, _, _, _, _, g4⟩ := (hKn.1.2 t0 _ ht0).2
    exact Option.some.inj (f1.symm.trans g4)
  subst hcA
  have hN : (gH G).size ≤ H.size := hR.2.2.2.2.1
  have hfr := hR.fresh
  generalize hH1 : H.push ({ cls := gC G (3 + k0), slots := Array.replicate n .null, vm := .none } : Cell) = H1
  have z1 : H1.size = H.size + 1 := by rw [← hH1, Array.size_push]
  have e1 : H1[H.size]? = some (arrV (gC G (3 + k0)) n (fun _ => .null)) := by rw [← hH1, Array.getElem?_push_size, ← arrV_new]
  have o1 : ∀ q : Nat, q < H.size → H1[q]? = H[q]? := fun q hq => by rw [← hH1, Array.getElem?_push, if_neg (Nat.ne_of_lt hq)]
  have hR' : Rl G (hsR h H.size (k0, n, fun _ => none)) H1 := by
    refine hR.put (a := H.size) (k := 4) ab_atR (fun x hx => absurd hx (ab_new_at hfr x)) (ab_rgR hR.2.2.1 ⟨by show n < _; omega, hk0⟩) ⟨rfl, rfl, rfl⟩ hN ?_ (by omega) (fun q hq _ => o1 q hq)
    show H1[H.size]? = some (vp_cell _ _)
    rw [e1, vp_cell_q]
    rfl
  exact k H.size hfr l G p e R s m args below meth c H1 _ (cells + 1) (slots + n) lsr C hL (List.forall_mem_cons.mpr ⟨trivial, hst⟩) hls hR' hlo (by omega) (by omega)
theorem PcV.blind {G : AbG} {av : List AbV} {h : AbH} : FrameBlind (PcV G av h) := fun a U g mk q => ⟨q.1, q.2.1, q.2.2.1, Kn.same (s := U) (U := U.calling g mk a) rfl q.2.2.2⟩
theorem ab_good {md : AbM} (hc : Cond.code (mY md) (mC md) (mL md) (mR md) ∈ lwW) : GoodIn lwW (wsOf md) := by
  have h0 : ∀ w ∈ lwW, w ∈ lwW ∧ ((w.onTables && w.keeps) = true ∨ ∃ ty, w = .arrayClass ty) := fun w hw => ⟨hw, good_of_word (List.mem_filter.mp hw).2⟩
  intro w hw
  rcases List.mem_cons.mp hw with z | z
  · rw [z]; exact h0 _ hc
  · exact h0 w z
def ab_cs (st : List AbV) : Nat := (st.map fun v => (ab_cv v).category).sum
/-- what the tables say of a method, whoever calls it -/
def MdF (md : AbM) (n : Nat) : Prop := Cond.code (mY md) (mC md) (mL md) (mR md) ∈ lwW ∧ Cond.initialized (mY md).cls ∈ lwW ∧ ((mY md).cls ≠ "java/lang/invoke/MethodHandle" ∧ (mY md).cls ≠ "java/lang/invoke/VarHandle" ∧ (parseMethodDescriptor (mY md).desc).map (fun d => d.parameters.length) = some n) ∧ mL md ≤ 30
theorem rr_callS {d : Nat} {md : AbM} {bc bs pc pc' : Nat} {ls : List (Option AbV)} {st : List AbV} {h : AbH} {K : Option AbV → AbH → Prop} {md' : AbM} {av : List AbV} {bc' bs' i n : Nat} {K0 : Option AbV → AbH → Prop} (mf : MdF md' n) (hd : decode (mC md) pc = .ok (.invokestatic i, 3)) (hp : pc + 3 = pc') (hw : Cond.methodLink (mY md).cls i (mY md') ∈ lwW) (hst1 : Cond.static (mY md') ∈ lwW) (hlen : av.length = n) (hcs : ab_cs st ≤ 8) (hbc1 : bc' + mN md' ≤ bc) (hbs1 : bs' + mS md' ≤ bs) (hh : Vm d md' av h K0) (hK : ∀ r h', K0 r h' → Vx (d + 1) md bc' bs' pc' ls (r.toList ++ st) h' K) : Vx (d + 1) md bc bs pc ls (av.reverse ++ st) h K := by
  intro l G p e R s m args below meth c H locs cells slots lsr C9 hL hst hls hR hlo hbc hbs
  have C0 := C9
  obtain ⟨hx, hb, hml, hret, hown, hts, hlk, hnm, hKn, hd1, hd2, hRc, hRs⟩ := C0
  subst hp
  obtain ⟨mf1, mf2, mf3, mf4⟩ := mf
  have hav : ∀ a ∈ av, ab_ok a := fun a ha => hst a (List.mem_append_left _ (List.mem_reverse.mpr ha))
  have hst : ∀ w ∈ st, ab_ok w := fun w hw => hst w (List.mem_append_right _ hw)
  have hrun := va_runS (H := H) (locs := locs) (cells := cells) (slots := slots) (e := e) (below := below) (meth := meth) (R := R) (As := av.map ab_cv) (rest := st.map ab_cv) (g := F0 m pc lsr ((av.reverse ++ st).map ab_cv)) (n := n) ⟨hx, hb, hml, hown, hts⟩ (hh l G) ⟨callB_of n hts (ab_good mf1) rfl rfl rfl (hts _ mf2) (hts _ hw) mf3 ⟨by show d + 1 ≤ R.frames; omega, by show 8 + (mL md' + 11) + 64 * d ≤ R.locals; omega⟩, hts _ hst1⟩ ⟨PcV.blind, fun U hU hW => ⟨rfl, hav, by rw [hU]; exact hR, hKn.warm hW⟩⟩ rfl (by rw [List.length_map]; exact hlen) hL.1 (by show (av.reverse ++ st).map ab_cv = _; rw [List.map_append, List.map_reverse]) (lv_room (by rw [List.map_map]; exact hcs)) hd ⟨by rw [hRc]; omega, by rw [hRs]; omega⟩
  intro T hT X
  obtain ⟨v, st₀, t, T', L, h0, X', hLf, e1, e2, ⟨r, h', hr, hrok, hR2, hK0⟩, stp⟩ := hrun T hT X
  cases hr
  have hR3 : Rl G h' T'.heap := by rw [e1]; exact hR2
  have hok2 : ∀ w ∈ r.toList ++ st, ab_ok w := fun w hw => by
    rcases List.mem_append.mp hw with z | z
    · cases r with
      | none => cases z
      | some a => exact hrok w (by rw [Option.toList_some, List.mem_singleton] at z; rw [z])
    · exact hst w z
  have hW := hK r h' hK0 l G p e R s m args below meth c T'.heap (locs ++ L) (cells + mN md') (slots + mS md') lsr C9 hL hok2 hls hR3 (fun x hx => by
    rcases List.mem_append.mp hx with z | z
    · exact hlo x z
    · exact hLf x z) (by omega) (by omega)
  obtain ⟨t2, a1, b1⟩ := hW T' rfl X'
  refine ⟨t2, stp t2 ?_, b1⟩
  have es : (r.map ab_cv).toList ++ st.map ab_cv = (r.toList ++ st).map ab_cv := by cases r <;> simp
  rw [es]
  exact a1
theorem rr_callV {d : Nat} {md : AbM} {bc bs pc pc' : Nat} {ls : List (Option AbV)} {st : List AbV} {h : AbH} {K : Option AbV → AbH → Prop} {md' : AbM} {av : List AbV} {bc' bs' i n : Nat} {K0 : Option AbV → AbH → Prop} {b ci : Nat} {fs : List AbV} (mf : MdF md' n) (hd : decode (mC md) pc = .ok (.invokevirtual i, 3)) (hp : pc + 3 = pc') (hw : Cond.methodLink (mY md).cls i (mY md') ∈ lwW) (hin : Cond.instanceMethod (mY md') ∈ lwW) (hse : Cond.selects (mY md').cls (mY md') (mY md') ∈ lwW) (hci : ∃ T N, vwCl[ci]? = some ((mY md').cls, T, N)) (hob : hpO h b = some (ci, fs)) (hlen : av.length = n) (hcs : ab_cs st ≤ 8) (hbc1 : bc' + mN md' ≤ bc) (hbs1 : bs' + mS md' ≤ bs) (hh : Vm d md' (vR (some b) :: av) h K0) (hK : ∀ r h', K0 r h' → Vx (d + 1) md bc' bs' pc' ls (r.toList ++ st) h' K) : Vx (d + 1) md bc bs pc ls (av.reverse ++ vR (some b) :: st) h K := by
  intro l G p e R s m args below meth c H locs cells slots lsr C9 hL hst hls hR hlo hbc hbs
  have C0 := C9
  obtain ⟨hx, hb, hml, hret, hown, hts, hlk, hnm, hKn, hd1, hd2, hRc, hRs⟩ := C0
  subst hp
  obtain ⟨mf1, mf2, mf3, mf4⟩ := mf
  obtain ⟨T0, N0, hci⟩ := hci
  have hav : ∀ a ∈ vR (some b) :: av, ab_ok a := List.forall_mem_cons.mpr ⟨trivial, fun a ha => hst a (List.mem_append_left _ (List.mem_reverse.mpr ha))⟩
  have hst : ∀ w ∈ st, ab_ok w := fun w hw => hst w (List.mem_append_right _ (List.mem_cons_of_mem _ hw))
  have hrun := va_runV (H := H) (locs := locs) (cells := cells) (slots := slots) (e := e) (below := below) (meth := meth) (R := R) (b := b) (C := (mY md').cls) (As := av.map ab_cv) (rest := st.map ab_cv) (g := F0 m pc lsr ((av.reverse ++ vR (some b) :: st).map ab_cv)) (n := n) ⟨hx, hb, hml, hown, hts⟩ (hh l G) ⟨callB_of n hts (ab_good mf1) rfl rfl rfl (hts _ mf2) (hts _ hw) mf3 ⟨by show d + 1 ≤ R.frames; omega, by show 8 + (mL md' + 11) + 64 * d ≤ R.locals; omega⟩, hts _ hin, hts _ hse⟩ ⟨PcV.blind, va_recv hKn.1 (hR.PO hob) (q0 := 0) hci rfl, fun U hU hW => ⟨rfl, hav, by rw [hU]; exact hR, hKn.warm hW⟩⟩ rfl (by rw [List.length_map]; exact hlen) hL.1 (by show (av.reverse ++ vR (some b) :: st).map ab_cv = _; rw [List.map_append, List.map_reverse]; rfl) (lv_room (by rw [List.map_map]; exact hcs)) hd ⟨by rw [hRc]; omega, by rw [hRs]; omega⟩
  intro T hT X
  obtain ⟨v, st₀, t, T', L, h0, X', hLf, e1, e2, ⟨r, h', hr, hrok, hR2, hK0⟩, stp⟩ := hrun T hT X
  cases hr
  have hR3 : Rl G h' T'.heap := by rw [e1]; exact hR2
  have hok2 : ∀ w ∈ r.toList ++ st, ab_ok w := fun w hw => by
    rcases List.mem_append.mp hw with z | z
    · cases r with
      | none => cases z
      | some a => exact hrok w (by rw [Option.toList_some, List.mem_singleton] at z; rw [z])
    · exact hst w z
  have hW := hK r h' hK0 l G p e R s m args below meth c T'.heap (locs ++ L) (cells + mN md') (slots + mS md') lsr C9 hL hok2 hls hR3 (fun x hx => by
    rcases List.mem_append.mp hx with z | z
    · exact hlo x z
    · exact hLf x z) (by omega) (by omega)
  obtain ⟨t2, a1, b1⟩ := hW T' rfl X'
  refine ⟨t2, stp t2 ?_, b1⟩
  have es : (r.map ab_cv).toList ++ st.map ab_cv = (r.toList ++ st).map ab_cv := by cases r <;> simp
  rw [es]
  exact a1
theorem rr_callI {d : Nat} {md : AbM} {bc bs pc pc' : Nat} {ls : List (Option AbV)} {st : List AbV} {h : AbH} {K : Option AbV → AbH → Prop} {md' : AbM} {av : List AbV} {bc' bs' i n : Nat} {K0 : Option AbV → AbH → Prop} {b : Nat} (mf : MdF md' n) (hy1 : (mY md').name = "<init>") (hr0 : mR md' = none) (hd : decode (mC md) pc = .ok (.invokespecial i, 3)) (hp : pc + 3 = pc') (hw : Cond.methodLink (mY md).cls i (mY md') ∈ lwW) (hin : Cond.instanceMethod (mY md') ∈ lwW) (hlen : av.length = n) (hcs : ab_cs st ≤ 8) (hbc1 : bc' + mN md' ≤ bc) (hbs1 : bs' + mS md' ≤ bs) (hh : Vm d md' (vR (some b) :: av) h K0) (hK : ∀ r h', K0 r h' → Vx (d + 1) md bc' bs' pc' ls (r.toList ++ st) h' K) : Vx (d + 1) md bc bs pc ls (av.reverse ++ vR (some b) :: st) h K := by
  intro l G p e R s m args below meth c H locs cells slots lsr C9 hL hst hls hR hlo hbc hbs
  have C0 := C9
  obtain ⟨hx, hb, hml, hret, hown, hts, hlk, hnm, hKn, hd1, hd2, hRc, hRs⟩ := C0
  subst hp
  obtain ⟨mf1, mf2, mf3, mf4⟩ := mf
  have hav : ∀ a ∈ vR (some b) :: av, ab_ok a := List.forall_mem_cons.mpr ⟨trivial, fun a ha => hst a (List.mem_append_left _ (List.mem_reverse.mpr ha))⟩
  have hst : ∀ w ∈ st, ab_ok w := fun w hw => hst w (List.mem_append_right _ (List.mem_cons_of_mem _ hw))
  have hrun := va_runI (H := H) (locs := locs) (cells := cells) (slots := slots) (e := e) (below := below) (meth := meth) (R := R) (b := b) (As := av.map ab_cv) (rest := st.map ab_cv) (g := F0 m pc lsr ((av.reverse ++ vR (some b) :: st).map ab_cv)) (n := n) ⟨hx, hb, hml, hown, hts⟩ (hh l G) ⟨callB_of n hts (ab_good mf1) (show wsOf md' = Cond.code (mY md') (mC md') (mL md') none :: lwW by rw [← hr0]; rfl) rfl rfl (hts _ mf2) (hts _ hw) mf3 ⟨by show d + 1 ≤ R.frames; omega, by show 8 + (mL md' + 11) + 64 * d ≤ R.locals; omega⟩, hy1, hts _ hin⟩ ⟨PcV.blind, fun U hU hW => ⟨rfl, hav, by rw [hU]; exact hR, hKn.warm hW⟩⟩ rfl (by rw [List.length_map]; exact hlen) hL.1 (by show (av.reverse ++ vR (some b) :: st).map ab_cv = _; rw [List.map_append, List.map_reverse]; rfl) (lv_room (by rw [List.map_map]; exact hcs)) hd ⟨by rw [hRc]; omega, by rw [hRs]; omega⟩
  intro T hT X
  obtain ⟨v, st₀, t, T', L, h0, X', hLf, e1, e2, ⟨r, h', hr, hrok, hR2, hK0⟩, stp⟩ := hrun T hT X
  cases hr
  have hR3 : Rl G h' T'.heap := by rw [e1]; exact hR2
  have hok2 : ∀ w ∈ r.toList ++ st, ab_ok w := fun w hw => by
    rcases List.mem_append.mp hw with z | z
    · cases r with
      | none => cases z
      | some a => exact hrok w (by rw [Option.toList_some, List.mem_singleton] at z; rw [z])
    · exact hst w z
  have hW := hK r h' hK0 l G p e R s m args below meth c T'.heap (locs ++ L) (cells + mN md') (slots + mS md') lsr C9 hL hok2 hls hR3 (fun x hx => by
    rcases List.mem_append.mp hx with z | z
    · exact hlo x z
    · exact hLf x z) (by omega) (by omega)
  obtain ⟨t2, a1, b1⟩ := hW T' rfl X'
  refine ⟨t2, stp t2 ?_, b1⟩
  have es : (r.map ab_cv).toList ++ st.map ab_cv = (r.toList ++ st).map ab_cv := by cases r <;> simp
  rw [es]
  exact a1
theorem rr_callSN {d : Nat} {md : AbM} {bc bs pc pc' : Nat} {ls : List (Option AbV)} {st : List AbV} {h : AbH} {K : Option AbV → AbH → Prop} {md' : AbM} {av : List AbV} {bc' bs' i n : Nat} {K0 : Option AbV → AbH → Prop} {host : String} (mf : MdF md' n) (hd : decode (mC md) pc = .ok (.invokestatic i, 3)) (hp : pc + 3 = pc') (hw : ((mY md).cls, i, mY md', host) ∈ ab_nest) (hst1 : Cond.static (mY md') ∈ lwW) (hlen : av.length = n) (hcs : ab_cs st ≤ 8) (hbc1 : bc' + mN md' ≤ bc) (hbs1 : bs' + mS md' ≤ bs) (hh : Vm d md' av h K0) (hK : ∀ r h', K0 r h' → Vx (d + 1) md bc' bs' pc' ls (r.toList ++ st) h' K) : Vx (d + 1) md bc bs pc ls (av.reverse ++ st) h K := by
  intro l G p e R s m args below meth c H locs cells slots lsr C9 hL hst hls hR hlo hbc hbs
  have C0 := C9
  obtain ⟨hx, hb, hml, hret, hown, hts, hlk, hnm, hKn, hd1, hd2, hRc, hRs⟩ := C0
  subst hp
  obtain ⟨mf1, mf2, mf3, mf4⟩ := mf
  have hav : ∀ a ∈ av, ab_ok a := fun a ha => hst a (List.mem_append_left _ (List.mem_reverse.mpr ha))
  have hst : ∀ w ∈ st, ab_ok w := fun w hw => hst w (List.mem_append_right _ hw)
  have hrun := va_runSN (H := H) (locs := locs) (cells := cells) (slots := slots) (e := e) (below := below) (meth := meth) (R := R) (As := av.map ab_cv) (rest := st.map ab_cv) (g := F0 m pc lsr ((av.reverse ++ st).map ab_cv)) (n := n) ⟨hx, hb, hml, hown, hts⟩ (hh l G) ⟨va_cnB n hts (ab_good mf1) rfl rfl rfl (hKn.2.1 _ hw) (hts _ mf2) mf3 ⟨by show d + 1 ≤ R.frames; omega, by show 8 + (mL md' + 11) + 64 * d ≤ R.locals; omega⟩, hts _ hst1, trivial⟩ ⟨PcV.blind, fun U hU hW => ⟨rfl, hav, by rw [hU]; exact hR, hKn.warm hW⟩⟩ rfl (by rw [List.length_map]; exact hlen) hL.1 (by show (av.reverse ++ st).map ab_cv = _; rw [List.map_append, List.map_reverse]) (lv_room (by rw [List.map_map]; exact hcs)) hd ⟨by rw [hRc]; omega, by rw [hRs]; omega⟩
  intro T hT X
  obtain ⟨v, st₀, t, T', L, h0, X', hLf, e1, e2, ⟨r, h', hr, hrok, hR2, hK0⟩, stp⟩ := hrun T hT X
  cases hr
  have hR3 : Rl G h' T'.heap := by rw [e1]; exact hR2
  have hok2 : ∀ w ∈ r.toList ++ st, ab_ok w := fun w hw => by
    rcases List.mem_append.mp hw with z | z
    · cases r with
      | none => cases z
      | some a => exact hrok w (by rw [Option.toList_some, List.mem_singleton] at z; rw [z])
    · exact hst w z
  have hW := hK r h' hK0 l G p e R s m args below meth c T'.heap (locs ++ L) (cells + mN md') (slots + mS md') lsr C9 hL hok2 hls hR3 (fun x hx => by
    rcases List.mem_append.mp hx with z | z
    · exact hlo x z
    · exact hLf x z) (by omega) (by omega)
  obtain ⟨t2, a1, b1⟩ := hW T' rfl X'
  refine ⟨t2, stp t2 ?_, b1⟩
  have es : (r.map ab_cv).toList ++ st.map ab_cv = (r.toList ++ st).map ab_cv := by cases r <;> simp
  rw [es]
  exact a1
theorem rr_callIN {d : Nat} {md : AbM} {bc bs pc pc' : Nat} {ls : List (Option AbV)} {st : List AbV} {h : AbH} {K : Option AbV → AbH → Prop} {md' : AbM} {av : List AbV} {bc' bs' i n : Nat} {K0 : Option AbV → AbH → Prop} {b : Nat} {host : String} (mf : MdF md' n) (hy1 : (mY md').name = "<init>") (hr0 : mR md' = none) (hd : decode (mC md) pc = .ok (.invokespecial i, 3)) (hp : pc + 3 = pc') (hw : ((mY md).cls, i, mY md', host) ∈ ab_nest) (hin : Cond.instanceMethod (mY md') ∈ lwW) (hlen : av.length = n) (hcs : ab_cs st ≤ 8) (hbc1 : bc' + mN md' ≤ bc) (hbs1 : bs' + mS md' ≤ bs) (hh : Vm d md' (vR (some b) :: av) h K0) (hK : ∀ r h', K0 r h' → Vx (d + 1) md bc' bs' pc' ls (r.toList ++ st) h' K) : Vx (d + 1) md bc bs pc ls (av.reverse ++ vR (some b) :: st) h K := by
  intro l G p e R s m args below meth c H locs cells slots lsr C9 hL hst hls hR hlo hbc hbs
  have C0 := C9
  obtain ⟨hx, hb, hml, hret, hown, hts, hlk, hnm, hKn, hd1, hd2, hRc, hRs⟩ := C0
  subst hp
  obtain ⟨mf1, mf2, mf3, mf4⟩ := mf
  have hav : ∀ a ∈ vR (some b) :: av, ab_ok a := List.forall_mem_cons.mpr ⟨trivial, fun a ha => hst a (List.mem_append_left _ (List.mem_reverse.mpr ha))⟩
  have hst : ∀ w ∈ st, ab_ok w := fun w hw => hst w (List.mem_append_right _ (List.mem_cons_of_mem _ hw))
  have hrun := va_runIN (H := H) (locs := locs) (cells := cells) (slots := slots) (e := e) (below := below) (meth := meth) (R := R) (b := b) (As := av.map ab_cv) (rest := st.map ab_cv) (g := F0 m pc lsr ((av.reverse ++ vR (some b) :: st).map ab_cv)) (n := n) ⟨hx, hb, hml, hown, hts⟩ (hh l G) ⟨va_cnB n hts (ab_good mf1) (show wsOf md' = Cond.code (mY md') (mC md') (mL md') none :: lwW by rw [← hr0]; rfl) rfl rfl (hKn.2.1 _ hw) (hts _ mf2) mf3 ⟨by show d + 1 ≤ R.frames; omega, by show 8 + (mL md' + 11) + 64 * d ≤ R.locals; omega⟩, hy1, hts _ hin⟩ ⟨PcV.blind, fun U hU hW => ⟨rfl, hav, by rw [hU]; exact hR, hKn.warm hW⟩⟩ rfl (by rw [List.length_map]; exact hlen) hL.1 (by show (av.reverse ++ vR (some b) :: st).map ab_cv = _; rw [List.map_append, List.map_reverse]; rfl) (lv_room (by rw [List.map_map]; exact hcs)) hd ⟨by rw [hRc]; omega, by rw [hRs]; omega⟩
  intro T hT X
  obtain ⟨v, st₀, t, T', L, h0, X', hLf, e1, e2, ⟨r, h', hr, hrok, hR2, hK0⟩, stp⟩ := hrun T hT X
  cases hr
  have hR3 : Rl G h' T'.heap := by rw [e1]; exact hR2
  have hok2 : ∀ w ∈ r.toList ++ st, ab_ok w := fun w hw => by
    rcases List.mem_append.mp hw with z | z
    · cases r with
      | none => cases z
      | some a => exact hrok w (by rw [Option.toList_some, List.mem_singleton] at z; rw [z])
    · exact hst w z
  have hW := hK r h' hK0 l G p e R s m args below meth c T'.heap (locs ++ L) (cells + mN md') (slots + mS md') lsr C9 hL hok2 hls hR3 (fun x hx => by
    rcases List.mem_append.mp hx with z | z
    · exact hlo x z
    · exact hLf x z) (by omega) (by omega)
  obtain ⟨t2, a1, b1⟩ := hW T' rfl X'
  refine ⟨t2, stp t2 ?_, b1⟩
  have es : (r.map ab_cv).toList ++ st.map ab_cv = (r.toList ++ st).map ab_cv := by cases r <;> simp
  rw [es]
  exact a1
theorem rr_kI {d : Nat} {md : AbM} {bc bs pc pc' : Nat} {ls : List (Option AbV)} {st : List AbV} {h : AbH} {K : Option AbV → AbH → Prop} {f : Int → AbH → Prop} (k : ∀ n h', f n h' → Vx d md bc bs pc ls (vI n :: st) h' K) : ∀ r h', kI f r h' → Vx d md bc bs pc ls (r.toList ++ st) h' K := by
  rintro r h' ⟨n, rfl, hf⟩
  exact k n h' hf
theorem rr_kL {d : Nat} {md : AbM} {bc bs pc pc' : Nat} {ls : List (Option AbV)} {st : List AbV} {h : AbH} {K : Option AbV → AbH → Prop} {f : Int → AbH → Prop} (k : ∀ n h', f n h' → Vx d md bc bs pc ls (vL n :: st) h' K) : ∀ r h', kL f r h' → Vx d md bc bs pc ls (r.toList ++ st) h' K := by
  rintro r h' ⟨n, rfl, hf⟩
  exact k n h' hf
theorem rr_kR {d : Nat} {md : AbM} {bc bs pc pc' : Nat} {ls : List (Option AbV)} {st : List AbV} {h : AbH} {K : Option AbV → AbH → Prop} {f : Option Nat → AbH → Prop} (k : ∀ n h', f n h' → Vx d md bc bs pc ls (vR n :: st) h' K) : ∀ r h', kR f r h' → Vx d md bc bs pc ls (r.toList ++ st) h' K := by
  rintro r h' ⟨n, rfl, hf⟩
  exact k n h' hf
theorem rr_kV {d : Nat} {md : AbM} {bc bs pc pc' : Nat} {ls : List (Option AbV)} {st : List AbV} {h : AbH} {K : Option AbV → AbH → Prop} {f : AbH → Prop} (k : ∀ h', f h' → Vx d md bc bs pc ls st h' K) : ∀ r h', kV f r h' → Vx d md bc bs pc ls (r.toList ++ st) h' K := by
  rintro r h' ⟨rfl, hf⟩
  exact k h' hf
theorem rr_objInit {d : Nat} {md : AbM} {bc bs pc pc' : Nat} {ls : List (Option AbV)} {st : List AbV} {h : AbH} {K : Option AbV → AbH → Prop} {i : Nat} {q : Nat} (hd : decode (mC md) pc = .ok (.invokespecial i, 3)) (hp : pc + 3 = pc') (hw : Cond.methodLink (mY md).cls i objectInit ∈ lwW) (hin : Cond.instanceMethod objectInit ∈ lwW) (hco : Cond.code objectInit ⟨#[0xb1]⟩ 1 none ∈ lwW) (hcs : ab_cs st ≤ 8) (k : Vx (d + 1) md bc bs pc' ls st h K) : Vx (d + 1) md bc bs pc ls (vR (some q) :: st) h K := by
  intro l G p e R s m args below meth c H locs cells slots lsr C hL hst hls hR hlo hbc hbs
  have C0 := C
  obtain ⟨hx, hb, hml, hret, hown, hts, hlk, hnm, hKn, hd1, hd2, hRc, hRs⟩ := C0
  subst hp
  have h8 : 2 * (F0 m pc lsr (List.map ab_cv (vR (some q) :: st))).monitorRoom + ((st.map ab_cv).map fun v => v.category).sum ≤ 8 := lv_room (by rw [List.map_map]; exact hcs)
  refine W.objInit hx hb hown (hts _ hw) (hts _ hin) (hts _ hco) rfl (hL.1.trans hml.symm) rfl hd (by omega) (by omega) ?_
  exact k l G p e R s m args below meth c H locs cells slots lsr C hL (fun w hw => hst w (List.mem_cons_of_mem _ hw)) hls hR hlo hbc hbs
theorem rr_mmin {d : Nat} {md : AbM} {bc bs pc pc' : Nat} {ls : List (Option AbV)} {st : List AbV} {h : AbH} {K : Option AbV → AbH → Prop} {i : Nat} {a b : Int} (hd : decode (mC md) pc = .ok (.invokestatic i, 3)) (hp : pc + 3 = pc') (hw : Cond.methodLink (mY md).cls i Lib.Math.min.name ∈ lwW) (hs1 : Cond.static Lib.Math.min.name ∈ lwW) (hi1 : Cond.initialized "java/lang/Math" ∈ lwW) (hco : Cond.code Lib.Math.min.name Lib.Math.min.code 2 (some .int) ∈ lwW) (hcs : ab_cs st ≤ 8) (k : Vx (d + 1) md bc bs pc' ls (vI (if b < a then b else a) :: st) h K) : Vx (d + 1) md bc bs pc ls (vI b :: vI a :: st) h K := by
  intro l G p e R s m args below meth c H locs cells slots lsr C hL hst hls hR hlo hbc hbs
  have C0 := C
  obtain ⟨hx, hb, hml, hret, hown, hts, hlk, hnm, hKn, hd1, hd2, hRc, hRs⟩ := C0
  subst hp
  obtain ⟨hsb, hst⟩ := List.forall_mem_cons.mp hst
  obtain ⟨hsa, hst⟩ := List.forall_mem_cons.mp hst
  have hsa : in32 a := hsa
  have hsb : in32 b := hsb
  have h8 : ((st.map ab_cv).map fun v => v.category).sum ≤ 8 := by rw [List.map_map]; exact hcs
  refine va_mmin hx hb (hml.trans hL.1.symm) hown (hts _ hw) (hts _ hs1) (hts _ hi1) (hts _ hco) (by omega) (by omega) (by rw [hRc]; omega) (by rw [hRs]; omega) hd ?_
  have e1 : (if Int32.ofInt b < Int32.ofInt a then Int32.ofInt b else Int32.ofInt a) = Int32.ofInt (if b < a then b else a) := by
    by_cases z : b < a
    · rw [if_pos ((i32_lt hsb hsa).mpr z), if_pos z]
    · rw [if_neg (fun y => z ((i32_lt hsb hsa).mp y)), if_neg z]
  rw [e1]
  exact k l G p e R s m args below meth c H locs cells slots lsr C hL (List.forall_mem_cons.mpr ⟨by show in32 _; split <;> assumption, hst⟩) hls hR hlo hbc hbs
theorem rr_mmax {d : Nat} {md : AbM} {bc bs pc pc' : Nat} {ls : List (Option AbV)} {st : List AbV} {h : AbH} {K : Option AbV → AbH → Prop} {i : Nat} {a b : Int} (hd : decode (mC md) pc = .ok (.invokestatic i, 3)) (hp : pc + 3 = pc') (hw : Cond.methodLink (mY md).cls i Lib.Math.max.name ∈ lwW) (hs1 : Cond.static Lib.Math.max.name ∈ lwW) (hi1 : Cond.initialized "java/lang/Math" ∈ lwW) (hco : Cond.code Lib.Math.max.name Lib.Math.max.code 2 (some .int) ∈ lwW) (hcs : ab_cs st ≤ 8) (k : Vx (d + 1) md bc bs pc' ls (vI (if a < b then b else a) :: st) h K) : Vx (d + 1) md bc bs pc ls (vI b :: vI a :: st) h K := by
  intro l G p e R s m args below meth c H locs cells slots lsr C hL hst hls hR hlo hbc hbs
  have C0 := C
  obtain ⟨hx, hb, hml, hret, hown, hts, hlk, hnm, hKn, hd1, hd2, hRc, hRs⟩ := C0
  subst hp
  obtain ⟨hsb, hst⟩ := List.forall_mem_cons.mp hst
  obtain ⟨hsa, hst⟩ := List.forall_mem_cons.mp hst
  have hsa : in32 a := hsa
  have hsb : in32 b := hsb
  have h8 : ((st.map ab_cv).map fun v => v.category).sum ≤ 8 := by rw [List.map_map]; exact hcs
  refine va_mmax hx hb (hml.trans hL.1.symm) hown (hts _ hw) (hts _ hs1) (hts _ hi1) (hts _ hco) (by omega) (by omega) (by rw [hRc]; omega) (by rw [hRs]; omega) hd ?_
  have e1 : (if Int32.ofInt a < Int32.ofInt b then Int32.ofInt b else Int32.ofInt a) = Int32.ofInt (if a < b then b else a) := by
    by_cases z : a < b
    · rw [if_pos ((i32_lt hsa hsb).mpr z), if_pos z]
    · rw [if_neg (fun y => z ((i32_lt hsa hsb).mp y)), if_neg z]
  rw [e1]
  exact k l G p e R s m args below meth c H locs cells slots lsr C hL (List.forall_mem_cons.mpr ⟨by show in32 _; split <;> assumption, hst⟩) hls hR hlo hbc hbs
end
section
theorem wb_tb (n : Nat) : (lN n).toBitVec = BitVec.ofNat 64 n := rfl
theorem wb_inj {a b : Int64} (h : a.toBitVec = b.toBitVec) : a = b := Int64.toBitVec_inj.mp h
theorem wb_tn {n : Nat} (h : n < 2 ^ 64) : (lN n).toBitVec.toNat = n := by rw [wb_tb, BitVec.toNat_ofNat, Nat.mod_eq_of_lt h]
theorem wb_of (x : Int64) : ∃ n, n < 2 ^ 64 ∧ x = lN n := ⟨x.toBitVec.toNat, x.toBitVec.isLt, wb_inj (by rw [wb_tb]; simp)⟩
theorem wb_of32 (x : Int32) : ∃ n, n < 2 ^ 32 ∧ x = nI n := ⟨x.toBitVec.toNat, x.toBitVec.isLt, Int32.toBitVec_inj.mp (by show _ = BitVec.ofNat 32 _; simp)⟩
theorem wb_c : ∀ k, k < 64 → ((nI k).toInt64 &&& 63) = lN k := by decide +kernel
theorem wb_cu : ∀ k, k < 64 → ((nI k).toInt64.toUInt64 &&& Int64.toUInt64 63) = UInt64.ofNat k := by decide +kernel
theorem wb_sm : ∀ k, k < 64 → (BitVec.ofNat 64 k).smod 64 = BitVec.ofNat 64 k := by decide +kernel
theorem wb_pw {a b : Nat} (h : a ≤ b) : 2 ^ b = 2 ^ a * 2 ^ (b - a) := by rw [← Nat.pow_add]; congr 1; omega
theorem wb_lt2 {a b : Nat} (h : a < b) : 2 ^ a < 2 ^ b := Nat.pow_lt_pow_right (by decide) h
theorem wb_mod (n : Nat) : lN n = lN (n % 2 ^ 64) := wb_inj (by rw [wb_tb, wb_tb]; apply BitVec.eq_of_toNat_eq; rw [BitVec.toNat_ofNat, BitVec.toNat_ofNat, Nat.mod_mod])
theorem wb_shr {n k : Nat} (hn : n < 2 ^ 64) (hk : k < 64) : ((lN n).toUInt64 >>> ((nI k).toInt64.toUInt64 &&& Int64.toUInt64 63)).toInt64 = lN (n / 2 ^ k) := by
  rw [wb_cu k hk]
  apply wb_inj
  apply BitVec.eq_of_toNat_eq
  show ((lN n).toUInt64 >>> UInt64.ofNat k).toNat = (BitVec.ofNat 64 _).toNat
  have h1 : (UInt64.ofNat k).toNat = k := by
    show (BitVec.ofNat 64 k).toNat = k
    rw [BitVec.toNat_ofNat, Nat.mod_eq_of_lt (by omega)]
  have h2 : (lN n).toUInt64.toNat = n := wb_tn hn
  rw [UInt64.toNat_shiftRight, h1, h2, Nat.mod_eq_of_lt hk, Nat.shiftRight_eq_div_pow, BitVec.toNat_ofNat, Nat.mod_eq_of_lt (Nat.lt_of_le_of_lt (Nat.div_le_self _ _) hn)]
theorem wb_shl (n : Nat) {k : Nat} (hk : k < 64) : lN n <<< ((nI k).toInt64 &&& 63) = lN (n * 2 ^ k) := by
  rw [wb_c k hk]
  apply wb_inj
  rw [Int64.toBitVec_shiftLeft, wb_tb, wb_tb, wb_tb, wb_sm k hk]
  apply BitVec.eq_of_toNat_eq
  rw [BitVec.shiftLeft_eq', BitVec.toNat_shiftLeft, BitVec.toNat_ofNat, BitVec.toNat_ofNat, BitVec.toNat_ofNat, Nat.mod_eq_of_lt (show k < 2 ^ 64 by omega), Nat.shiftLeft_eq, Nat.mul_mod, Nat.mod_mod, ← Nat.mul_mod]
theorem wb_and {a b : Nat} (ha : a < 2 ^ 64) (hb : b < 2 ^ 64) : lN a &&& lN b = lN (a &&& b) := by
  apply wb_inj
  rw [Int64.toBitVec_and, wb_tb, wb_tb, wb_tb]
  apply BitVec.eq_of_toNat_eq
  rw [BitVec.toNat_and, BitVec.toNat_ofNat, BitVec.toNat_ofNat, BitVec.toNat_ofNat, Nat.mod_eq_of_lt ha, Nat.mod_eq_of_lt hb, Nat.mod_eq_of_lt (Nat.and_lt_two_pow _ hb)]
theorem wb_or {a b : Nat} (ha : a < 2 ^ 64) (hb : b < 2 ^ 64) : lN a ||| lN b = lN (a ||| b) := by
  apply wb_inj
  rw [Int64.toBitVec_or, wb_tb, wb_tb, wb_tb]
  apply BitVec.eq_of_toNat_eq
  rw [BitVec.toNat_or, BitVec.toNat_ofNat, BitVec.toNat_ofNat, BitVec.toNat_ofNat, Nat.mod_eq_of_lt ha, Nat.mod_eq_of_lt hb, Nat.mod_eq_of_lt (Nat.or_lt_two_pow ha hb)]
theorem wb_mask {n k : Nat} (hn : n < 2 ^ 64) (hk : k < 64) : lN n &&& lN (2 ^ k - 1) = lN (n % 2 ^ k) := by
  rw [wb_and hn (by have := wb_lt2 hk; omega), Nat.and_two_pow_sub_one_eq_mod]
theorem lx_of {a : Int} (h : 0 ≤ a) : Int64.ofInt a = lN a.toNat := by
  obtain ⟨n, rfl⟩ := Int.eq_ofNat_of_zero_le h
  rfl
theorem lx_of32 {a : Int} (h : 0 ≤ a) : Int32.ofInt a = nI a.toNat := by
  obtain ⟨n, rfl⟩ := Int.eq_ofNat_of_zero_le h
  rfl
theorem lx_nat {n : Nat} : Int64.ofInt (n : Int) = lN n := rfl
theorem lx_lt {a : Int} (h0 : 0 ≤ a) (h : in64 a) : a.toNat < 2 ^ 64 := by
  have := h.2
  omega
theorem lx_andlt {a b : Nat} (h : a < 2 ^ 63) : in64 ((a &&& b : Nat) : Int) := by
  have : a &&& b ≤ a := Nat.and_le_left
  constructor <;> omega
theorem lx_orlt {a b : Nat} (h : a < 2 ^ 63) (h2 : b < 2 ^ 63) : in64 ((a ||| b : Nat) : Int) := by
  have : a ||| b < 2 ^ 63 := Nat.or_lt_two_pow h h2
  constructor <;> omega
theorem rr_land {d : Nat} {md : AbM} {bc bs pc pc' : Nat} {ls : List (Option AbV)} {st : List AbV} {h : AbH} {K : Option AbV → AbH → Prop} {a b : Int} (hd : decode (mC md) pc = .ok (.land, 1)) (hp : pc + 1 = pc') (hr : 0 ≤ a ∧ 0 ≤ b) (k : Vx d md bc bs pc' ls (vL ((a.toNat &&& b.toNat : Nat) : Int) :: st) h K) : Vx d md bc bs pc ls (vL b :: vL a :: st) h K := by
  intro l G p e R s m args below meth c H locs cells slots lsr C hL hst hls hR hlo hbc hbs
  have C0 := C
  obtain ⟨hx, hb, hml, hret, hown, hts, hlk, hnm, hKn, hd1, hd2, hRc, hRs⟩ := C0
  subst hp
  obtain ⟨hsb, hsta⟩ := List.forall_mem_cons.mp hst
  obtain ⟨hsa, hst⟩ := List.forall_mem_cons.mp hsta
  have hsa : in64 a := hsa
  have hsb : in64 b := hsb
  have la := lx_lt hr.1 hsa
  have lb := lx_lt hr.2 hsb
  refine lv_land hx hb hd ?_
  rw [lx_of hr.1, lx_of hr.2, wb_and la lb]
  exact k l G p e R s m args below meth c H locs cells slots lsr C hL (List.forall_mem_cons.mpr ⟨lx_andlt (by have := hsa.2; omega), hst⟩) hls hR hlo hbc hbs
theorem rr_lor {d : Nat} {md : AbM} {bc bs pc pc' : Nat} {ls : List (Option AbV)} {st : List AbV} {h : AbH} {K : Option AbV → AbH → Prop} {a b : Int} (hd : decode (mC md) pc = .ok (.lor, 1)) (hp : pc + 1 = pc') (hr : 0 ≤ a ∧ 0 ≤ b) (k : Vx d md bc bs pc' ls (vL ((a.toNat ||| b.toNat : Nat) : Int) :: st) h K) : Vx d md bc bs pc ls (vL b :: vL a :: st) h K := by
  intro l G p e R s m args below meth c H locs cells slots lsr C hL hst hls hR hlo hbc hbs
  have C0 := C
  obtain ⟨hx, hb, hml, hret, hown, hts, hlk, hnm, hKn, hd1, hd2, hRc, hRs⟩ := C0
  subst hp
  obtain ⟨hsb, hsta⟩ := List.forall_mem_cons.mp hst
  obtain ⟨hsa, hst⟩ := List.forall_mem_cons.mp hsta
  have hsa : in64 a := hsa
  have hsb : in64 b := hsb
  have la := lx_lt hr.1 hsa
  have lb := lx_lt hr.2 hsb
  refine lv_lor hx hb hd ?_
  rw [lx_of hr.1, lx_of hr.2, wb_or la lb]
  exact k l G p e R s m args below meth c H locs cells slots lsr C hL (List.forall_mem_cons.mpr ⟨lx_orlt (by have := hsa.2; omega) (by have := hsb.2; omega), hst⟩) hls hR hlo hbc hbs
theorem rr_lushr {d : Nat} {md : AbM} {bc bs pc pc' : Nat} {ls : List (Option AbV)} {st : List AbV} {h : AbH} {K : Option AbV → AbH → Prop} {a b : Int} (hd : decode (mC md) pc = .ok (.lushr, 1)) (hp : pc + 1 = pc') (hr : 0 ≤ a ∧ 0 ≤ b ∧ b < 64) (k : Vx d md bc bs pc' ls (vL (a / 2 ^ b.toNat) :: st) h K) : Vx d md bc bs pc ls (vI b :: vL a :: st) h K := by
  intro l G p e R s m args below meth c H locs cells slots lsr C hL hst hls hR hlo hbc hbs
  have C0 := C
  obtain ⟨hx, hb, hml, hret, hown, hts, hlk, hnm, hKn, hd1, hd2, hRc, hRs⟩ := C0
  subst hp
  obtain ⟨hsb, hsta⟩ := List.forall_mem_cons.mp hst
  obtain ⟨hsa, hst⟩ := List.forall_mem_cons.mp hsta
  have hsa : in64 a := hsa
  have la := lx_lt hr.1 hsa
  have e2 : (2 : Int) ^ b.toNat = ((2 ^ b.toNat : Nat) : Int) := by simp
  have e1 : Int64.ofInt (a / 2 ^ b.toNat) = lN (a.toNat / 2 ^ b.toNat) := by
    obtain ⟨n, hn⟩ := Int.eq_ofNat_of_zero_le hr.1
    rw [hn, e2, ← Int.natCast_ediv]
    rfl
  have hq : in64 (a / 2 ^ b.toNat) := by
    have h1 : 0 ≤ a / 2 ^ b.toNat := Int.ediv_nonneg hr.1 (by rw [e2]; exact Int.natCast_nonneg _)
    have h2 : a / 2 ^ b.toNat ≤ a := Int.ediv_le_self _ hr.1
    have := hsa.2
    constructor <;> omega
  refine lv_lushr hx hb hd (v := Int64.ofInt (a / 2 ^ b.toNat)) ?_ ?_
  · rw [lx_of hr.1, lx_of32 hr.2.1, wb_shr la (by omega), e1]
  show W p l e R s m args below meth c H locs cells slots _ (F0 m (pc + 1) lsr ((vL (a / 2 ^ b.toNat) :: st).map ab_cv))
  exact k l G p e R s m args below meth c H locs cells slots lsr C hL (List.forall_mem_cons.mpr ⟨hq, hst⟩) hls hR hlo hbc hbs
theorem rr_lshl {d : Nat} {md : AbM} {bc bs pc pc' : Nat} {ls : List (Option AbV)} {st : List AbV} {h : AbH} {K : Option AbV → AbH → Prop} {a b : Int} (hd : decode (mC md) pc = .ok (.lshl, 1)) (hp : pc + 1 = pc') (hr : 0 ≤ a ∧ 0 ≤ b ∧ b < 64) (hq : in64 (a * 2 ^ b.toNat)) (k : Vx d md bc bs pc' ls (vL (a * 2 ^ b.toNat) :: st) h K) : Vx d md bc bs pc ls (vI b :: vL a :: st) h K := by
  intro l G p e R s m args below meth c H locs cells slots lsr C hL hst hls hR hlo hbc hbs
  have C0 := C
  obtain ⟨hx, hb, hml, hret, hown, hts, hlk, hnm, hKn, hd1, hd2, hRc, hRs⟩ := C0
  subst hp
  obtain ⟨hsb, hsta⟩ := List.forall_mem_cons.mp hst
  obtain ⟨hsa, hst⟩ := List.forall_mem_cons.mp hsta
  have e2 : (2 : Int) ^ b.toNat = ((2 ^ b.toNat : Nat) : Int) := by simp
  have e1 : Int64.ofInt (a * 2 ^ b.toNat) = lN (a.toNat * 2 ^ b.toNat) := by
    obtain ⟨n, hn⟩ := Int.eq_ofNat_of_zero_le hr.1
    rw [hn, e2, ← Int.natCast_mul]
    rfl
  refine lv_lshl hx hb hd (v := Int64.ofInt (a * 2 ^ b.toNat)) ?_ ?_
  · rw [lx_of hr.1, lx_of32 hr.2.1, wb_shl _ (by omega), e1]
  show W p l e R s m args below meth c H locs cells slots _ (F0 m (pc + 1) lsr ((vL (a * 2 ^ b.toNat) :: st).map ab_cv))
  exact k l G p e R s m args below meth c H locs cells slots lsr C hL (List.forall_mem_cons.mpr ⟨hq, hst⟩) hls hR hlo hbc hbs
theorem i32_and31 (a : Int) : Int32.ofInt a &&& Int32.ofInt 31 = Int32.ofInt (a % 32) := by
  apply Int32.toBitVec_inj.mp
  apply BitVec.eq_of_toNat_eq
  show (BitVec.ofInt 32 a &&& BitVec.ofInt 32 31).toNat = (BitVec.ofInt 32 (a % 32)).toNat
  rw [BitVec.toNat_and, BitVec.toNat_ofInt, BitVec.toNat_ofInt, BitVec.toNat_ofInt]
  have e : ((31 : Int) % ((2 ^ 32 : Nat) : Int)).toNat = 2 ^ 5 - 1 := by decide
  rw [e, Nat.and_two_pow_sub_one_eq_mod]
  omega
theorem i32_andN {a b : Int} (ha : 0 ≤ a) (hb : 0 ≤ b) (h1 : in32 a) (h2 : in32 b) : Int32.ofInt a &&& Int32.ofInt b = Int32.ofInt ((a.toNat &&& b.toNat : Nat) : Int) := by
  apply Int32.toBitVec_inj.mp
  apply BitVec.eq_of_toNat_eq
  show (BitVec.ofInt 32 a &&& BitVec.ofInt 32 b).toNat = (BitVec.ofInt 32 _).toNat
  rw [BitVec.toNat_and, BitVec.toNat_ofInt, BitVec.toNat_ofInt, BitVec.toNat_ofInt]
  have q1 : a.toNat &&& b.toNat ≤ a.toNat := Nat.and_le_left
  have := h1.2
  have := h2.2
  rw [show (a % ((2 ^ 32 : Nat) : Int)).toNat = a.toNat by omega, show (b % ((2 ^ 32 : Nat) : Int)).toNat = b.toNat by omega]
  omega
theorem rr_iand31 {d : Nat} {md : AbM} {bc bs pc pc' : Nat} {ls : List (Option AbV)} {st : List AbV} {h : AbH} {K : Option AbV → AbH → Prop} {a : Int} (hd : decode (mC md) pc = .ok (.iand, 1)) (hp : pc + 1 = pc')  (k : Vx d md bc bs pc' ls (vI (a % 32) :: st) h K) : Vx d md bc bs pc ls (vI 31 :: vI a :: st) h K := by
  intro l G p e R s m args below meth c H locs cells slots lsr C hL hst hls hR hlo hbc hbs
  have C0 := C
  obtain ⟨hx, hb, hml, hret, hown, hts, hlk, hnm, hKn, hd1, hd2, hRc, hRs⟩ := C0
  subst hp
  obtain ⟨hsb, hsta⟩ := List.forall_mem_cons.mp hst
  obtain ⟨hsa, hst⟩ := List.forall_mem_cons.mp hsta
  refine lv_iand hx hb hd ?_
  rw [i32_and31]
  exact k l G p e R s m args below meth c H locs cells slots lsr C hL (List.forall_mem_cons.mpr ⟨⟨by omega, by omega⟩, hst⟩) hls hR hlo hbc hbs
theorem rr_iandN {d : Nat} {md : AbM} {bc bs pc pc' : Nat} {ls : List (Option AbV)} {st : List AbV} {h : AbH} {K : Option AbV → AbH → Prop} {a b : Int} (hd : decode (mC md) pc = .ok (.iand, 1)) (hp : pc + 1 = pc') (hr : 0 ≤ a ∧ 0 ≤ b) (k : Vx d md bc bs pc' ls (vI ((a.toNat &&& b.toNat : Nat) : Int) :: st) h K) : Vx d md bc bs pc ls (vI b :: vI a :: st) h K := by
  intro l G p e R s m args below meth c H locs cells slots lsr C hL hst hls hR hlo hbc hbs
  have C0 := C
  obtain ⟨hx, hb, hml, hret, hown, hts, hlk, hnm, hKn, hd1, hd2, hRc, hRs⟩ := C0
  subst hp
  obtain ⟨hsb, hsta⟩ := List.forall_mem_cons.mp hst
  obtain ⟨hsa, hst⟩ := List.forall_mem_cons.mp hsta
  have hsa : in32 a := hsa
  have q1 : a.toNat &&& b.toNat ≤ a.toNat := Nat.and_le_left
  refine lv_iand hx hb hd ?_
  rw [i32_andN hr.1 hr.2 hsa hsb]
  exact k l G p e R s m args below meth c H locs cells slots lsr C hL (List.forall_mem_cons.mpr ⟨⟨by omega, by have := hsa.2; omega⟩, hst⟩) hls hR hlo hbc hbs
theorem i32_shr0 {a : Int} : Int32.ofInt a >>> (Int32.ofInt 0 &&& 31) = Int32.ofInt a := by
  have : Int32.ofInt 0 &&& 31 = 0 := by decide
  rw [this]
  simp
theorem i32_c {a : Int} (h0 : 0 ≤ a) (h1 : a < 65536) : ((Int32.ofInt a).toUInt32 % 65536).toInt32 = Int32.ofInt a := by
  apply Int32.toBitVec_inj.mp
  apply BitVec.eq_of_toNat_eq
  show (BitVec.ofInt 32 a % 65536#32).toNat = (BitVec.ofInt 32 a).toNat
  rw [BitVec.toNat_umod, BitVec.toNat_ofInt]
  have : (65536#32).toNat = 65536 := rfl
  rw [this]
  omega
theorem rr_ishr0 {d : Nat} {md : AbM} {bc bs pc pc' : Nat} {ls : List (Option AbV)} {st : List AbV} {h : AbH} {K : Option AbV → AbH → Prop} {a : Int} (hd : decode (mC md) pc = .ok (.ishr, 1)) (hp : pc + 1 = pc')  (k : Vx d md bc bs pc' ls (vI a :: st) h K) : Vx d md bc bs pc ls (vI 0 :: vI a :: st) h K := by
  intro l G p e R s m args below meth c H locs cells slots lsr C hL hst hls hR hlo hbc hbs
  have C0 := C
  obtain ⟨hx, hb, hml, hret, hown, hts, hlk, hnm, hKn, hd1, hd2, hRc, hRs⟩ := C0
  subst hp
  obtain ⟨hsb, hsta⟩ := List.forall_mem_cons.mp hst
  obtain ⟨hsa, hst⟩ := List.forall_mem_cons.mp hsta
  refine lv_ishr hx hb hd ?_
  rw [i32_shr0]
  exact k l G p e R s m args below meth c H locs cells slots lsr C hL (List.forall_mem_cons.mpr ⟨hsa, hst⟩) hls hR hlo hbc hbs
theorem rr_i2c {d : Nat} {md : AbM} {bc bs pc pc' : Nat} {ls : List (Option AbV)} {st : List AbV} {h : AbH} {K : Option AbV → AbH → Prop} {a : Int} (hd : decode (mC md) pc = .ok (.i2c, 1)) (hp : pc + 1 = pc') (hr : 0 ≤ a ∧ a < 65536) (k : Vx d md bc bs pc' ls (vI a :: st) h K) : Vx d md bc bs pc ls (vI a :: st) h K := by
  intro l G p e R s m args below meth c H locs cells slots lsr C hL hst hls hR hlo hbc hbs
  have C0 := C
  obtain ⟨hx, hb, hml, hret, hown, hts, hlk, hnm, hKn, hd1, hd2, hRc, hRs⟩ := C0
  subst hp
  refine lv_i2c hx hb hd (v := Int32.ofInt a) (i32_c hr.1 hr.2) ?_
  exact k l G p e R s m args below meth c H locs cells slots lsr C hL (hst) hls hR hlo hbc hbs
def st_int (j i : Nat) : Int := ((st_byt.getD j []).getD i 0).toInt
def wpSV (h : AbH) (q : Option Nat) (f : Option Nat → Prop) : Prop := ∃ (a j : Nat), q = some a ∧ hpS h a j ∧ ∀ b, hpB h b j → f (some b)
def wpSC (h : AbH) (q : Option Nat) (f : Int → Prop) : Prop := ∃ (a j : Nat), q = some a ∧ hpS h a j ∧ f 0
def wpNB (h : AbH) (q : Option Nat) (f : Int → Prop) : Prop := ∃ (b j : Nat), q = some b ∧ hpB h b j ∧ f (st_len.getD j 0 : Nat)
def wpLB (h : AbH) (q : Option Nat) (i : Int) (f : Int → Prop) : Prop := ∃ (b j : Nat), q = some b ∧ hpB h b j ∧ 0 ≤ i ∧ i < (st_len.getD j 0 : Nat) ∧ f (st_int j i.toNat)
theorem Rl.kept0 {G : AbG} {h : AbH} {H : Heap} (R : Rl G h H) : ∀ a : Nat, a < (gH G).size → ¬ (fun q => (gH G).size ≤ q) a → H[a]? = (gH G)[a]? := fun a ha _ => R.2.2.2.2.2 a ha
theorem rr_ldcS {d : Nat} {md : AbM} {bc bs pc pc' : Nat} {ls : List (Option AbV)} {st : List AbV} {h : AbH} {K : Option AbV → AbH → Prop} {i : Nat} (j : Nat) (hj : j < 4) (hi : st_idx.getD j 0 = i) (hd : decode (mC md) pc = .ok (.ldc i, 2)) (hp : pc + 2 = pc') (ho : (mY md).cls = RX5) (k : ∀ a, hpS h a j → Vx d md bc bs pc' ls (vR (some a) :: st) h K) : Vx d md bc bs pc ls st h K := by
  intro l G p e R s m args below meth c H locs cells slots lsr C hL hst hls hR hlo hbc hbs
  have C0 := C
  obtain ⟨hx, hb, hml, hret, hown, hts, hlk, hnm, hKn, hd1, hd2, hRc, hRs⟩ := C0
  subst hp; subst hi
  rw [ho] at hown
  refine va_ldcS hx hb hown (hKn.2.2.2.1 j hj) hd ?_
  exact k (gK G j) (by rw [hR.2.2.2.1.2.1]; exact ⟨hj, rfl⟩) l G p e R s m args below meth c H locs cells slots lsr C hL (List.forall_mem_cons.mpr ⟨trivial, hst⟩) hls hR hlo hbc hbs
theorem rr_strV {d : Nat} {md : AbM} {bc bs pc pc' : Nat} {ls : List (Option AbV)} {st : List AbV} {h : AbH} {K : Option AbV → AbH → Prop} {q : Option Nat} {i : Nat} {f : Option Nat → Prop} (hd : decode (mC md) pc = .ok (.getfield i, 3)) (hp : pc + 3 = pc') (hw : Cond.fieldLink (mY md).cls i "java/lang/String" "value" "[B" ∈ lwW) (hh : wpSV h q f) (k : ∀ n, f n → Vx d md bc bs pc' ls (vR n :: st) h K) : Vx d md bc bs pc ls (vR q :: st) h K := by
  intro l G p e R s m args below meth c H locs cells slots lsr C hL hst hls hR hlo hbc hbs
  have C0 := C
  obtain ⟨hx, hb, hml, hret, hown, hts, hlk, hnm, hKn, hd1, hd2, hRc, hRs⟩ := C0
  subst hp
  obtain ⟨a, j, rfl, ha, hf⟩ := hh
  rw [hR.2.2.2.1.2.1] at ha
  obtain ⟨hj, rfl⟩ := ha
  obtain ⟨cf, kf, fi, f0, cell, g1, g2, g3, g4, g5, -⟩ := ((hKn.2.2.2.2.1.1 j hj).2.2.1).kept hR.kept0
  refine W.getf hx hb hown (hts _ hw) g1 g2 g3 g4 g5 rfl rfl hd ?_
  exact k _ (hf (gV G j) (by rw [hR.2.2.2.1.2.2]; exact ⟨hj, rfl⟩)) l G p e R s m args below meth c H locs cells slots lsr C hL (List.forall_mem_cons.mpr ⟨trivial, fun w hw => hst w (List.mem_cons_of_mem _ hw)⟩) hls hR hlo hbc hbs
theorem rr_strC {d : Nat} {md : AbM} {bc bs pc pc' : Nat} {ls : List (Option AbV)} {st : List AbV} {h : AbH} {K : Option AbV → AbH → Prop} {q : Option Nat} {i : Nat} {f : Int → Prop} (hd : decode (mC md) pc = .ok (.getfield i, 3)) (hp : pc + 3 = pc') (hw : Cond.fieldLink (mY md).cls i "java/lang/String" "coder" "B" ∈ lwW) (hh : wpSC h q f) (k : ∀ n, f n → Vx d md bc bs pc' ls (vI n :: st) h K) : Vx d md bc bs pc ls (vR q :: st) h K := by
  intro l G p e R s m args below meth c H locs cells slots lsr C hL hst hls hR hlo hbc hbs
  have C0 := C
  obtain ⟨hx, hb, hml, hret, hown, hts, hlk, hnm, hKn, hd1, hd2, hRc, hRs⟩ := C0
  subst hp
  obtain ⟨a, j, rfl, ha, hf⟩ := hh
  rw [hR.2.2.2.1.2.1] at ha
  obtain ⟨hj, rfl⟩ := ha
  obtain ⟨cf, kf, fi, f0, cell, g1, g2, g3, g4, g5, -⟩ := ((hKn.2.2.2.2.1.1 j hj).2.1).kept hR.kept0
  refine W.getf hx hb hown (hts _ hw) g1 g2 g3 g4 g5 rfl rfl hd ?_
  exact k _ hf l G p e R s m args below meth c H locs cells slots lsr C hL (List.forall_mem_cons.mpr ⟨i32_0, fun w hw => hst w (List.mem_cons_of_mem _ hw)⟩) hls hR hlo hbc hbs
theorem rr_getsC {d : Nat} {md : AbM} {bc bs pc pc' : Nat} {ls : List (Option AbV)} {st : List AbV} {h : AbH} {K : Option AbV → AbH → Prop} {i : Nat} (hd : decode (mC md) pc = .ok (.getstatic i, 3)) (hp : pc + 3 = pc') (hw : Cond.fieldLink (mY md).cls i "java/lang/String" "COMPACT_STRINGS" "Z" ∈ lwW) (k : Vx d md bc bs pc' ls (vI 1 :: st) h K) : Vx d md bc bs pc ls st h K := by
  intro l G p e R s m args below meth c H locs cells slots lsr C hL hst hls hR hlo hbc hbs
  have C0 := C
  obtain ⟨hx, hb, hml, hret, hown, hts, hlk, hnm, hKn, hd1, hd2, hRc, hRs⟩ := C0
  subst hp
  obtain ⟨cf, kf, fi, f0, a, cell, g1, g2, g3, g4, g5, g6, g7, -⟩ := (hKn.2.2.2.2.2.1).kept hR.kept0
  refine W.gets hx hb hown (hts _ hw) g1 g2 g3 g4 g5 (fun z => by rw [z] at g6; cases g6) g7 rfl hd ?_
  exact k l G p e R s m args below meth c H locs cells slots lsr C hL (List.forall_mem_cons.mpr ⟨⟨by decide, by decide⟩, hst⟩) hls hR hlo hbc hbs
theorem rr_getsF {d : Nat} {md : AbM} {bc bs pc pc' : Nat} {ls : List (Option AbV)} {st : List AbV} {h : AbH} {K : Option AbV → AbH → Prop} {i : Nat} (hd : decode (mC md) pc = .ok (.getstatic i, 3)) (hp : pc + 3 = pc') (hw : Cond.fieldLink (mY md).cls i "jdk/internal/util/Preconditions" "SIOOBE_FORMATTER" "Ljava/util/function/BiFunction;" ∈ lwW) (k : ∀ r, Vx d md bc bs pc' ls (vR r :: st) h K) : Vx d md bc bs pc ls st h K := by
  intro l G p e R s m args below meth c H locs cells slots lsr C hL hst hls hR hlo hbc hbs
  have C0 := C
  obtain ⟨hx, hb, hml, hret, hown, hts, hlk, hnm, hKn, hd1, hd2, hRc, hRs⟩ := C0
  subst hp
  rcases (hKn.2.2.2.2.2.2.1).kept hR.kept0 with g | ⟨t, g⟩
  · obtain ⟨cf, kf, fi, f0, a, cell, g1, g2, g3, g4, g5, g6, g7, -⟩ := g
    refine W.gets hx hb hown (hts _ hw) g1 g2 g3 g4 g5 (fun z => by rw [z] at g6; cases g6) g7 rfl hd ?_
    exact k none l G p e R s m args below meth c H locs cells slots lsr C hL (List.forall_mem_cons.mpr ⟨trivial, hst⟩) hls hR hlo hbc hbs
  · obtain ⟨cf, kf, fi, f0, a, cell, g1, g2, g3, g4, g5, g6, g7, -⟩ := g
    refine W.gets hx hb hown (hts _ hw) g1 g2 g3 g4 g5 (fun z => by rw [z] at g6; cases g6) g7 rfl hd ?_
    exact k (some t) l G p e R s m args below meth c H locs cells slots lsr C hL (List.forall_mem_cons.mpr ⟨trivial, hst⟩) hls hR hlo hbc hbs
theorem st_small : ∀ j, j < 4 → st_len.getD j 0 < 100 ∧ ∀ i, i < st_len.getD j 0 → 0 ≤ st_int j i ∧ st_int j i < 128 := by decide +kernel
theorem rr_alenB {d : Nat} {md : AbM} {bc bs pc pc' : Nat} {ls : List (Option AbV)} {st : List AbV} {h : AbH} {K : Option AbV → AbH → Prop} {q : Option Nat} {f : Int → Prop} (hd : decode (mC md) pc = .ok (.arraylength, 1)) (hp : pc + 1 = pc') (hh : wpNB h q f) (k : ∀ n, f n → Vx d md bc bs pc' ls (vI n :: st) h K) : Vx d md bc bs pc ls (vR q :: st) h K := by
  intro l G p e R s m args below meth c H locs cells slots lsr C hL hst hls hR hlo hbc hbs
  have C0 := C
  obtain ⟨hx, hb, hml, hret, hown, hts, hlk, hnm, hKn, hd1, hd2, hRc, hRs⟩ := C0
  subst hp
  obtain ⟨a, j, rfl, ha, hf⟩ := hh
  rw [hR.2.2.2.1.2.2] at ha
  obtain ⟨hj, rfl⟩ := ha
  obtain ⟨cell, g1, g2, g3, g4, g5, g6, -⟩ := ((hKn.2.2.2.2.1.1 j hj).2.2.2).kept hR.kept0
  have hs := (st_small j hj).1
  refine W.alen (n := Int32.ofInt ((st_len.getD j 0 : Nat) : Int)) hx hb g1 g2 (by rw [g5]; rfl) rfl rfl hd ?_
  exact k _ hf l G p e R s m args below meth c H locs cells slots lsr C hL (List.forall_mem_cons.mpr ⟨i32_ofNat (by omega), fun w hw => hst w (List.mem_cons_of_mem _ hw)⟩) hls hR hlo hbc hbs
theorem rr_bald {d : Nat} {md : AbM} {bc bs pc pc' : Nat} {ls : List (Option AbV)} {st : List AbV} {h : AbH} {K : Option AbV → AbH → Prop} {q : Option Nat} {i : Int} {f : Int → Prop} (hd : decode (mC md) pc = .ok (.baload, 1)) (hp : pc + 1 = pc') (hh : wpLB h q i f) (k : ∀ n, f n → Vx d md bc bs pc' ls (vI n :: st) h K) : Vx d md bc bs pc ls (vI i :: vR q :: st) h K := by
  intro l G p e R s m args below meth c H locs cells slots lsr C hL hst hls hR hlo hbc hbs
  have C0 := C
  obtain ⟨hx, hb, hml, hret, hown, hts, hlk, hnm, hKn, hd1, hd2, hRc, hRs⟩ := C0
  subst hp
  obtain ⟨a, j, rfl, ha, h0, h1, hf⟩ := hh
  rw [hR.2.2.2.1.2.2] at ha
  obtain ⟨hj, rfl⟩ := ha
  obtain ⟨hsi, hst⟩ := List.forall_mem_cons.mp hst
  have hsi : in32 i := hsi
  obtain ⟨cell, g1, g2, g3, g4, g5, g6, -⟩ := ((hKn.2.2.2.2.1.1 j hj).2.2.2).kept hR.kept0
  have hs := (st_small j hj).2 i.toNat (by omega)
  refine W.bald (v := .int ((st_byt.getD j []).getD i.toNat 0)) hx hb g1 g2 g3 (fun z => ?_) (by rw [i32_nat hsi]; exact g6 _ (by omega)) rfl rfl hd ?_
  · rcases z with z | z
    · rw [show (0 : Int32) = Int32.ofInt 0 from rfl, i32_lt hsi i32_0] at z
      omega
    · rw [i32_nat hsi] at z
      omega
  · have e1 : (st_byt.getD j []).getD i.toNat 0 = Int32.ofInt (st_int j i.toNat) := (Int32.ofInt_toInt _).symm
    rw [e1]
    exact k _ hf l G p e R s m args below meth c H locs cells slots lsr C hL (List.forall_mem_cons.mpr ⟨⟨by show _ ≤ st_int _ _; omega, by show st_int _ _ ≤ _; omega⟩, fun w hw => hst w (List.mem_cons_of_mem _ hw)⟩) hls hR hlo hbc hbs
theorem rr_callVS {d : Nat} {md : AbM} {bc bs pc pc' : Nat} {ls : List (Option AbV)} {st : List AbV} {h : AbH} {K : Option AbV → AbH → Prop} {md' : AbM} {av : List AbV} {bc' bs' i n : Nat} {K0 : Option AbV → AbH → Prop} {b j : Nat} (mf : MdF md' n) (hd : decode (mC md) pc = .ok (.invokevirtual i, 3)) (hp : pc + 3 = pc') (hw : Cond.methodLink (mY md).cls i (mY md') ∈ lwW) (hin : Cond.instanceMethod (mY md') ∈ lwW) (hse : Cond.selects (mY md').cls (mY md') (mY md') ∈ lwW) (hci : (mY md').cls = "java/lang/String") (hob : hpS h b j) (hlen : av.length = n) (hcs : ab_cs st ≤ 8) (hbc1 : bc' + mN md' ≤ bc) (hbs1 : bs' + mS md' ≤ bs) (hh : Vm d md' (vR (some b) :: av) h K0) (hK : ∀ r h', K0 r h' → Vx (d + 1) md bc' bs' pc' ls (r.toList ++ st) h' K) : Vx (d + 1) md bc bs pc ls (av.reverse ++ vR (some b) :: st) h K := by
  intro l G p e R s m args below meth c H locs cells slots lsr C9 hL hst hls hR hlo hbc hbs
  have C0 := C9
  obtain ⟨hx, hb, hml, hret, hown, hts, hlk, hnm, hKn, hd1, hd2, hRc, hRs⟩ := C0
  subst hp
  obtain ⟨mf1, mf2, mf3, mf4⟩ := mf
  rw [hR.2.2.2.1.2.1] at hob
  obtain ⟨hj, rfl⟩ := hob
  have hrc : ∃ cellB : Cell, H[gK G j]? = some cellB ∧ cellB.vm.isStatics = false ∧ s.vm.findClass (mY md').cls = some cellB.cls := by
    obtain ⟨cell, g1, g2, g3, -⟩ := ((hKn.2.2.2.2.1.1 j hj).1).kept hR.kept0
    exact ⟨cell, g1, g2, by rw [hci]; exact g3⟩
  generalize hbq : gK G j = b at *
  have hav : ∀ a ∈ vR (some b) :: av, ab_ok a := List.forall_mem_cons.mpr ⟨trivial, fun a ha => hst a (List.mem_append_left _ (List.mem_reverse.mpr ha))⟩
  have hst : ∀ w ∈ st, ab_ok w := fun w hw => hst w (List.mem_append_right _ (List.mem_cons_of_mem _ hw))
  have hrun := va_runV (H := H) (locs := locs) (cells := cells) (slots := slots) (e := e) (below := below) (meth := meth) (R := R) (b := b) (C := (mY md').cls) (As := av.map ab_cv) (rest := st.map ab_cv) (g := F0 m pc lsr ((av.reverse ++ vR (some b) :: st).map ab_cv)) (n := n) ⟨hx, hb, hml, hown, hts⟩ (hh l G) ⟨callB_of n hts (ab_good mf1) rfl rfl rfl (hts _ mf2) (hts _ hw) mf3 ⟨by show d + 1 ≤ R.frames; omega, by show 8 + (mL md' + 11) + 64 * d ≤ R.locals; omega⟩, hts _ hin, hts _ hse⟩ ⟨PcV.blind, hrc, fun U hU hW => ⟨rfl, hav, by rw [hU]; exact hR, hKn.warm hW⟩⟩ rfl (by rw [List.length_map]; exact hlen) hL.1 (by show (av.reverse ++ vR (some b) :: st).map ab_cv = _; rw [List.map_append, List.map_reverse]; rfl) (lv_room (by rw [List.map_map]; exact hcs)) hd ⟨by rw [hRc]; omega, by rw [hRs]; omega⟩
  intro T hT X
  obtain ⟨v, st₀, t, T', L, h0, X', hLf, e1, e2, ⟨r, h', hr, hrok, hR2, hK0⟩, stp⟩ := hrun T hT X
  cases hr
  have hR3 : Rl G h' T'.heap := by rw [e1]; exact hR2
  have hok2 : ∀ w ∈ r.toList ++ st, ab_ok w := fun w hw => by
    rcases List.mem_append.mp hw with z | z
    · cases r with
      | none => cases z
      | some a => exact hrok w (by rw [Option.toList_some, List.mem_singleton] at z; rw [z])
    · exact hst w z
  have hW := hK r h' hK0 l G p e R s m args below meth c T'.heap (locs ++ L) (cells + mN md') (slots + mS md') lsr C9 hL hok2 hls hR3 (fun x hx => by
    rcases List.mem_append.mp hx with z | z
    · exact hlo x z
    · exact hLf x z) (by omega) (by omega)
  obtain ⟨t2, a1, b1⟩ := hW T' rfl X'
  refine ⟨t2, stp t2 ?_, b1⟩
  have es : (r.map ab_cv).toList ++ st.map ab_cv = (r.toList ++ st).map ab_cv := by cases r <;> simp
  rw [es]
  exact a1
end
section
theorem q_0 : Jvm.Cond.initialized "LoanLayersLaw" ∈ lwW := lw_in (List.mem_append_right _ (List.mem_of_getElem? (i := 0) (by decide +kernel))) rfl
theorem q_1 : Jvm.Cond.initialized "LoanLayers" ∈ lwW := lw_in (List.mem_append_right _ (List.mem_of_getElem? (i := 1) (by decide +kernel))) rfl
theorem q_2 : Jvm.Cond.initialized "LoanLayers$World" ∈ lwW := lw_in (List.mem_append_right _ (List.mem_of_getElem? (i := 2) (by decide +kernel))) rfl
theorem q_3 : Jvm.Cond.initialized "LoanLayers$Past" ∈ lwW := lw_in (List.mem_append_right _ (List.mem_of_getElem? (i := 3) (by decide +kernel))) rfl
theorem q_4 : Jvm.Cond.initialized "LoanLayers$Text" ∈ lwW := lw_in (List.mem_append_right _ (List.mem_of_getElem? (i := 4) (by decide +kernel))) rfl
theorem q_5 : Jvm.Cond.initialized "LoanLayers$Windows" ∈ lwW := lw_in (List.mem_append_right _ (List.mem_of_getElem? (i := 5) (by decide +kernel))) rfl
theorem q_6 : Jvm.Cond.initialized "LoanLayers$Layers" ∈ lwW := lw_in (List.mem_append_right _ (List.mem_of_getElem? (i := 6) (by decide +kernel))) rfl
theorem q_7 : Jvm.Cond.initialized "LoanLayers$Way" ∈ lwW := lw_in (List.mem_append_right _ (List.mem_of_getElem? (i := 7) (by decide +kernel))) rfl
theorem q_8 : Jvm.Cond.initialized "LoanLayersModel" ∈ lwW := lw_in (List.mem_append_right _ (List.mem_of_getElem? (i := 8) (by decide +kernel))) rfl
theorem q_9 : Jvm.Cond.initialized "java/lang/Math" ∈ lwW := lw_in (List.mem_append_right _ (List.mem_of_getElem? (i := 9) (by decide +kernel))) rfl
theorem q_10 : Jvm.Cond.initialized "java/lang/String" ∈ lwW := lw_in (List.mem_append_right _ (List.mem_of_getElem? (i := 10) (by decide +kernel))) rfl
theorem q_11 : Jvm.Cond.initialized "java/lang/StringLatin1" ∈ lwW := lw_in (List.mem_append_right _ (List.mem_of_getElem? (i := 11) (by decide +kernel))) rfl
theorem q_12 : Jvm.Cond.initialized "jdk/internal/util/Preconditions" ∈ lwW := lw_in (List.mem_append_right _ (List.mem_of_getElem? (i := 12) (by decide +kernel))) rfl
theorem q_13 : Jvm.Cond.initialized "java/lang/StringUTF16" ∈ lwW := lw_in (List.mem_append_right _ (List.mem_of_getElem? (i := 13) (by decide +kernel))) rfl
theorem q_14 : Jvm.Cond.initialized "LoanLayers$Law" ∈ lwW := lw_in (List.mem_append_right _ (List.mem_of_getElem? (i := 14) (by decide +kernel))) rfl
theorem q_15 : Jvm.Cond.initialized "LoanLayers$Form" ∈ lwW := lw_in (List.mem_append_right _ (List.mem_of_getElem? (i := 15) (by decide +kernel))) rfl
theorem q_16 : Jvm.Cond.initialized "LoanLayers$Loan" ∈ lwW := lw_in (List.mem_append_right _ (List.mem_of_getElem? (i := 16) (by decide +kernel))) rfl
theorem q_17 : Jvm.Cond.classLink "LoanLayersLaw" (7 : Nat) "LoanLayers" ∈ lwW := lw_in (List.mem_append_right _ (List.mem_of_getElem? (i := 17) (by decide +kernel))) rfl
theorem q_18 : Jvm.Cond.instantiable "LoanLayers" (7 : Nat) ∈ lwW := lw_in (List.mem_append_right _ (List.mem_of_getElem? (i := 18) (by decide +kernel))) rfl
theorem q_19 : Jvm.Cond.methodLink "LoanLayersLaw" (9 : Nat) ({ cls := "LoanLayers", name := "<init>", desc := "()V" } : Jvm.MethodName) ∈ lwW := lw_in (List.mem_append_right _ (List.mem_of_getElem? (i := 19) (by decide +kernel))) rfl
theorem q_20 : Jvm.Cond.instanceMethod ({ cls := "LoanLayers", name := "<init>", desc := "()V" } : Jvm.MethodName) ∈ lwW := lw_in (List.mem_append_right _ (List.mem_of_getElem? (i := 20) (by decide +kernel))) rfl
theorem q_21 : Jvm.Cond.code ({ cls := "LoanLayers", name := "<init>", desc := "()V" } : Jvm.MethodName) prog_1_method_1_code (1 : Nat) (Option.none : Option Jvm.ClassFile.FieldType) ∈ lwW := lw_in (List.mem_append_right _ (List.mem_of_getElem? (i := 21) (by decide +kernel))) rfl
theorem q_22 : Jvm.Cond.methodLink "LoanLayers" (3 : Nat) ({ cls := "java/lang/Object", name := "<init>", desc := "()V" } : Jvm.MethodName) ∈ lwW := lw_in (List.mem_append_right _ (List.mem_of_getElem? (i := 22) (by decide +kernel))) rfl
theorem q_23 : Jvm.Cond.instanceMethod ({ cls := "java/lang/Object", name := "<init>", desc := "()V" } : Jvm.MethodName) ∈ lwW := lw_in (List.mem_append_right _ (List.mem_of_getElem? (i := 23) (by decide +kernel))) rfl
theorem q_24 : Jvm.Cond.code ({ cls := "java/lang/Object", name := "<init>", desc := "()V" } : Jvm.MethodName) object_method_1_code (1 : Nat) (Option.none : Option Jvm.ClassFile.FieldType) ∈ lwW := lw_in (List.mem_append_right _ (List.mem_of_getElem? (i := 24) (by decide +kernel))) rfl
theorem q_25 : Jvm.Cond.classLink "LoanLayers" (9 : Nat) "LoanLayers$World" ∈ lwW := lw_in (List.mem_append_right _ (List.mem_of_getElem? (i := 25) (by decide +kernel))) rfl
theorem q_26 : Jvm.Cond.instantiable "LoanLayers$World" (6 : Nat) ∈ lwW := lw_in (List.mem_append_right _ (List.mem_of_getElem? (i := 26) (by decide +kernel))) rfl
theorem q_27 : Jvm.Cond.methodLink "LoanLayers" (11 : Nat) ({ cls := "LoanLayers$World", name := "<init>", desc := "()V" } : Jvm.MethodName) ∈ lwW := lw_in (List.mem_append_right _ (List.mem_of_getElem? (i := 27) (by decide +kernel))) rfl
theorem q_28 : Jvm.Cond.instanceMethod ({ cls := "LoanLayers$World", name := "<init>", desc := "()V" } : Jvm.MethodName) ∈ lwW := lw_in (List.mem_append_right _ (List.mem_of_getElem? (i := 28) (by decide +kernel))) rfl
theorem q_29 : Jvm.Cond.code ({ cls := "LoanLayers$World", name := "<init>", desc := "()V" } : Jvm.MethodName) prog_10_method_1_code (2 : Nat) (Option.none : Option Jvm.ClassFile.FieldType) ∈ lwW := lw_in (List.mem_append_right _ (List.mem_of_getElem? (i := 29) (by decide +kernel))) rfl
theorem q_30 : Jvm.Cond.methodLink "LoanLayers$World" (3 : Nat) ({ cls := "java/lang/Object", name := "<init>", desc := "()V" } : Jvm.MethodName) ∈ lwW := lw_in (List.mem_append_right _ (List.mem_of_getElem? (i := 30) (by decide +kernel))) rfl
theorem q_31 : Jvm.Cond.classLink "LoanLayers$World" (9 : Nat) "LoanLayers$Law" ∈ lwW := lw_in (List.mem_append_right _ (List.mem_of_getElem? (i := 31) (by decide +kernel))) rfl
theorem q_33 : Jvm.Cond.classLink "LoanLayers$World" (17 : Nat) "LoanLayers$Loan" ∈ lwW := lw_in (List.mem_append_right _ (List.mem_of_getElem? (i := 33) (by decide +kernel))) rfl
theorem q_35 : Jvm.Cond.fieldLink "LoanLayers$World" (11 : Nat) "LoanLayers$World" "laws" "[LLoanLayers$Law;" ∈ lwW := lw_in (List.mem_append_right _ (List.mem_of_getElem? (i := 35) (by decide +kernel))) rfl
theorem q_36 : Jvm.Cond.fieldLink "LoanLayers$World" (19 : Nat) "LoanLayers$World" "loans" "[LLoanLayers$Loan;" ∈ lwW := lw_in (List.mem_append_right _ (List.mem_of_getElem? (i := 36) (by decide +kernel))) rfl
theorem q_37 : Jvm.Cond.fieldLink "LoanLayers$World" (23 : Nat) "LoanLayers$World" "first" "[I" ∈ lwW := lw_in (List.mem_append_right _ (List.mem_of_getElem? (i := 37) (by decide +kernel))) rfl
theorem q_38 : Jvm.Cond.fieldLink "LoanLayers$World" (27 : Nat) "LoanLayers$World" "last" "[I" ∈ lwW := lw_in (List.mem_append_right _ (List.mem_of_getElem? (i := 38) (by decide +kernel))) rfl
theorem q_39 : Jvm.Cond.fieldLink "LoanLayers$World" (30 : Nat) "LoanLayers$World" "lawCount" "I" ∈ lwW := lw_in (List.mem_append_right _ (List.mem_of_getElem? (i := 39) (by decide +kernel))) rfl
theorem q_40 : Jvm.Cond.fieldLink "LoanLayers$Text" (72 : Nat) "LoanLayers$World" "lawCount" "I" ∈ lwW := lw_in (List.mem_append_right _ (List.mem_of_getElem? (i := 40) (by decide +kernel))) rfl
theorem q_41 : Jvm.Cond.fieldLink "LoanLayers" (93 : Nat) "LoanLayers$World" "lawCount" "I" ∈ lwW := lw_in (List.mem_append_right _ (List.mem_of_getElem? (i := 41) (by decide +kernel))) rfl
theorem q_42 : Jvm.Cond.fieldLink "LoanLayers$World" (34 : Nat) "LoanLayers$World" "loanCount" "I" ∈ lwW := lw_in (List.mem_append_right _ (List.mem_of_getElem? (i := 42) (by decide +kernel))) rfl
theorem q_43 : Jvm.Cond.fieldLink "LoanLayers$Text" (106 : Nat) "LoanLayers$World" "loanCount" "I" ∈ lwW := lw_in (List.mem_append_right _ (List.mem_of_getElem? (i := 43) (by decide +kernel))) rfl
theorem q_44 : Jvm.Cond.fieldLink "LoanLayers" (139 : Nat) "LoanLayers$World" "loanCount" "I" ∈ lwW := lw_in (List.mem_append_right _ (List.mem_of_getElem? (i := 44) (by decide +kernel))) rfl
theorem q_45 : Jvm.Cond.laysFinal "LoanLayers$World" "LoanLayers$World" "laws" "[LLoanLayers$Law;" ∈ lwW := lw_in (List.mem_append_right _ (List.mem_of_getElem? (i := 45) (by decide +kernel))) rfl
theorem q_47 : Jvm.Cond.laysFinal "LoanLayers$World" "LoanLayers$World" "loans" "[LLoanLayers$Loan;" ∈ lwW := lw_in (List.mem_append_right _ (List.mem_of_getElem? (i := 47) (by decide +kernel))) rfl
theorem q_49 : Jvm.Cond.laysFinal "LoanLayers$World" "LoanLayers$World" "first" "[I" ∈ lwW := lw_in (List.mem_append_right _ (List.mem_of_getElem? (i := 49) (by decide +kernel))) rfl
theorem q_51 : Jvm.Cond.laysFinal "LoanLayers$World" "LoanLayers$World" "last" "[I" ∈ lwW := lw_in (List.mem_append_right _ (List.mem_of_getElem? (i := 51) (by decide +kernel))) rfl
theorem q_53 : Jvm.Cond.lays "LoanLayers$World" "LoanLayers$World" "lawCount" "I" ∈ lwW := lw_in (List.mem_append_right _ (List.mem_of_getElem? (i := 53) (by decide +kernel))) rfl
theorem q_55 : Jvm.Cond.lays "LoanLayers$World" "LoanLayers$World" "loanCount" "I" ∈ lwW := lw_in (List.mem_append_right _ (List.mem_of_getElem? (i := 55) (by decide +kernel))) rfl
theorem q_58 : Jvm.Cond.arrayClass Jvm.ClassFile.FieldType.int ∈ lwW := lw_in (List.mem_append_right _ (List.mem_of_getElem? (i := 58) (by decide +kernel))) rfl
theorem q_59 : Jvm.Cond.classLink "LoanLayers" (16 : Nat) "LoanLayers$Past" ∈ lwW := lw_in (List.mem_append_right _ (List.mem_of_getElem? (i := 59) (by decide +kernel))) rfl
theorem q_60 : Jvm.Cond.instantiable "LoanLayers$Past" (2 : Nat) ∈ lwW := lw_in (List.mem_append_right _ (List.mem_of_getElem? (i := 60) (by decide +kernel))) rfl
theorem q_62 : Jvm.Cond.instanceMethod ({ cls := "LoanLayers$Past", name := "<init>", desc := "()V" } : Jvm.MethodName) ∈ lwW := lw_in (List.mem_append_right _ (List.mem_of_getElem? (i := 62) (by decide +kernel))) rfl
theorem q_63 : Jvm.Cond.code ({ cls := "LoanLayers$Past", name := "<init>", desc := "()V" } : Jvm.MethodName) prog_6_method_1_code (1 : Nat) (Option.none : Option Jvm.ClassFile.FieldType) ∈ lwW := lw_in (List.mem_append_right _ (List.mem_of_getElem? (i := 63) (by decide +kernel))) rfl
theorem q_64 : Jvm.Cond.methodLink "LoanLayers$Past" (3 : Nat) ({ cls := "java/lang/Object", name := "<init>", desc := "()V" } : Jvm.MethodName) ∈ lwW := lw_in (List.mem_append_right _ (List.mem_of_getElem? (i := 64) (by decide +kernel))) rfl
theorem q_65 : Jvm.Cond.classLink "LoanLayers$Past" (9 : Nat) "LoanLayers$World" ∈ lwW := lw_in (List.mem_append_right _ (List.mem_of_getElem? (i := 65) (by decide +kernel))) rfl
theorem q_67 : Jvm.Cond.fieldLink "LoanLayers$Past" (11 : Nat) "LoanLayers$Past" "worlds" "[LLoanLayers$World;" ∈ lwW := lw_in (List.mem_append_right _ (List.mem_of_getElem? (i := 67) (by decide +kernel))) rfl
theorem q_68 : Jvm.Cond.fieldLink "LoanLayers$Past" (17 : Nat) "LoanLayers$Past" "size" "I" ∈ lwW := lw_in (List.mem_append_right _ (List.mem_of_getElem? (i := 68) (by decide +kernel))) rfl
theorem q_69 : Jvm.Cond.fieldLink "LoanLayers" (168 : Nat) "LoanLayers$Past" "size" "I" ∈ lwW := lw_in (List.mem_append_right _ (List.mem_of_getElem? (i := 69) (by decide +kernel))) rfl
theorem q_70 : Jvm.Cond.laysFinal "LoanLayers$Past" "LoanLayers$Past" "worlds" "[LLoanLayers$World;" ∈ lwW := lw_in (List.mem_append_right _ (List.mem_of_getElem? (i := 70) (by decide +kernel))) rfl
theorem q_72 : Jvm.Cond.lays "LoanLayers$Past" "LoanLayers$Past" "size" "I" ∈ lwW := lw_in (List.mem_append_right _ (List.mem_of_getElem? (i := 72) (by decide +kernel))) rfl
theorem q_75 : Jvm.Cond.classLink "LoanLayers" (27 : Nat) "LoanLayers$Text" ∈ lwW := lw_in (List.mem_append_right _ (List.mem_of_getElem? (i := 75) (by decide +kernel))) rfl
theorem q_76 : Jvm.Cond.instantiable "LoanLayers$Text" (6 : Nat) ∈ lwW := lw_in (List.mem_append_right _ (List.mem_of_getElem? (i := 76) (by decide +kernel))) rfl
theorem q_78 : Jvm.Cond.instanceMethod ({ cls := "LoanLayers$Text", name := "<init>", desc := "()V" } : Jvm.MethodName) ∈ lwW := lw_in (List.mem_append_right _ (List.mem_of_getElem? (i := 78) (by decide +kernel))) rfl
theorem q_79 : Jvm.Cond.code ({ cls := "LoanLayers$Text", name := "<init>", desc := "()V" } : Jvm.MethodName) prog_7_method_1_code (1 : Nat) (Option.none : Option Jvm.ClassFile.FieldType) ∈ lwW := lw_in (List.mem_append_right _ (List.mem_of_getElem? (i := 79) (by decide +kernel))) rfl
theorem q_80 : Jvm.Cond.methodLink "LoanLayers$Text" (3 : Nat) ({ cls := "java/lang/Object", name := "<init>", desc := "()V" } : Jvm.MethodName) ∈ lwW := lw_in (List.mem_append_right _ (List.mem_of_getElem? (i := 80) (by decide +kernel))) rfl
theorem q_81 : Jvm.Cond.fieldLink "LoanLayers$Text" (9 : Nat) "LoanLayers$Text" "bytes" "[I" ∈ lwW := lw_in (List.mem_append_right _ (List.mem_of_getElem? (i := 81) (by decide +kernel))) rfl
theorem q_82 : Jvm.Cond.fieldLink "LoanLayers$Text" (15 : Nat) "LoanLayers$Text" "length" "I" ∈ lwW := lw_in (List.mem_append_right _ (List.mem_of_getElem? (i := 82) (by decide +kernel))) rfl
theorem q_83 : Jvm.Cond.fieldLink "LoanLayers" (59 : Nat) "LoanLayers$Text" "length" "I" ∈ lwW := lw_in (List.mem_append_right _ (List.mem_of_getElem? (i := 83) (by decide +kernel))) rfl
theorem q_84 : Jvm.Cond.fieldLink "LoanLayers$Text" (19 : Nat) "LoanLayers$Text" "clauses" "I" ∈ lwW := lw_in (List.mem_append_right _ (List.mem_of_getElem? (i := 84) (by decide +kernel))) rfl
theorem q_85 : Jvm.Cond.fieldLink "LoanLayers" (79 : Nat) "LoanLayers$Text" "clauses" "I" ∈ lwW := lw_in (List.mem_append_right _ (List.mem_of_getElem? (i := 85) (by decide +kernel))) rfl
theorem q_86 : Jvm.Cond.fieldLink "LoanLayers$Text" (22 : Nat) "LoanLayers$Text" "start" "I" ∈ lwW := lw_in (List.mem_append_right _ (List.mem_of_getElem? (i := 86) (by decide +kernel))) rfl
theorem q_87 : Jvm.Cond.fieldLink "LoanLayers$Text" (25 : Nat) "LoanLayers$Text" "end" "I" ∈ lwW := lw_in (List.mem_append_right _ (List.mem_of_getElem? (i := 87) (by decide +kernel))) rfl
theorem q_88 : Jvm.Cond.fieldLink "LoanLayers$Text" (28 : Nat) "LoanLayers$Text" "kind" "I" ∈ lwW := lw_in (List.mem_append_right _ (List.mem_of_getElem? (i := 88) (by decide +kernel))) rfl
theorem q_89 : Jvm.Cond.laysFinal "LoanLayers$Text" "LoanLayers$Text" "bytes" "[I" ∈ lwW := lw_in (List.mem_append_right _ (List.mem_of_getElem? (i := 89) (by decide +kernel))) rfl
theorem q_91 : Jvm.Cond.lays "LoanLayers$Text" "LoanLayers$Text" "length" "I" ∈ lwW := lw_in (List.mem_append_right _ (List.mem_of_getElem? (i := 91) (by decide +kernel))) rfl
theorem q_93 : Jvm.Cond.lays "LoanLayers$Text" "LoanLayers$Text" "clauses" "I" ∈ lwW := lw_in (List.mem_append_right _ (List.mem_of_getElem? (i := 93) (by decide +kernel))) rfl
theorem q_95 : Jvm.Cond.lays "LoanLayers$Text" "LoanLayers$Text" "start" "I" ∈ lwW := lw_in (List.mem_append_right _ (List.mem_of_getElem? (i := 95) (by decide +kernel))) rfl
theorem q_97 : Jvm.Cond.lays "LoanLayers$Text" "LoanLayers$Text" "end" "I" ∈ lwW := lw_in (List.mem_append_right _ (List.mem_of_getElem? (i := 97) (by decide +kernel))) rfl
theorem q_99 : Jvm.Cond.lays "LoanLayers$Text" "LoanLayers$Text" "kind" "I" ∈ lwW := lw_in (List.mem_append_right _ (List.mem_of_getElem? (i := 99) (by decide +kernel))) rfl
theorem q_102 : Jvm.Cond.classLink "LoanLayers" (34 : Nat) "LoanLayers$Windows" ∈ lwW := lw_in (List.mem_append_right _ (List.mem_of_getElem? (i := 102) (by decide +kernel))) rfl
theorem q_103 : Jvm.Cond.instantiable "LoanLayers$Windows" (3 : Nat) ∈ lwW := lw_in (List.mem_append_right _ (List.mem_of_getElem? (i := 103) (by decide +kernel))) rfl
theorem q_105 : Jvm.Cond.instanceMethod ({ cls := "LoanLayers$Windows", name := "<init>", desc := "()V" } : Jvm.MethodName) ∈ lwW := lw_in (List.mem_append_right _ (List.mem_of_getElem? (i := 105) (by decide +kernel))) rfl
theorem q_106 : Jvm.Cond.code ({ cls := "LoanLayers$Windows", name := "<init>", desc := "()V" } : Jvm.MethodName) prog_9_method_1_code (1 : Nat) (Option.none : Option Jvm.ClassFile.FieldType) ∈ lwW := lw_in (List.mem_append_right _ (List.mem_of_getElem? (i := 106) (by decide +kernel))) rfl
theorem q_107 : Jvm.Cond.methodLink "LoanLayers$Windows" (3 : Nat) ({ cls := "java/lang/Object", name := "<init>", desc := "()V" } : Jvm.MethodName) ∈ lwW := lw_in (List.mem_append_right _ (List.mem_of_getElem? (i := 107) (by decide +kernel))) rfl
theorem q_108 : Jvm.Cond.fieldLink "LoanLayers$Windows" (9 : Nat) "LoanLayers$Windows" "first" "[I" ∈ lwW := lw_in (List.mem_append_right _ (List.mem_of_getElem? (i := 108) (by decide +kernel))) rfl
theorem q_109 : Jvm.Cond.fieldLink "LoanLayers$Windows" (15 : Nat) "LoanLayers$Windows" "last" "[I" ∈ lwW := lw_in (List.mem_append_right _ (List.mem_of_getElem? (i := 109) (by decide +kernel))) rfl
theorem q_110 : Jvm.Cond.fieldLink "LoanLayers$Windows" (18 : Nat) "LoanLayers$Windows" "number" "I" ∈ lwW := lw_in (List.mem_append_right _ (List.mem_of_getElem? (i := 110) (by decide +kernel))) rfl
theorem q_111 : Jvm.Cond.fieldLink "LoanLayers" (216 : Nat) "LoanLayers$Windows" "number" "I" ∈ lwW := lw_in (List.mem_append_right _ (List.mem_of_getElem? (i := 111) (by decide +kernel))) rfl
theorem q_112 : Jvm.Cond.laysFinal "LoanLayers$Windows" "LoanLayers$Windows" "first" "[I" ∈ lwW := lw_in (List.mem_append_right _ (List.mem_of_getElem? (i := 112) (by decide +kernel))) rfl
theorem q_114 : Jvm.Cond.laysFinal "LoanLayers$Windows" "LoanLayers$Windows" "last" "[I" ∈ lwW := lw_in (List.mem_append_right _ (List.mem_of_getElem? (i := 114) (by decide +kernel))) rfl
theorem q_116 : Jvm.Cond.lays "LoanLayers$Windows" "LoanLayers$Windows" "number" "I" ∈ lwW := lw_in (List.mem_append_right _ (List.mem_of_getElem? (i := 116) (by decide +kernel))) rfl
theorem q_119 : Jvm.Cond.classLink "LoanLayers" (41 : Nat) "LoanLayers$Layers" ∈ lwW := lw_in (List.mem_append_right _ (List.mem_of_getElem? (i := 119) (by decide +kernel))) rfl
theorem q_120 : Jvm.Cond.instantiable "LoanLayers$Layers" (4 : Nat) ∈ lwW := lw_in (List.mem_append_right _ (List.mem_of_getElem? (i := 120) (by decide +kernel))) rfl
theorem q_122 : Jvm.Cond.instanceMethod ({ cls := "LoanLayers$Layers", name := "<init>", desc := "()V" } : Jvm.MethodName) ∈ lwW := lw_in (List.mem_append_right _ (List.mem_of_getElem? (i := 122) (by decide +kernel))) rfl
theorem q_123 : Jvm.Cond.code ({ cls := "LoanLayers$Layers", name := "<init>", desc := "()V" } : Jvm.MethodName) prog_4_method_1_code (1 : Nat) (Option.none : Option Jvm.ClassFile.FieldType) ∈ lwW := lw_in (List.mem_append_right _ (List.mem_of_getElem? (i := 123) (by decide +kernel))) rfl
theorem q_124 : Jvm.Cond.methodLink "LoanLayers$Layers" (3 : Nat) ({ cls := "java/lang/Object", name := "<init>", desc := "()V" } : Jvm.MethodName) ∈ lwW := lw_in (List.mem_append_right _ (List.mem_of_getElem? (i := 124) (by decide +kernel))) rfl
theorem q_125 : Jvm.Cond.fieldLink "LoanLayers$Layers" (9 : Nat) "LoanLayers$Layers" "into" "[I" ∈ lwW := lw_in (List.mem_append_right _ (List.mem_of_getElem? (i := 125) (by decide +kernel))) rfl
theorem q_126 : Jvm.Cond.fieldLink "LoanLayers$Layers" (15 : Nat) "LoanLayers$Layers" "first" "[I" ∈ lwW := lw_in (List.mem_append_right _ (List.mem_of_getElem? (i := 126) (by decide +kernel))) rfl
theorem q_127 : Jvm.Cond.fieldLink "LoanLayers$Layers" (18 : Nat) "LoanLayers$Layers" "last" "[I" ∈ lwW := lw_in (List.mem_append_right _ (List.mem_of_getElem? (i := 127) (by decide +kernel))) rfl
theorem q_128 : Jvm.Cond.fieldLink "LoanLayers$Layers" (21 : Nat) "LoanLayers$Layers" "layer" "[I" ∈ lwW := lw_in (List.mem_append_right _ (List.mem_of_getElem? (i := 128) (by decide +kernel))) rfl
theorem q_129 : Jvm.Cond.laysFinal "LoanLayers$Layers" "LoanLayers$Layers" "into" "[I" ∈ lwW := lw_in (List.mem_append_right _ (List.mem_of_getElem? (i := 129) (by decide +kernel))) rfl
theorem q_131 : Jvm.Cond.laysFinal "LoanLayers$Layers" "LoanLayers$Layers" "first" "[I" ∈ lwW := lw_in (List.mem_append_right _ (List.mem_of_getElem? (i := 131) (by decide +kernel))) rfl
theorem q_133 : Jvm.Cond.laysFinal "LoanLayers$Layers" "LoanLayers$Layers" "last" "[I" ∈ lwW := lw_in (List.mem_append_right _ (List.mem_of_getElem? (i := 133) (by decide +kernel))) rfl
theorem q_135 : Jvm.Cond.laysFinal "LoanLayers$Layers" "LoanLayers$Layers" "layer" "[I" ∈ lwW := lw_in (List.mem_append_right _ (List.mem_of_getElem? (i := 135) (by decide +kernel))) rfl
theorem q_138 : Jvm.Cond.classLink "LoanLayers" (48 : Nat) "LoanLayers$Way" ∈ lwW := lw_in (List.mem_append_right _ (List.mem_of_getElem? (i := 138) (by decide +kernel))) rfl
theorem q_139 : Jvm.Cond.instantiable "LoanLayers$Way" (7 : Nat) ∈ lwW := lw_in (List.mem_append_right _ (List.mem_of_getElem? (i := 139) (by decide +kernel))) rfl
theorem q_141 : Jvm.Cond.instanceMethod ({ cls := "LoanLayers$Way", name := "<init>", desc := "()V" } : Jvm.MethodName) ∈ lwW := lw_in (List.mem_append_right _ (List.mem_of_getElem? (i := 141) (by decide +kernel))) rfl
theorem q_142 : Jvm.Cond.code ({ cls := "LoanLayers$Way", name := "<init>", desc := "()V" } : Jvm.MethodName) prog_8_method_1_code (1 : Nat) (Option.none : Option Jvm.ClassFile.FieldType) ∈ lwW := lw_in (List.mem_append_right _ (List.mem_of_getElem? (i := 142) (by decide +kernel))) rfl
theorem q_143 : Jvm.Cond.methodLink "LoanLayers$Way" (3 : Nat) ({ cls := "java/lang/Object", name := "<init>", desc := "()V" } : Jvm.MethodName) ∈ lwW := lw_in (List.mem_append_right _ (List.mem_of_getElem? (i := 143) (by decide +kernel))) rfl
theorem q_144 : Jvm.Cond.classLink "LoanLayers$Way" (9 : Nat) "LoanLayers$Law" ∈ lwW := lw_in (List.mem_append_right _ (List.mem_of_getElem? (i := 144) (by decide +kernel))) rfl
theorem q_145 : Jvm.Cond.fieldLink "LoanLayers$Way" (11 : Nat) "LoanLayers$Way" "lawOf" "[LLoanLayers$Law;" ∈ lwW := lw_in (List.mem_append_right _ (List.mem_of_getElem? (i := 145) (by decide +kernel))) rfl
theorem q_146 : Jvm.Cond.fieldLink "LoanLayers$Way" (17 : Nat) "LoanLayers$Way" "busy" "[Z" ∈ lwW := lw_in (List.mem_append_right _ (List.mem_of_getElem? (i := 146) (by decide +kernel))) rfl
theorem q_147 : Jvm.Cond.fieldLink "LoanLayers$Way" (21 : Nat) "LoanLayers$Way" "tried" "[J" ∈ lwW := lw_in (List.mem_append_right _ (List.mem_of_getElem? (i := 147) (by decide +kernel))) rfl
theorem q_148 : Jvm.Cond.fieldLink "LoanLayers$Way" (25 : Nat) "LoanLayers$Way" "steps" "[I" ∈ lwW := lw_in (List.mem_append_right _ (List.mem_of_getElem? (i := 148) (by decide +kernel))) rfl
theorem q_149 : Jvm.Cond.fieldLink "LoanLayers$Way" (31 : Nat) "LoanLayers$Way" "end" "J" ∈ lwW := lw_in (List.mem_append_right _ (List.mem_of_getElem? (i := 149) (by decide +kernel))) rfl
theorem q_150 : Jvm.Cond.fieldLink "LoanLayers$Way" (35 : Nat) "LoanLayers$Way" "to" "I" ∈ lwW := lw_in (List.mem_append_right _ (List.mem_of_getElem? (i := 150) (by decide +kernel))) rfl
theorem q_151 : Jvm.Cond.fieldLink "LoanLayers$Way" (39 : Nat) "LoanLayers$Way" "number" "I" ∈ lwW := lw_in (List.mem_append_right _ (List.mem_of_getElem? (i := 151) (by decide +kernel))) rfl
theorem q_152 : Jvm.Cond.fieldLink "LoanLayers" (256 : Nat) "LoanLayers$Way" "number" "I" ∈ lwW := lw_in (List.mem_append_right _ (List.mem_of_getElem? (i := 152) (by decide +kernel))) rfl
theorem q_153 : Jvm.Cond.laysFinal "LoanLayers$Way" "LoanLayers$Way" "lawOf" "[LLoanLayers$Law;" ∈ lwW := lw_in (List.mem_append_right _ (List.mem_of_getElem? (i := 153) (by decide +kernel))) rfl
theorem q_155 : Jvm.Cond.laysFinal "LoanLayers$Way" "LoanLayers$Way" "busy" "[Z" ∈ lwW := lw_in (List.mem_append_right _ (List.mem_of_getElem? (i := 155) (by decide +kernel))) rfl
theorem q_157 : Jvm.Cond.laysFinal "LoanLayers$Way" "LoanLayers$Way" "tried" "[J" ∈ lwW := lw_in (List.mem_append_right _ (List.mem_of_getElem? (i := 157) (by decide +kernel))) rfl
theorem q_159 : Jvm.Cond.laysFinal "LoanLayers$Way" "LoanLayers$Way" "steps" "[I" ∈ lwW := lw_in (List.mem_append_right _ (List.mem_of_getElem? (i := 159) (by decide +kernel))) rfl
theorem q_161 : Jvm.Cond.lays "LoanLayers$Way" "LoanLayers$Way" "end" "J" ∈ lwW := lw_in (List.mem_append_right _ (List.mem_of_getElem? (i := 161) (by decide +kernel))) rfl
theorem q_163 : Jvm.Cond.lays "LoanLayers$Way" "LoanLayers$Way" "to" "I" ∈ lwW := lw_in (List.mem_append_right _ (List.mem_of_getElem? (i := 163) (by decide +kernel))) rfl
theorem q_165 : Jvm.Cond.lays "LoanLayers$Way" "LoanLayers$Way" "number" "I" ∈ lwW := lw_in (List.mem_append_right _ (List.mem_of_getElem? (i := 165) (by decide +kernel))) rfl
theorem q_168 : Jvm.Cond.arrayClass Jvm.ClassFile.FieldType.boolean ∈ lwW := lw_in (List.mem_append_right _ (List.mem_of_getElem? (i := 168) (by decide +kernel))) rfl
theorem q_169 : Jvm.Cond.arrayClass Jvm.ClassFile.FieldType.long ∈ lwW := lw_in (List.mem_append_right _ (List.mem_of_getElem? (i := 169) (by decide +kernel))) rfl
theorem q_170 : Jvm.Cond.fieldLink "LoanLayers" (12 : Nat) "LoanLayers" "now" "LLoanLayers$World;" ∈ lwW := lw_in (List.mem_append_right _ (List.mem_of_getElem? (i := 170) (by decide +kernel))) rfl
theorem q_171 : Jvm.Cond.fieldLink "LoanLayers" (19 : Nat) "LoanLayers" "past" "LLoanLayers$Past;" ∈ lwW := lw_in (List.mem_append_right _ (List.mem_of_getElem? (i := 171) (by decide +kernel))) rfl
theorem q_172 : Jvm.Cond.fieldLink "LoanLayers" (23 : Nat) "LoanLayers" "saved" "[LLoanLayers$World;" ∈ lwW := lw_in (List.mem_append_right _ (List.mem_of_getElem? (i := 172) (by decide +kernel))) rfl
theorem q_173 : Jvm.Cond.fieldLink "LoanLayers" (30 : Nat) "LoanLayers" "text" "LLoanLayers$Text;" ∈ lwW := lw_in (List.mem_append_right _ (List.mem_of_getElem? (i := 173) (by decide +kernel))) rfl
theorem q_174 : Jvm.Cond.fieldLink "LoanLayers" (37 : Nat) "LoanLayers" "windows" "LLoanLayers$Windows;" ∈ lwW := lw_in (List.mem_append_right _ (List.mem_of_getElem? (i := 174) (by decide +kernel))) rfl
theorem q_175 : Jvm.Cond.fieldLink "LoanLayers" (44 : Nat) "LoanLayers" "layers" "LLoanLayers$Layers;" ∈ lwW := lw_in (List.mem_append_right _ (List.mem_of_getElem? (i := 175) (by decide +kernel))) rfl
theorem q_176 : Jvm.Cond.fieldLink "LoanLayers" (51 : Nat) "LoanLayers" "way" "LLoanLayers$Way;" ∈ lwW := lw_in (List.mem_append_right _ (List.mem_of_getElem? (i := 176) (by decide +kernel))) rfl
theorem q_177 : Jvm.Cond.lays "LoanLayers" "LoanLayers" "now" "LLoanLayers$World;" ∈ lwW := lw_in (List.mem_append_right _ (List.mem_of_getElem? (i := 177) (by decide +kernel))) rfl
theorem q_179 : Jvm.Cond.laysFinal "LoanLayers" "LoanLayers" "past" "LLoanLayers$Past;" ∈ lwW := lw_in (List.mem_append_right _ (List.mem_of_getElem? (i := 179) (by decide +kernel))) rfl
theorem q_181 : Jvm.Cond.laysFinal "LoanLayers" "LoanLayers" "saved" "[LLoanLayers$World;" ∈ lwW := lw_in (List.mem_append_right _ (List.mem_of_getElem? (i := 181) (by decide +kernel))) rfl
theorem q_183 : Jvm.Cond.laysFinal "LoanLayers" "LoanLayers" "text" "LLoanLayers$Text;" ∈ lwW := lw_in (List.mem_append_right _ (List.mem_of_getElem? (i := 183) (by decide +kernel))) rfl
theorem q_185 : Jvm.Cond.laysFinal "LoanLayers" "LoanLayers" "windows" "LLoanLayers$Windows;" ∈ lwW := lw_in (List.mem_append_right _ (List.mem_of_getElem? (i := 185) (by decide +kernel))) rfl
theorem q_187 : Jvm.Cond.laysFinal "LoanLayers" "LoanLayers" "layers" "LLoanLayers$Layers;" ∈ lwW := lw_in (List.mem_append_right _ (List.mem_of_getElem? (i := 187) (by decide +kernel))) rfl
theorem q_189 : Jvm.Cond.laysFinal "LoanLayers" "LoanLayers" "way" "LLoanLayers$Way;" ∈ lwW := lw_in (List.mem_append_right _ (List.mem_of_getElem? (i := 189) (by decide +kernel))) rfl
theorem q_192 : Jvm.Cond.methodLink "LoanLayersLaw" (13 : Nat) ({ cls := "LoanLayers", name := "type", desc := "(I)I" } : Jvm.MethodName) ∈ lwW := lw_in (List.mem_append_right _ (List.mem_of_getElem? (i := 192) (by decide +kernel))) rfl
theorem q_193 : Jvm.Cond.instanceMethod ({ cls := "LoanLayers", name := "type", desc := "(I)I" } : Jvm.MethodName) ∈ lwW := lw_in (List.mem_append_right _ (List.mem_of_getElem? (i := 193) (by decide +kernel))) rfl
theorem q_194 : Jvm.Cond.selects "LoanLayers" ({ cls := "LoanLayers", name := "type", desc := "(I)I" } : Jvm.MethodName) ({ cls := "LoanLayers", name := "type", desc := "(I)I" } : Jvm.MethodName) ∈ lwW := lw_in (List.mem_append_right _ (List.mem_of_getElem? (i := 194) (by decide +kernel))) rfl
theorem q_195 : Jvm.Cond.code ({ cls := "LoanLayers", name := "type", desc := "(I)I" } : Jvm.MethodName) prog_1_method_2_code (2 : Nat) (Option.some Jvm.ClassFile.FieldType.int) ∈ lwW := lw_in (List.mem_append_right _ (List.mem_of_getElem? (i := 195) (by decide +kernel))) rfl
theorem q_196 : Jvm.Cond.methodLink "LoanLayers" (55 : Nat) ({ cls := "LoanLayers", name := "within", desc := "(III)Z" } : Jvm.MethodName) ∈ lwW := lw_in (List.mem_append_right _ (List.mem_of_getElem? (i := 196) (by decide +kernel))) rfl
theorem q_197 : Jvm.Cond.static ({ cls := "LoanLayers", name := "within", desc := "(III)Z" } : Jvm.MethodName) ∈ lwW := lw_in (List.mem_append_right _ (List.mem_of_getElem? (i := 197) (by decide +kernel))) rfl
theorem q_198 : Jvm.Cond.code ({ cls := "LoanLayers", name := "within", desc := "(III)Z" } : Jvm.MethodName) prog_1_method_29_code (3 : Nat) (Option.some Jvm.ClassFile.FieldType.boolean) ∈ lwW := lw_in (List.mem_append_right _ (List.mem_of_getElem? (i := 198) (by decide +kernel))) rfl
theorem q_199 : Jvm.Cond.methodLink "LoanLayers" (63 : Nat) ({ cls := "LoanLayers$Text", name := "append", desc := "(I)V" } : Jvm.MethodName) ∈ lwW := lw_in (List.mem_append_right _ (List.mem_of_getElem? (i := 199) (by decide +kernel))) rfl
theorem q_200 : Jvm.Cond.instanceMethod ({ cls := "LoanLayers$Text", name := "append", desc := "(I)V" } : Jvm.MethodName) ∈ lwW := lw_in (List.mem_append_right _ (List.mem_of_getElem? (i := 200) (by decide +kernel))) rfl
theorem q_201 : Jvm.Cond.selects "LoanLayers$Text" ({ cls := "LoanLayers$Text", name := "append", desc := "(I)V" } : Jvm.MethodName) ({ cls := "LoanLayers$Text", name := "append", desc := "(I)V" } : Jvm.MethodName) ∈ lwW := lw_in (List.mem_append_right _ (List.mem_of_getElem? (i := 201) (by decide +kernel))) rfl
theorem q_202 : Jvm.Cond.code ({ cls := "LoanLayers$Text", name := "append", desc := "(I)V" } : Jvm.MethodName) prog_7_method_2_code (2 : Nat) (Option.none : Option Jvm.ClassFile.FieldType) ∈ lwW := lw_in (List.mem_append_right _ (List.mem_of_getElem? (i := 202) (by decide +kernel))) rfl
theorem q_204 : Jvm.Cond.methodLink "LoanLayersLaw" (18 : Nat) ({ cls := "LoanLayers", name := "erase", desc := "()I" } : Jvm.MethodName) ∈ lwW := lw_in (List.mem_append_right _ (List.mem_of_getElem? (i := 204) (by decide +kernel))) rfl
theorem q_205 : Jvm.Cond.instanceMethod ({ cls := "LoanLayers", name := "erase", desc := "()I" } : Jvm.MethodName) ∈ lwW := lw_in (List.mem_append_right _ (List.mem_of_getElem? (i := 205) (by decide +kernel))) rfl
theorem q_206 : Jvm.Cond.selects "LoanLayers" ({ cls := "LoanLayers", name := "erase", desc := "()I" } : Jvm.MethodName) ({ cls := "LoanLayers", name := "erase", desc := "()I" } : Jvm.MethodName) ∈ lwW := lw_in (List.mem_append_right _ (List.mem_of_getElem? (i := 206) (by decide +kernel))) rfl
theorem q_207 : Jvm.Cond.code ({ cls := "LoanLayers", name := "erase", desc := "()I" } : Jvm.MethodName) prog_1_method_3_code (2 : Nat) (Option.some Jvm.ClassFile.FieldType.int) ∈ lwW := lw_in (List.mem_append_right _ (List.mem_of_getElem? (i := 207) (by decide +kernel))) rfl
theorem q_208 : Jvm.Cond.methodLink "LoanLayers" (67 : Nat) ({ cls := "LoanLayers$Text", name := "clear", desc := "()V" } : Jvm.MethodName) ∈ lwW := lw_in (List.mem_append_right _ (List.mem_of_getElem? (i := 208) (by decide +kernel))) rfl
theorem q_209 : Jvm.Cond.instanceMethod ({ cls := "LoanLayers$Text", name := "clear", desc := "()V" } : Jvm.MethodName) ∈ lwW := lw_in (List.mem_append_right _ (List.mem_of_getElem? (i := 209) (by decide +kernel))) rfl
theorem q_210 : Jvm.Cond.selects "LoanLayers$Text" ({ cls := "LoanLayers$Text", name := "clear", desc := "()V" } : Jvm.MethodName) ({ cls := "LoanLayers$Text", name := "clear", desc := "()V" } : Jvm.MethodName) ∈ lwW := lw_in (List.mem_append_right _ (List.mem_of_getElem? (i := 210) (by decide +kernel))) rfl
theorem q_211 : Jvm.Cond.code ({ cls := "LoanLayers$Text", name := "clear", desc := "()V" } : Jvm.MethodName) prog_7_method_3_code (1 : Nat) (Option.none : Option Jvm.ClassFile.FieldType) ∈ lwW := lw_in (List.mem_append_right _ (List.mem_of_getElem? (i := 211) (by decide +kernel))) rfl
theorem q_212 : Jvm.Cond.methodLink "LoanLayersLaw" (23 : Nat) ({ cls := "LoanLayers", name := "fault", desc := "()I" } : Jvm.MethodName) ∈ lwW := lw_in (List.mem_append_right _ (List.mem_of_getElem? (i := 212) (by decide +kernel))) rfl
theorem q_213 : Jvm.Cond.instanceMethod ({ cls := "LoanLayers", name := "fault", desc := "()I" } : Jvm.MethodName) ∈ lwW := lw_in (List.mem_append_right _ (List.mem_of_getElem? (i := 213) (by decide +kernel))) rfl
theorem q_214 : Jvm.Cond.selects "LoanLayers" ({ cls := "LoanLayers", name := "fault", desc := "()I" } : Jvm.MethodName) ({ cls := "LoanLayers", name := "fault", desc := "()I" } : Jvm.MethodName) ∈ lwW := lw_in (List.mem_append_right _ (List.mem_of_getElem? (i := 214) (by decide +kernel))) rfl
theorem q_215 : Jvm.Cond.code ({ cls := "LoanLayers", name := "fault", desc := "()I" } : Jvm.MethodName) prog_1_method_4_code (1 : Nat) (Option.some Jvm.ClassFile.FieldType.int) ∈ lwW := lw_in (List.mem_append_right _ (List.mem_of_getElem? (i := 215) (by decide +kernel))) rfl
theorem q_216 : Jvm.Cond.methodLink "LoanLayers" (70 : Nat) ({ cls := "LoanLayers$World", name := "copy", desc := "()LLoanLayers$World;" } : Jvm.MethodName) ∈ lwW := lw_in (List.mem_append_right _ (List.mem_of_getElem? (i := 216) (by decide +kernel))) rfl
theorem q_217 : Jvm.Cond.instanceMethod ({ cls := "LoanLayers$World", name := "copy", desc := "()LLoanLayers$World;" } : Jvm.MethodName) ∈ lwW := lw_in (List.mem_append_right _ (List.mem_of_getElem? (i := 217) (by decide +kernel))) rfl
theorem q_218 : Jvm.Cond.selects "LoanLayers$World" ({ cls := "LoanLayers$World", name := "copy", desc := "()LLoanLayers$World;" } : Jvm.MethodName) ({ cls := "LoanLayers$World", name := "copy", desc := "()LLoanLayers$World;" } : Jvm.MethodName) ∈ lwW := lw_in (List.mem_append_right _ (List.mem_of_getElem? (i := 218) (by decide +kernel))) rfl
theorem q_219 : Jvm.Cond.code ({ cls := "LoanLayers$World", name := "copy", desc := "()LLoanLayers$World;" } : Jvm.MethodName) prog_10_method_2_code (3 : Nat) (Option.some (Jvm.ClassFile.FieldType.object "LoanLayers$World")) ∈ lwW := lw_in (List.mem_append_right _ (List.mem_of_getElem? (i := 219) (by decide +kernel))) rfl
theorem q_220 : Jvm.Cond.classLink "LoanLayers$World" (12 : Nat) "LoanLayers$World" ∈ lwW := lw_in (List.mem_append_right _ (List.mem_of_getElem? (i := 220) (by decide +kernel))) rfl
theorem q_221 : Jvm.Cond.methodLink "LoanLayers$World" (37 : Nat) ({ cls := "LoanLayers$World", name := "<init>", desc := "()V" } : Jvm.MethodName) ∈ lwW := lw_in (List.mem_append_right _ (List.mem_of_getElem? (i := 221) (by decide +kernel))) rfl
theorem q_222 : Jvm.Cond.methodLink "LoanLayers$World" (38 : Nat) ({ cls := "LoanLayers$World", name := "setMeeting", desc := "(III)V" } : Jvm.MethodName) ∈ lwW := lw_in (List.mem_append_right _ (List.mem_of_getElem? (i := 222) (by decide +kernel))) rfl
theorem q_223 : Jvm.Cond.instanceMethod ({ cls := "LoanLayers$World", name := "setMeeting", desc := "(III)V" } : Jvm.MethodName) ∈ lwW := lw_in (List.mem_append_right _ (List.mem_of_getElem? (i := 223) (by decide +kernel))) rfl
theorem q_224 : Jvm.Cond.selects "LoanLayers$World" ({ cls := "LoanLayers$World", name := "setMeeting", desc := "(III)V" } : Jvm.MethodName) ({ cls := "LoanLayers$World", name := "setMeeting", desc := "(III)V" } : Jvm.MethodName) ∈ lwW := lw_in (List.mem_append_right _ (List.mem_of_getElem? (i := 224) (by decide +kernel))) rfl
theorem q_225 : Jvm.Cond.code ({ cls := "LoanLayers$World", name := "setMeeting", desc := "(III)V" } : Jvm.MethodName) prog_10_method_11_code (4 : Nat) (Option.none : Option Jvm.ClassFile.FieldType) ∈ lwW := lw_in (List.mem_append_right _ (List.mem_of_getElem? (i := 225) (by decide +kernel))) rfl
theorem q_227 : Jvm.Cond.methodLink "LoanLayers" (74 : Nat) ({ cls := "LoanLayers$Text", name := "read", desc := "(LLoanLayers$World;)I" } : Jvm.MethodName) ∈ lwW := lw_in (List.mem_append_right _ (List.mem_of_getElem? (i := 227) (by decide +kernel))) rfl
theorem q_228 : Jvm.Cond.instanceMethod ({ cls := "LoanLayers$Text", name := "read", desc := "(LLoanLayers$World;)I" } : Jvm.MethodName) ∈ lwW := lw_in (List.mem_append_right _ (List.mem_of_getElem? (i := 228) (by decide +kernel))) rfl
theorem q_229 : Jvm.Cond.selects "LoanLayers$Text" ({ cls := "LoanLayers$Text", name := "read", desc := "(LLoanLayers$World;)I" } : Jvm.MethodName) ({ cls := "LoanLayers$Text", name := "read", desc := "(LLoanLayers$World;)I" } : Jvm.MethodName) ∈ lwW := lw_in (List.mem_append_right _ (List.mem_of_getElem? (i := 229) (by decide +kernel))) rfl
theorem q_230 : Jvm.Cond.code ({ cls := "LoanLayers$Text", name := "read", desc := "(LLoanLayers$World;)I" } : Jvm.MethodName) prog_7_method_4_code (3 : Nat) (Option.some Jvm.ClassFile.FieldType.int) ∈ lwW := lw_in (List.mem_append_right _ (List.mem_of_getElem? (i := 230) (by decide +kernel))) rfl
theorem q_231 : Jvm.Cond.methodLink "LoanLayers$Text" (35 : Nat) ({ cls := "LoanLayers$Text", name := "advance", desc := "()V" } : Jvm.MethodName) ∈ lwW := lw_in (List.mem_append_right _ (List.mem_of_getElem? (i := 231) (by decide +kernel))) rfl
theorem q_233 : Jvm.Cond.instanceMethod ({ cls := "LoanLayers$Text", name := "advance", desc := "()V" } : Jvm.MethodName) ∈ lwW := lw_in (List.mem_append_right _ (List.mem_of_getElem? (i := 233) (by decide +kernel))) rfl
theorem q_234 : Jvm.Cond.code ({ cls := "LoanLayers$Text", name := "advance", desc := "()V" } : Jvm.MethodName) prog_7_method_16_code (1 : Nat) (Option.none : Option Jvm.ClassFile.FieldType) ∈ lwW := lw_in (List.mem_append_right _ (List.mem_of_getElem? (i := 234) (by decide +kernel))) rfl
theorem q_235 : Jvm.Cond.methodLink "LoanLayers$Text" (129 : Nat) ({ cls := "LoanLayers$Text", name := "byteAt", desc := "(I)I" } : Jvm.MethodName) ∈ lwW := lw_in (List.mem_append_right _ (List.mem_of_getElem? (i := 235) (by decide +kernel))) rfl
theorem q_237 : Jvm.Cond.instanceMethod ({ cls := "LoanLayers$Text", name := "byteAt", desc := "(I)I" } : Jvm.MethodName) ∈ lwW := lw_in (List.mem_append_right _ (List.mem_of_getElem? (i := 237) (by decide +kernel))) rfl
theorem q_238 : Jvm.Cond.code ({ cls := "LoanLayers$Text", name := "byteAt", desc := "(I)I" } : Jvm.MethodName) prog_7_method_18_code (2 : Nat) (Option.some Jvm.ClassFile.FieldType.int) ∈ lwW := lw_in (List.mem_append_right _ (List.mem_of_getElem? (i := 238) (by decide +kernel))) rfl
theorem q_239 : Jvm.Cond.methodLink "LoanLayers$Text" (145 : Nat) ({ cls := "java/lang/Math", name := "min", desc := "(II)I" } : Jvm.MethodName) ∈ lwW := lw_in (List.mem_append_right _ (List.mem_of_getElem? (i := 239) (by decide +kernel))) rfl
theorem q_240 : Jvm.Cond.static ({ cls := "java/lang/Math", name := "min", desc := "(II)I" } : Jvm.MethodName) ∈ lwW := lw_in (List.mem_append_right _ (List.mem_of_getElem? (i := 240) (by decide +kernel))) rfl
theorem q_241 : Jvm.Cond.code ({ cls := "java/lang/Math", name := "min", desc := "(II)I" } : Jvm.MethodName) prog_13_method_69_code (2 : Nat) (Option.some Jvm.ClassFile.FieldType.int) ∈ lwW := lw_in (List.mem_append_right _ (List.mem_of_getElem? (i := 241) (by decide +kernel))) rfl
theorem q_242 : Jvm.Cond.methodLink "LoanLayers$Text" (150 : Nat) ({ cls := "LoanLayers$Text", name := "kindOf", desc := "(I)I" } : Jvm.MethodName) ∈ lwW := lw_in (List.mem_append_right _ (List.mem_of_getElem? (i := 242) (by decide +kernel))) rfl
theorem q_243 : Jvm.Cond.static ({ cls := "LoanLayers$Text", name := "kindOf", desc := "(I)I" } : Jvm.MethodName) ∈ lwW := lw_in (List.mem_append_right _ (List.mem_of_getElem? (i := 243) (by decide +kernel))) rfl
theorem q_244 : Jvm.Cond.code ({ cls := "LoanLayers$Text", name := "kindOf", desc := "(I)I" } : Jvm.MethodName) prog_7_method_17_code (1 : Nat) (Option.some Jvm.ClassFile.FieldType.int) ∈ lwW := lw_in (List.mem_append_right _ (List.mem_of_getElem? (i := 244) (by decide +kernel))) rfl
theorem q_245 : Jvm.Cond.methodLink "LoanLayers$Text" (38 : Nat) ({ cls := "LoanLayers$Text", name := "readClause", desc := "(LLoanLayers$World;)Z" } : Jvm.MethodName) ∈ lwW := lw_in (List.mem_append_right _ (List.mem_of_getElem? (i := 245) (by decide +kernel))) rfl
theorem q_247 : Jvm.Cond.instanceMethod ({ cls := "LoanLayers$Text", name := "readClause", desc := "(LLoanLayers$World;)Z" } : Jvm.MethodName) ∈ lwW := lw_in (List.mem_append_right _ (List.mem_of_getElem? (i := 247) (by decide +kernel))) rfl
theorem q_248 : Jvm.Cond.code ({ cls := "LoanLayers$Text", name := "readClause", desc := "(LLoanLayers$World;)Z" } : Jvm.MethodName) prog_7_method_5_code (2 : Nat) (Option.some Jvm.ClassFile.FieldType.boolean) ∈ lwW := lw_in (List.mem_append_right _ (List.mem_of_getElem? (i := 248) (by decide +kernel))) rfl
theorem q_250 : Jvm.Cond.methodLink "LoanLayers$Text" (48 : Nat) ({ cls := "LoanLayers$Text", name := "isWord", desc := "(Ljava/lang/String;)Z" } : Jvm.MethodName) ∈ lwW := lw_in (List.mem_append_right _ (List.mem_of_getElem? (i := 250) (by decide +kernel))) rfl
theorem q_252 : Jvm.Cond.instanceMethod ({ cls := "LoanLayers$Text", name := "isWord", desc := "(Ljava/lang/String;)Z" } : Jvm.MethodName) ∈ lwW := lw_in (List.mem_append_right _ (List.mem_of_getElem? (i := 252) (by decide +kernel))) rfl
theorem q_253 : Jvm.Cond.code ({ cls := "LoanLayers$Text", name := "isWord", desc := "(Ljava/lang/String;)Z" } : Jvm.MethodName) prog_7_method_15_code (3 : Nat) (Option.some Jvm.ClassFile.FieldType.boolean) ∈ lwW := lw_in (List.mem_append_right _ (List.mem_of_getElem? (i := 253) (by decide +kernel))) rfl
theorem q_254 : Jvm.Cond.methodLink "LoanLayers$Text" (137 : Nat) ({ cls := "java/lang/String", name := "length", desc := "()I" } : Jvm.MethodName) ∈ lwW := lw_in (List.mem_append_right _ (List.mem_of_getElem? (i := 254) (by decide +kernel))) rfl
theorem q_255 : Jvm.Cond.instanceMethod ({ cls := "java/lang/String", name := "length", desc := "()I" } : Jvm.MethodName) ∈ lwW := lw_in (List.mem_append_right _ (List.mem_of_getElem? (i := 255) (by decide +kernel))) rfl
theorem q_256 : Jvm.Cond.selects "java/lang/String" ({ cls := "java/lang/String", name := "length", desc := "()I" } : Jvm.MethodName) ({ cls := "java/lang/String", name := "length", desc := "()I" } : Jvm.MethodName) ∈ lwW := lw_in (List.mem_append_right _ (List.mem_of_getElem? (i := 256) (by decide +kernel))) rfl
theorem q_257 : Jvm.Cond.code ({ cls := "java/lang/String", name := "length", desc := "()I" } : Jvm.MethodName) prog_14_method_54_code (1 : Nat) (Option.some Jvm.ClassFile.FieldType.int) ∈ lwW := lw_in (List.mem_append_right _ (List.mem_of_getElem? (i := 257) (by decide +kernel))) rfl
theorem q_258 : Jvm.Cond.methodLink "java/lang/String" (335 : Nat) ({ cls := "java/lang/String", name := "coder", desc := "()B" } : Jvm.MethodName) ∈ lwW := lw_in (List.mem_append_right _ (List.mem_of_getElem? (i := 258) (by decide +kernel))) rfl
theorem q_259 : Jvm.Cond.instanceMethod ({ cls := "java/lang/String", name := "coder", desc := "()B" } : Jvm.MethodName) ∈ lwW := lw_in (List.mem_append_right _ (List.mem_of_getElem? (i := 259) (by decide +kernel))) rfl
theorem q_260 : Jvm.Cond.selects "java/lang/String" ({ cls := "java/lang/String", name := "coder", desc := "()B" } : Jvm.MethodName) ({ cls := "java/lang/String", name := "coder", desc := "()B" } : Jvm.MethodName) ∈ lwW := lw_in (List.mem_append_right _ (List.mem_of_getElem? (i := 260) (by decide +kernel))) rfl
theorem q_261 : Jvm.Cond.code ({ cls := "java/lang/String", name := "coder", desc := "()B" } : Jvm.MethodName) prog_14_method_152_code (1 : Nat) (Option.some Jvm.ClassFile.FieldType.byte) ∈ lwW := lw_in (List.mem_append_right _ (List.mem_of_getElem? (i := 261) (by decide +kernel))) rfl
theorem q_262 : Jvm.Cond.fieldLink "java/lang/String" (38 : Nat) "java/lang/String" "COMPACT_STRINGS" "Z" ∈ lwW := lw_in (List.mem_append_right _ (List.mem_of_getElem? (i := 262) (by decide +kernel))) rfl
theorem q_264 : Jvm.Cond.methodLink "LoanLayers$Text" (141 : Nat) ({ cls := "java/lang/String", name := "charAt", desc := "(I)C" } : Jvm.MethodName) ∈ lwW := lw_in (List.mem_append_right _ (List.mem_of_getElem? (i := 264) (by decide +kernel))) rfl
theorem q_265 : Jvm.Cond.instanceMethod ({ cls := "java/lang/String", name := "charAt", desc := "(I)C" } : Jvm.MethodName) ∈ lwW := lw_in (List.mem_append_right _ (List.mem_of_getElem? (i := 265) (by decide +kernel))) rfl
theorem q_266 : Jvm.Cond.selects "java/lang/String" ({ cls := "java/lang/String", name := "charAt", desc := "(I)C" } : Jvm.MethodName) ({ cls := "java/lang/String", name := "charAt", desc := "(I)C" } : Jvm.MethodName) ∈ lwW := lw_in (List.mem_append_right _ (List.mem_of_getElem? (i := 266) (by decide +kernel))) rfl
theorem q_267 : Jvm.Cond.code ({ cls := "java/lang/String", name := "charAt", desc := "(I)C" } : Jvm.MethodName) prog_14_method_56_code (2 : Nat) (Option.some Jvm.ClassFile.FieldType.char) ∈ lwW := lw_in (List.mem_append_right _ (List.mem_of_getElem? (i := 267) (by decide +kernel))) rfl
theorem q_268 : Jvm.Cond.methodLink "java/lang/String" (492 : Nat) ({ cls := "java/lang/String", name := "isLatin1", desc := "()Z" } : Jvm.MethodName) ∈ lwW := lw_in (List.mem_append_right _ (List.mem_of_getElem? (i := 268) (by decide +kernel))) rfl
theorem q_269 : Jvm.Cond.instanceMethod ({ cls := "java/lang/String", name := "isLatin1", desc := "()Z" } : Jvm.MethodName) ∈ lwW := lw_in (List.mem_append_right _ (List.mem_of_getElem? (i := 269) (by decide +kernel))) rfl
theorem q_270 : Jvm.Cond.selects "java/lang/String" ({ cls := "java/lang/String", name := "isLatin1", desc := "()Z" } : Jvm.MethodName) ({ cls := "java/lang/String", name := "isLatin1", desc := "()Z" } : Jvm.MethodName) ∈ lwW := lw_in (List.mem_append_right _ (List.mem_of_getElem? (i := 270) (by decide +kernel))) rfl
theorem q_271 : Jvm.Cond.code ({ cls := "java/lang/String", name := "isLatin1", desc := "()Z" } : Jvm.MethodName) prog_14_method_154_code (1 : Nat) (Option.some Jvm.ClassFile.FieldType.boolean) ∈ lwW := lw_in (List.mem_append_right _ (List.mem_of_getElem? (i := 271) (by decide +kernel))) rfl
theorem q_272 : Jvm.Cond.methodLink "java/lang/String" (495 : Nat) ({ cls := "java/lang/StringLatin1", name := "charAt", desc := "([BI)C" } : Jvm.MethodName) ∈ lwW := lw_in (List.mem_append_right _ (List.mem_of_getElem? (i := 272) (by decide +kernel))) rfl
theorem q_273 : Jvm.Cond.static ({ cls := "java/lang/StringLatin1", name := "charAt", desc := "([BI)C" } : Jvm.MethodName) ∈ lwW := lw_in (List.mem_append_right _ (List.mem_of_getElem? (i := 273) (by decide +kernel))) rfl
theorem q_274 : Jvm.Cond.code ({ cls := "java/lang/StringLatin1", name := "charAt", desc := "([BI)C" } : Jvm.MethodName) prog_15_method_2_code (2 : Nat) (Option.some Jvm.ClassFile.FieldType.char) ∈ lwW := lw_in (List.mem_append_right _ (List.mem_of_getElem? (i := 274) (by decide +kernel))) rfl
theorem q_275 : Jvm.Cond.methodLink "java/lang/StringLatin1" (9 : Nat) ({ cls := "java/lang/String", name := "checkIndex", desc := "(II)V" } : Jvm.MethodName) ∈ lwW := lw_in (List.mem_append_right _ (List.mem_of_getElem? (i := 275) (by decide +kernel))) rfl
theorem q_276 : Jvm.Cond.static ({ cls := "java/lang/String", name := "checkIndex", desc := "(II)V" } : Jvm.MethodName) ∈ lwW := lw_in (List.mem_append_right _ (List.mem_of_getElem? (i := 276) (by decide +kernel))) rfl
theorem q_277 : Jvm.Cond.code ({ cls := "java/lang/String", name := "checkIndex", desc := "(II)V" } : Jvm.MethodName) prog_14_method_155_code (2 : Nat) (Option.none : Option Jvm.ClassFile.FieldType) ∈ lwW := lw_in (List.mem_append_right _ (List.mem_of_getElem? (i := 277) (by decide +kernel))) rfl
theorem q_278 : Jvm.Cond.fieldLink "java/lang/String" (1053 : Nat) "jdk/internal/util/Preconditions" "SIOOBE_FORMATTER" "Ljava/util/function/BiFunction;" ∈ lwW := lw_in (List.mem_append_right _ (List.mem_of_getElem? (i := 278) (by decide +kernel))) rfl
theorem q_280 : Jvm.Cond.methodLink "java/lang/String" (1059 : Nat) ({ cls := "jdk/internal/util/Preconditions", name := "checkIndex", desc := "(IILjava/util/function/BiFunction;)I" } : Jvm.MethodName) ∈ lwW := lw_in (List.mem_append_right _ (List.mem_of_getElem? (i := 280) (by decide +kernel))) rfl
theorem q_281 : Jvm.Cond.static ({ cls := "jdk/internal/util/Preconditions", name := "checkIndex", desc := "(IILjava/util/function/BiFunction;)I" } : Jvm.MethodName) ∈ lwW := lw_in (List.mem_append_right _ (List.mem_of_getElem? (i := 281) (by decide +kernel))) rfl
theorem q_282 : Jvm.Cond.code ({ cls := "jdk/internal/util/Preconditions", name := "checkIndex", desc := "(IILjava/util/function/BiFunction;)I" } : Jvm.MethodName) prog_17_method_11_code (3 : Nat) (Option.some Jvm.ClassFile.FieldType.int) ∈ lwW := lw_in (List.mem_append_right _ (List.mem_of_getElem? (i := 282) (by decide +kernel))) rfl
theorem q_283 : Jvm.Cond.methodLink "java/lang/String" (498 : Nat) ({ cls := "java/lang/StringUTF16", name := "charAt", desc := "([BI)C" } : Jvm.MethodName) ∈ lwW := lw_in (List.mem_append_right _ (List.mem_of_getElem? (i := 283) (by decide +kernel))) rfl
theorem q_284 : Jvm.Cond.static ({ cls := "java/lang/StringUTF16", name := "charAt", desc := "([BI)C" } : Jvm.MethodName) ∈ lwW := lw_in (List.mem_append_right _ (List.mem_of_getElem? (i := 284) (by decide +kernel))) rfl
theorem q_285 : Jvm.Cond.code ({ cls := "java/lang/StringUTF16", name := "charAt", desc := "([BI)C" } : Jvm.MethodName) prog_16_method_83_code (2 : Nat) (Option.some Jvm.ClassFile.FieldType.char) ∈ lwW := lw_in (List.mem_append_right _ (List.mem_of_getElem? (i := 285) (by decide +kernel))) rfl
theorem q_286 : Jvm.Cond.methodLink "java/lang/StringUTF16" (67 : Nat) ({ cls := "java/lang/StringUTF16", name := "checkIndex", desc := "(I[B)V" } : Jvm.MethodName) ∈ lwW := lw_in (List.mem_append_right _ (List.mem_of_getElem? (i := 286) (by decide +kernel))) rfl
theorem q_287 : Jvm.Cond.static ({ cls := "java/lang/StringUTF16", name := "checkIndex", desc := "(I[B)V" } : Jvm.MethodName) ∈ lwW := lw_in (List.mem_append_right _ (List.mem_of_getElem? (i := 287) (by decide +kernel))) rfl
theorem q_288 : Jvm.Cond.code ({ cls := "java/lang/StringUTF16", name := "checkIndex", desc := "(I[B)V" } : Jvm.MethodName) prog_16_method_91_code (2 : Nat) (Option.none : Option Jvm.ClassFile.FieldType) ∈ lwW := lw_in (List.mem_append_right _ (List.mem_of_getElem? (i := 288) (by decide +kernel))) rfl
theorem q_289 : Jvm.Cond.methodLink "java/lang/StringUTF16" (48 : Nat) ({ cls := "java/lang/StringUTF16", name := "length", desc := "([B)I" } : Jvm.MethodName) ∈ lwW := lw_in (List.mem_append_right _ (List.mem_of_getElem? (i := 289) (by decide +kernel))) rfl
theorem q_290 : Jvm.Cond.static ({ cls := "java/lang/StringUTF16", name := "length", desc := "([B)I" } : Jvm.MethodName) ∈ lwW := lw_in (List.mem_append_right _ (List.mem_of_getElem? (i := 290) (by decide +kernel))) rfl
theorem q_291 : Jvm.Cond.code ({ cls := "java/lang/StringUTF16", name := "length", desc := "([B)I" } : Jvm.MethodName) prog_16_method_6_code (1 : Nat) (Option.some Jvm.ClassFile.FieldType.int) ∈ lwW := lw_in (List.mem_append_right _ (List.mem_of_getElem? (i := 291) (by decide +kernel))) rfl
theorem q_292 : Jvm.Cond.methodLink "java/lang/StringUTF16" (414 : Nat) ({ cls := "java/lang/String", name := "checkIndex", desc := "(II)V" } : Jvm.MethodName) ∈ lwW := lw_in (List.mem_append_right _ (List.mem_of_getElem? (i := 292) (by decide +kernel))) rfl
theorem q_293 : Jvm.Cond.methodLink "java/lang/StringUTF16" (71 : Nat) ({ cls := "java/lang/StringUTF16", name := "getChar", desc := "([BI)C" } : Jvm.MethodName) ∈ lwW := lw_in (List.mem_append_right _ (List.mem_of_getElem? (i := 293) (by decide +kernel))) rfl
theorem q_294 : Jvm.Cond.static ({ cls := "java/lang/StringUTF16", name := "getChar", desc := "([BI)C" } : Jvm.MethodName) ∈ lwW := lw_in (List.mem_append_right _ (List.mem_of_getElem? (i := 294) (by decide +kernel))) rfl
theorem q_295 : Jvm.Cond.code ({ cls := "java/lang/StringUTF16", name := "getChar", desc := "([BI)C" } : Jvm.MethodName) prog_16_method_5_code (2 : Nat) (Option.some Jvm.ClassFile.FieldType.char) ∈ lwW := lw_in (List.mem_append_right _ (List.mem_of_getElem? (i := 295) (by decide +kernel))) rfl
theorem q_296 : Jvm.Cond.fieldLink "java/lang/StringUTF16" (44 : Nat) "java/lang/StringUTF16" "$assertionsDisabled" "Z" ∈ lwW := lw_in (List.mem_append_right _ (List.mem_of_getElem? (i := 296) (by decide +kernel))) rfl
theorem q_298 : Jvm.Cond.fieldLink "java/lang/StringUTF16" (59 : Nat) "java/lang/StringUTF16" "HI_BYTE_SHIFT" "I" ∈ lwW := lw_in (List.mem_append_right _ (List.mem_of_getElem? (i := 298) (by decide +kernel))) rfl
theorem q_300 : Jvm.Cond.fieldLink "java/lang/StringUTF16" (63 : Nat) "java/lang/StringUTF16" "LO_BYTE_SHIFT" "I" ∈ lwW := lw_in (List.mem_append_right _ (List.mem_of_getElem? (i := 300) (by decide +kernel))) rfl
theorem q_302 : Jvm.Cond.methodLink "LoanLayers$Text" (52 : Nat) ({ cls := "LoanLayers$Text", name := "readLaw", desc := "(LLoanLayers$World;)Z" } : Jvm.MethodName) ∈ lwW := lw_in (List.mem_append_right _ (List.mem_of_getElem? (i := 302) (by decide +kernel))) rfl
theorem q_304 : Jvm.Cond.instanceMethod ({ cls := "LoanLayers$Text", name := "readLaw", desc := "(LLoanLayers$World;)Z" } : Jvm.MethodName) ∈ lwW := lw_in (List.mem_append_right _ (List.mem_of_getElem? (i := 304) (by decide +kernel))) rfl
theorem q_305 : Jvm.Cond.code ({ cls := "LoanLayers$Text", name := "readLaw", desc := "(LLoanLayers$World;)Z" } : Jvm.MethodName) prog_7_method_6_code (8 : Nat) (Option.some Jvm.ClassFile.FieldType.boolean) ∈ lwW := lw_in (List.mem_append_right _ (List.mem_of_getElem? (i := 305) (by decide +kernel))) rfl
theorem q_306 : Jvm.Cond.methodLink "LoanLayers$Text" (75 : Nat) ({ cls := "LoanLayers$Text", name := "number", desc := "(II)I" } : Jvm.MethodName) ∈ lwW := lw_in (List.mem_append_right _ (List.mem_of_getElem? (i := 306) (by decide +kernel))) rfl
theorem q_308 : Jvm.Cond.instanceMethod ({ cls := "LoanLayers$Text", name := "number", desc := "(II)I" } : Jvm.MethodName) ∈ lwW := lw_in (List.mem_append_right _ (List.mem_of_getElem? (i := 308) (by decide +kernel))) rfl
theorem q_309 : Jvm.Cond.code ({ cls := "LoanLayers$Text", name := "number", desc := "(II)I" } : Jvm.MethodName) prog_7_method_10_code (5 : Nat) (Option.some Jvm.ClassFile.FieldType.int) ∈ lwW := lw_in (List.mem_append_right _ (List.mem_of_getElem? (i := 309) (by decide +kernel))) rfl
theorem q_310 : Jvm.Cond.methodLink "LoanLayers$Text" (79 : Nat) ({ cls := "LoanLayers$World", name := "hasLaw", desc := "(II)Z" } : Jvm.MethodName) ∈ lwW := lw_in (List.mem_append_right _ (List.mem_of_getElem? (i := 310) (by decide +kernel))) rfl
theorem q_311 : Jvm.Cond.instanceMethod ({ cls := "LoanLayers$World", name := "hasLaw", desc := "(II)Z" } : Jvm.MethodName) ∈ lwW := lw_in (List.mem_append_right _ (List.mem_of_getElem? (i := 311) (by decide +kernel))) rfl
theorem q_312 : Jvm.Cond.selects "LoanLayers$World" ({ cls := "LoanLayers$World", name := "hasLaw", desc := "(II)Z" } : Jvm.MethodName) ({ cls := "LoanLayers$World", name := "hasLaw", desc := "(II)Z" } : Jvm.MethodName) ∈ lwW := lw_in (List.mem_append_right _ (List.mem_of_getElem? (i := 312) (by decide +kernel))) rfl
theorem q_313 : Jvm.Cond.code ({ cls := "LoanLayers$World", name := "hasLaw", desc := "(II)Z" } : Jvm.MethodName) prog_10_method_5_code (7 : Nat) (Option.some Jvm.ClassFile.FieldType.boolean) ∈ lwW := lw_in (List.mem_append_right _ (List.mem_of_getElem? (i := 313) (by decide +kernel))) rfl
theorem q_314 : Jvm.Cond.methodLink "LoanLayers$Text" (83 : Nat) ({ cls := "LoanLayers$Text", name := "letter", desc := "()I" } : Jvm.MethodName) ∈ lwW := lw_in (List.mem_append_right _ (List.mem_of_getElem? (i := 314) (by decide +kernel))) rfl
theorem q_316 : Jvm.Cond.instanceMethod ({ cls := "LoanLayers$Text", name := "letter", desc := "()I" } : Jvm.MethodName) ∈ lwW := lw_in (List.mem_append_right _ (List.mem_of_getElem? (i := 316) (by decide +kernel))) rfl
theorem q_317 : Jvm.Cond.code ({ cls := "LoanLayers$Text", name := "letter", desc := "()I" } : Jvm.MethodName) prog_7_method_11_code (1 : Nat) (Option.some Jvm.ClassFile.FieldType.int) ∈ lwW := lw_in (List.mem_append_right _ (List.mem_of_getElem? (i := 317) (by decide +kernel))) rfl
theorem q_318 : Jvm.Cond.methodLink "LoanLayers$Text" (42 : Nat) ({ cls := "LoanLayers$Text", name := "isSign", desc := "(I)Z" } : Jvm.MethodName) ∈ lwW := lw_in (List.mem_append_right _ (List.mem_of_getElem? (i := 318) (by decide +kernel))) rfl
theorem q_320 : Jvm.Cond.instanceMethod ({ cls := "LoanLayers$Text", name := "isSign", desc := "(I)Z" } : Jvm.MethodName) ∈ lwW := lw_in (List.mem_append_right _ (List.mem_of_getElem? (i := 320) (by decide +kernel))) rfl
theorem q_321 : Jvm.Cond.code ({ cls := "LoanLayers$Text", name := "isSign", desc := "(I)Z" } : Jvm.MethodName) prog_7_method_14_code (2 : Nat) (Option.some Jvm.ClassFile.FieldType.boolean) ∈ lwW := lw_in (List.mem_append_right _ (List.mem_of_getElem? (i := 321) (by decide +kernel))) rfl
theorem q_322 : Jvm.Cond.methodLink "LoanLayers$Text" (87 : Nat) ({ cls := "LoanLayers$Text", name := "environment", desc := "()I" } : Jvm.MethodName) ∈ lwW := lw_in (List.mem_append_right _ (List.mem_of_getElem? (i := 322) (by decide +kernel))) rfl
theorem q_324 : Jvm.Cond.instanceMethod ({ cls := "LoanLayers$Text", name := "environment", desc := "()I" } : Jvm.MethodName) ∈ lwW := lw_in (List.mem_append_right _ (List.mem_of_getElem? (i := 324) (by decide +kernel))) rfl
theorem q_325 : Jvm.Cond.code ({ cls := "LoanLayers$Text", name := "environment", desc := "()I" } : Jvm.MethodName) prog_7_method_13_code (1 : Nat) (Option.some Jvm.ClassFile.FieldType.int) ∈ lwW := lw_in (List.mem_append_right _ (List.mem_of_getElem? (i := 325) (by decide +kernel))) rfl
theorem q_326 : Jvm.Cond.classLink "LoanLayers$Text" (90 : Nat) "LoanLayers$Law" ∈ lwW := lw_in (List.mem_append_right _ (List.mem_of_getElem? (i := 326) (by decide +kernel))) rfl
theorem q_327 : Jvm.Cond.instantiable "LoanLayers$Law" (6 : Nat) ∈ lwW := lw_in (List.mem_append_right _ (List.mem_of_getElem? (i := 327) (by decide +kernel))) rfl
theorem q_328 : Jvm.Cond.methodLink "LoanLayers$Text" (92 : Nat) ({ cls := "LoanLayers$Law", name := "<init>", desc := "(IIIIII)V" } : Jvm.MethodName) ∈ lwW := lw_in (List.mem_append_right _ (List.mem_of_getElem? (i := 328) (by decide +kernel))) rfl
theorem q_329 : Jvm.Cond.instanceMethod ({ cls := "LoanLayers$Law", name := "<init>", desc := "(IIIIII)V" } : Jvm.MethodName) ∈ lwW := lw_in (List.mem_append_right _ (List.mem_of_getElem? (i := 329) (by decide +kernel))) rfl
theorem q_330 : Jvm.Cond.code ({ cls := "LoanLayers$Law", name := "<init>", desc := "(IIIIII)V" } : Jvm.MethodName) prog_3_method_1_code (7 : Nat) (Option.none : Option Jvm.ClassFile.FieldType) ∈ lwW := lw_in (List.mem_append_right _ (List.mem_of_getElem? (i := 330) (by decide +kernel))) rfl
theorem q_331 : Jvm.Cond.methodLink "LoanLayers$Law" (3 : Nat) ({ cls := "java/lang/Object", name := "<init>", desc := "()V" } : Jvm.MethodName) ∈ lwW := lw_in (List.mem_append_right _ (List.mem_of_getElem? (i := 331) (by decide +kernel))) rfl
theorem q_332 : Jvm.Cond.fieldLink "LoanLayers$Law" (9 : Nat) "LoanLayers$Law" "tongue" "I" ∈ lwW := lw_in (List.mem_append_right _ (List.mem_of_getElem? (i := 332) (by decide +kernel))) rfl
theorem q_333 : Jvm.Cond.fieldLink "LoanLayers$Way" (67 : Nat) "LoanLayers$Law" "tongue" "I" ∈ lwW := lw_in (List.mem_append_right _ (List.mem_of_getElem? (i := 333) (by decide +kernel))) rfl
theorem q_334 : Jvm.Cond.fieldLink "LoanLayers$World" (46 : Nat) "LoanLayers$Law" "tongue" "I" ∈ lwW := lw_in (List.mem_append_right _ (List.mem_of_getElem? (i := 334) (by decide +kernel))) rfl
theorem q_335 : Jvm.Cond.fieldLink "LoanLayers" (174 : Nat) "LoanLayers$Law" "tongue" "I" ∈ lwW := lw_in (List.mem_append_right _ (List.mem_of_getElem? (i := 335) (by decide +kernel))) rfl
theorem q_336 : Jvm.Cond.fieldLink "LoanLayers$Law" (15 : Nat) "LoanLayers$Law" "date" "I" ∈ lwW := lw_in (List.mem_append_right _ (List.mem_of_getElem? (i := 336) (by decide +kernel))) rfl
theorem q_337 : Jvm.Cond.fieldLink "LoanLayers$Windows" (47 : Nat) "LoanLayers$Law" "date" "I" ∈ lwW := lw_in (List.mem_append_right _ (List.mem_of_getElem? (i := 337) (by decide +kernel))) rfl
theorem q_338 : Jvm.Cond.fieldLink "LoanLayers$Way" (60 : Nat) "LoanLayers$Law" "date" "I" ∈ lwW := lw_in (List.mem_append_right _ (List.mem_of_getElem? (i := 338) (by decide +kernel))) rfl
theorem q_339 : Jvm.Cond.fieldLink "LoanLayers$World" (49 : Nat) "LoanLayers$Law" "date" "I" ∈ lwW := lw_in (List.mem_append_right _ (List.mem_of_getElem? (i := 339) (by decide +kernel))) rfl
theorem q_340 : Jvm.Cond.fieldLink "LoanLayers" (177 : Nat) "LoanLayers$Law" "date" "I" ∈ lwW := lw_in (List.mem_append_right _ (List.mem_of_getElem? (i := 340) (by decide +kernel))) rfl
theorem q_341 : Jvm.Cond.fieldLink "LoanLayers$Law" (18 : Nat) "LoanLayers$Law" "x" "I" ∈ lwW := lw_in (List.mem_append_right _ (List.mem_of_getElem? (i := 341) (by decide +kernel))) rfl
theorem q_342 : Jvm.Cond.fieldLink "LoanLayers" (180 : Nat) "LoanLayers$Law" "x" "I" ∈ lwW := lw_in (List.mem_append_right _ (List.mem_of_getElem? (i := 342) (by decide +kernel))) rfl
theorem q_343 : Jvm.Cond.fieldLink "LoanLayers$Law" (21 : Nat) "LoanLayers$Law" "y" "I" ∈ lwW := lw_in (List.mem_append_right _ (List.mem_of_getElem? (i := 343) (by decide +kernel))) rfl
theorem q_344 : Jvm.Cond.fieldLink "LoanLayers" (183 : Nat) "LoanLayers$Law" "y" "I" ∈ lwW := lw_in (List.mem_append_right _ (List.mem_of_getElem? (i := 344) (by decide +kernel))) rfl
theorem q_345 : Jvm.Cond.fieldLink "LoanLayers$Law" (24 : Nat) "LoanLayers$Law" "where" "I" ∈ lwW := lw_in (List.mem_append_right _ (List.mem_of_getElem? (i := 345) (by decide +kernel))) rfl
theorem q_346 : Jvm.Cond.fieldLink "LoanLayers" (186 : Nat) "LoanLayers$Law" "where" "I" ∈ lwW := lw_in (List.mem_append_right _ (List.mem_of_getElem? (i := 346) (by decide +kernel))) rfl
theorem q_347 : Jvm.Cond.fieldLink "LoanLayers$Law" (27 : Nat) "LoanLayers$Law" "z" "I" ∈ lwW := lw_in (List.mem_append_right _ (List.mem_of_getElem? (i := 347) (by decide +kernel))) rfl
theorem q_348 : Jvm.Cond.fieldLink "LoanLayers" (189 : Nat) "LoanLayers$Law" "z" "I" ∈ lwW := lw_in (List.mem_append_right _ (List.mem_of_getElem? (i := 348) (by decide +kernel))) rfl
theorem q_349 : Jvm.Cond.laysFinal "LoanLayers$Law" "LoanLayers$Law" "tongue" "I" ∈ lwW := lw_in (List.mem_append_right _ (List.mem_of_getElem? (i := 349) (by decide +kernel))) rfl
theorem q_351 : Jvm.Cond.laysFinal "LoanLayers$Law" "LoanLayers$Law" "date" "I" ∈ lwW := lw_in (List.mem_append_right _ (List.mem_of_getElem? (i := 351) (by decide +kernel))) rfl
theorem q_353 : Jvm.Cond.laysFinal "LoanLayers$Law" "LoanLayers$Law" "x" "I" ∈ lwW := lw_in (List.mem_append_right _ (List.mem_of_getElem? (i := 353) (by decide +kernel))) rfl
theorem q_355 : Jvm.Cond.laysFinal "LoanLayers$Law" "LoanLayers$Law" "y" "I" ∈ lwW := lw_in (List.mem_append_right _ (List.mem_of_getElem? (i := 355) (by decide +kernel))) rfl
theorem q_357 : Jvm.Cond.laysFinal "LoanLayers$Law" "LoanLayers$Law" "where" "I" ∈ lwW := lw_in (List.mem_append_right _ (List.mem_of_getElem? (i := 357) (by decide +kernel))) rfl
theorem q_359 : Jvm.Cond.laysFinal "LoanLayers$Law" "LoanLayers$Law" "z" "I" ∈ lwW := lw_in (List.mem_append_right _ (List.mem_of_getElem? (i := 359) (by decide +kernel))) rfl
theorem q_362 : Jvm.Cond.arrayClass Jvm.ClassFile.FieldType.byte ∈ lwW := lw_in (List.mem_append_right _ (List.mem_of_getElem? (i := 362) (by decide +kernel))) rfl
theorem q_363 : Jvm.Cond.methodLink "LoanLayers$Text" (95 : Nat) ({ cls := "LoanLayers$World", name := "addLaw", desc := "(LLoanLayers$Law;)I" } : Jvm.MethodName) ∈ lwW := lw_in (List.mem_append_right _ (List.mem_of_getElem? (i := 363) (by decide +kernel))) rfl
theorem q_364 : Jvm.Cond.instanceMethod ({ cls := "LoanLayers$World", name := "addLaw", desc := "(LLoanLayers$Law;)I" } : Jvm.MethodName) ∈ lwW := lw_in (List.mem_append_right _ (List.mem_of_getElem? (i := 364) (by decide +kernel))) rfl
theorem q_365 : Jvm.Cond.selects "LoanLayers$World" ({ cls := "LoanLayers$World", name := "addLaw", desc := "(LLoanLayers$Law;)I" } : Jvm.MethodName) ({ cls := "LoanLayers$World", name := "addLaw", desc := "(LLoanLayers$Law;)I" } : Jvm.MethodName) ∈ lwW := lw_in (List.mem_append_right _ (List.mem_of_getElem? (i := 365) (by decide +kernel))) rfl
theorem q_366 : Jvm.Cond.code ({ cls := "LoanLayers$World", name := "addLaw", desc := "(LLoanLayers$Law;)I" } : Jvm.MethodName) prog_10_method_7_code (3 : Nat) (Option.some Jvm.ClassFile.FieldType.int) ∈ lwW := lw_in (List.mem_append_right _ (List.mem_of_getElem? (i := 366) (by decide +kernel))) rfl
theorem q_367 : Jvm.Cond.methodLink "LoanLayers$World" (52 : Nat) ({ cls := "LoanLayers$Law", name := "isBefore", desc := "(LLoanLayers$Law;)Z" } : Jvm.MethodName) ∈ lwW := lw_in (List.mem_append_right _ (List.mem_of_getElem? (i := 367) (by decide +kernel))) rfl
theorem q_368 : Jvm.Cond.instanceMethod ({ cls := "LoanLayers$Law", name := "isBefore", desc := "(LLoanLayers$Law;)Z" } : Jvm.MethodName) ∈ lwW := lw_in (List.mem_append_right _ (List.mem_of_getElem? (i := 368) (by decide +kernel))) rfl
theorem q_369 : Jvm.Cond.selects "LoanLayers$Law" ({ cls := "LoanLayers$Law", name := "isBefore", desc := "(LLoanLayers$Law;)Z" } : Jvm.MethodName) ({ cls := "LoanLayers$Law", name := "isBefore", desc := "(LLoanLayers$Law;)Z" } : Jvm.MethodName) ∈ lwW := lw_in (List.mem_append_right _ (List.mem_of_getElem? (i := 369) (by decide +kernel))) rfl
theorem q_370 : Jvm.Cond.code ({ cls := "LoanLayers$Law", name := "isBefore", desc := "(LLoanLayers$Law;)Z" } : Jvm.MethodName) prog_3_method_2_code (2 : Nat) (Option.some Jvm.ClassFile.FieldType.boolean) ∈ lwW := lw_in (List.mem_append_right _ (List.mem_of_getElem? (i := 370) (by decide +kernel))) rfl
theorem q_372 : Jvm.Cond.methodLink "LoanLayers$Text" (57 : Nat) ({ cls := "LoanLayers$Text", name := "readMeeting", desc := "(LLoanLayers$World;)Z" } : Jvm.MethodName) ∈ lwW := lw_in (List.mem_append_right _ (List.mem_of_getElem? (i := 372) (by decide +kernel))) rfl
theorem q_374 : Jvm.Cond.instanceMethod ({ cls := "LoanLayers$Text", name := "readMeeting", desc := "(LLoanLayers$World;)Z" } : Jvm.MethodName) ∈ lwW := lw_in (List.mem_append_right _ (List.mem_of_getElem? (i := 374) (by decide +kernel))) rfl
theorem q_375 : Jvm.Cond.code ({ cls := "LoanLayers$Text", name := "readMeeting", desc := "(LLoanLayers$World;)Z" } : Jvm.MethodName) prog_7_method_7_code (5 : Nat) (Option.some Jvm.ClassFile.FieldType.boolean) ∈ lwW := lw_in (List.mem_append_right _ (List.mem_of_getElem? (i := 375) (by decide +kernel))) rfl
theorem q_376 : Jvm.Cond.methodLink "LoanLayers$Text" (99 : Nat) ({ cls := "LoanLayers$Text", name := "readPair", desc := "()I" } : Jvm.MethodName) ∈ lwW := lw_in (List.mem_append_right _ (List.mem_of_getElem? (i := 376) (by decide +kernel))) rfl
theorem q_378 : Jvm.Cond.instanceMethod ({ cls := "LoanLayers$Text", name := "readPair", desc := "()I" } : Jvm.MethodName) ∈ lwW := lw_in (List.mem_append_right _ (List.mem_of_getElem? (i := 378) (by decide +kernel))) rfl
theorem q_379 : Jvm.Cond.code ({ cls := "LoanLayers$Text", name := "readPair", desc := "()I" } : Jvm.MethodName) prog_7_method_9_code (3 : Nat) (Option.some Jvm.ClassFile.FieldType.int) ∈ lwW := lw_in (List.mem_append_right _ (List.mem_of_getElem? (i := 379) (by decide +kernel))) rfl
theorem q_381 : Jvm.Cond.static ({ cls := "LoanLayers", name := "pairOf", desc := "(II)I" } : Jvm.MethodName) ∈ lwW := lw_in (List.mem_append_right _ (List.mem_of_getElem? (i := 381) (by decide +kernel))) rfl
theorem q_382 : Jvm.Cond.code ({ cls := "LoanLayers", name := "pairOf", desc := "(II)I" } : Jvm.MethodName) prog_1_method_33_code (2 : Nat) (Option.some Jvm.ClassFile.FieldType.int) ∈ lwW := lw_in (List.mem_append_right _ (List.mem_of_getElem? (i := 382) (by decide +kernel))) rfl
theorem q_383 : Jvm.Cond.methodLink "LoanLayers" (82 : Nat) ({ cls := "LoanLayers", name := "isTongue", desc := "(I)Z" } : Jvm.MethodName) ∈ lwW := lw_in (List.mem_append_right _ (List.mem_of_getElem? (i := 383) (by decide +kernel))) rfl
theorem q_384 : Jvm.Cond.static ({ cls := "LoanLayers", name := "isTongue", desc := "(I)Z" } : Jvm.MethodName) ∈ lwW := lw_in (List.mem_append_right _ (List.mem_of_getElem? (i := 384) (by decide +kernel))) rfl
theorem q_385 : Jvm.Cond.code ({ cls := "LoanLayers", name := "isTongue", desc := "(I)Z" } : Jvm.MethodName) prog_1_method_30_code (1 : Nat) (Option.some Jvm.ClassFile.FieldType.boolean) ∈ lwW := lw_in (List.mem_append_right _ (List.mem_of_getElem? (i := 385) (by decide +kernel))) rfl
theorem q_386 : Jvm.Cond.methodLink "LoanLayers$Text" (102 : Nat) ({ cls := "LoanLayers$World", name := "setMeeting", desc := "(III)V" } : Jvm.MethodName) ∈ lwW := lw_in (List.mem_append_right _ (List.mem_of_getElem? (i := 386) (by decide +kernel))) rfl
theorem q_388 : Jvm.Cond.methodLink "LoanLayers$Text" (62 : Nat) ({ cls := "LoanLayers$Text", name := "readLoan", desc := "(LLoanLayers$World;)Z" } : Jvm.MethodName) ∈ lwW := lw_in (List.mem_append_right _ (List.mem_of_getElem? (i := 388) (by decide +kernel))) rfl
theorem q_390 : Jvm.Cond.instanceMethod ({ cls := "LoanLayers$Text", name := "readLoan", desc := "(LLoanLayers$World;)Z" } : Jvm.MethodName) ∈ lwW := lw_in (List.mem_append_right _ (List.mem_of_getElem? (i := 390) (by decide +kernel))) rfl
theorem q_391 : Jvm.Cond.code ({ cls := "LoanLayers$Text", name := "readLoan", desc := "(LLoanLayers$World;)Z" } : Jvm.MethodName) prog_7_method_8_code (7 : Nat) (Option.some Jvm.ClassFile.FieldType.boolean) ∈ lwW := lw_in (List.mem_append_right _ (List.mem_of_getElem? (i := 391) (by decide +kernel))) rfl
theorem q_392 : Jvm.Cond.methodLink "LoanLayers$Text" (109 : Nat) ({ cls := "LoanLayers$Text", name := "form", desc := "(I)J" } : Jvm.MethodName) ∈ lwW := lw_in (List.mem_append_right _ (List.mem_of_getElem? (i := 392) (by decide +kernel))) rfl
theorem q_394 : Jvm.Cond.instanceMethod ({ cls := "LoanLayers$Text", name := "form", desc := "(I)J" } : Jvm.MethodName) ∈ lwW := lw_in (List.mem_append_right _ (List.mem_of_getElem? (i := 394) (by decide +kernel))) rfl
theorem q_395 : Jvm.Cond.code ({ cls := "LoanLayers$Text", name := "form", desc := "(I)J" } : Jvm.MethodName) prog_7_method_12_code (5 : Nat) (Option.some Jvm.ClassFile.FieldType.long) ∈ lwW := lw_in (List.mem_append_right _ (List.mem_of_getElem? (i := 395) (by decide +kernel))) rfl
theorem q_396 : Jvm.Cond.constantLong "LoanLayers$Text" (115 : Nat) (-1 : Int64) ∈ lwW := lw_in (List.mem_append_right _ (List.mem_of_getElem? (i := 396) (by decide +kernel))) rfl
theorem q_397 : Jvm.Cond.methodLink "LoanLayers$Text" (133 : Nat) ({ cls := "LoanLayers$Form", name := "longer", desc := "(JII)J" } : Jvm.MethodName) ∈ lwW := lw_in (List.mem_append_right _ (List.mem_of_getElem? (i := 397) (by decide +kernel))) rfl
theorem q_398 : Jvm.Cond.static ({ cls := "LoanLayers$Form", name := "longer", desc := "(JII)J" } : Jvm.MethodName) ∈ lwW := lw_in (List.mem_append_right _ (List.mem_of_getElem? (i := 398) (by decide +kernel))) rfl
theorem q_399 : Jvm.Cond.code ({ cls := "LoanLayers$Form", name := "longer", desc := "(JII)J" } : Jvm.MethodName) prog_2_method_4_code (4 : Nat) (Option.some Jvm.ClassFile.FieldType.long) ∈ lwW := lw_in (List.mem_append_right _ (List.mem_of_getElem? (i := 399) (by decide +kernel))) rfl
theorem q_400 : Jvm.Cond.classLink "LoanLayers$Text" (117 : Nat) "LoanLayers$Loan" ∈ lwW := lw_in (List.mem_append_right _ (List.mem_of_getElem? (i := 400) (by decide +kernel))) rfl
theorem q_401 : Jvm.Cond.instantiable "LoanLayers$Loan" (4 : Nat) ∈ lwW := lw_in (List.mem_append_right _ (List.mem_of_getElem? (i := 401) (by decide +kernel))) rfl
theorem q_402 : Jvm.Cond.methodLink "LoanLayers$Text" (119 : Nat) ({ cls := "LoanLayers$Loan", name := "<init>", desc := "(IIJJ)V" } : Jvm.MethodName) ∈ lwW := lw_in (List.mem_append_right _ (List.mem_of_getElem? (i := 402) (by decide +kernel))) rfl
theorem q_403 : Jvm.Cond.instanceMethod ({ cls := "LoanLayers$Loan", name := "<init>", desc := "(IIJJ)V" } : Jvm.MethodName) ∈ lwW := lw_in (List.mem_append_right _ (List.mem_of_getElem? (i := 403) (by decide +kernel))) rfl
theorem q_404 : Jvm.Cond.code ({ cls := "LoanLayers$Loan", name := "<init>", desc := "(IIJJ)V" } : Jvm.MethodName) prog_5_method_1_code (7 : Nat) (Option.none : Option Jvm.ClassFile.FieldType) ∈ lwW := lw_in (List.mem_append_right _ (List.mem_of_getElem? (i := 404) (by decide +kernel))) rfl
theorem q_405 : Jvm.Cond.methodLink "LoanLayers$Loan" (1 : Nat) ({ cls := "java/lang/Object", name := "<init>", desc := "()V" } : Jvm.MethodName) ∈ lwW := lw_in (List.mem_append_right _ (List.mem_of_getElem? (i := 405) (by decide +kernel))) rfl
theorem q_406 : Jvm.Cond.fieldLink "LoanLayers$Loan" (7 : Nat) "LoanLayers$Loan" "from" "I" ∈ lwW := lw_in (List.mem_append_right _ (List.mem_of_getElem? (i := 406) (by decide +kernel))) rfl
theorem q_407 : Jvm.Cond.fieldLink "LoanLayers$Windows" (22 : Nat) "LoanLayers$Loan" "from" "I" ∈ lwW := lw_in (List.mem_append_right _ (List.mem_of_getElem? (i := 407) (by decide +kernel))) rfl
theorem q_408 : Jvm.Cond.fieldLink "LoanLayers" (195 : Nat) "LoanLayers$Loan" "from" "I" ∈ lwW := lw_in (List.mem_append_right _ (List.mem_of_getElem? (i := 408) (by decide +kernel))) rfl
theorem q_409 : Jvm.Cond.fieldLink "LoanLayers$Loan" (13 : Nat) "LoanLayers$Loan" "to" "I" ∈ lwW := lw_in (List.mem_append_right _ (List.mem_of_getElem? (i := 409) (by decide +kernel))) rfl
theorem q_410 : Jvm.Cond.fieldLink "LoanLayers$Windows" (27 : Nat) "LoanLayers$Loan" "to" "I" ∈ lwW := lw_in (List.mem_append_right _ (List.mem_of_getElem? (i := 410) (by decide +kernel))) rfl
theorem q_411 : Jvm.Cond.fieldLink "LoanLayers$Layers" (36 : Nat) "LoanLayers$Loan" "to" "I" ∈ lwW := lw_in (List.mem_append_right _ (List.mem_of_getElem? (i := 411) (by decide +kernel))) rfl
theorem q_412 : Jvm.Cond.fieldLink "LoanLayers" (198 : Nat) "LoanLayers$Loan" "to" "I" ∈ lwW := lw_in (List.mem_append_right _ (List.mem_of_getElem? (i := 412) (by decide +kernel))) rfl
theorem q_413 : Jvm.Cond.fieldLink "LoanLayers$Loan" (16 : Nat) "LoanLayers$Loan" "word" "J" ∈ lwW := lw_in (List.mem_append_right _ (List.mem_of_getElem? (i := 413) (by decide +kernel))) rfl
theorem q_414 : Jvm.Cond.fieldLink "LoanLayers$Windows" (57 : Nat) "LoanLayers$Loan" "word" "J" ∈ lwW := lw_in (List.mem_append_right _ (List.mem_of_getElem? (i := 414) (by decide +kernel))) rfl
theorem q_415 : Jvm.Cond.fieldLink "LoanLayers" (144 : Nat) "LoanLayers$Loan" "word" "J" ∈ lwW := lw_in (List.mem_append_right _ (List.mem_of_getElem? (i := 415) (by decide +kernel))) rfl
theorem q_416 : Jvm.Cond.fieldLink "LoanLayers$Loan" (20 : Nat) "LoanLayers$Loan" "end" "J" ∈ lwW := lw_in (List.mem_append_right _ (List.mem_of_getElem? (i := 416) (by decide +kernel))) rfl
theorem q_417 : Jvm.Cond.fieldLink "LoanLayers$Windows" (65 : Nat) "LoanLayers$Loan" "end" "J" ∈ lwW := lw_in (List.mem_append_right _ (List.mem_of_getElem? (i := 417) (by decide +kernel))) rfl
theorem q_418 : Jvm.Cond.fieldLink "LoanLayers" (206 : Nat) "LoanLayers$Loan" "end" "J" ∈ lwW := lw_in (List.mem_append_right _ (List.mem_of_getElem? (i := 418) (by decide +kernel))) rfl
theorem q_419 : Jvm.Cond.laysFinal "LoanLayers$Loan" "LoanLayers$Loan" "from" "I" ∈ lwW := lw_in (List.mem_append_right _ (List.mem_of_getElem? (i := 419) (by decide +kernel))) rfl
theorem q_421 : Jvm.Cond.laysFinal "LoanLayers$Loan" "LoanLayers$Loan" "to" "I" ∈ lwW := lw_in (List.mem_append_right _ (List.mem_of_getElem? (i := 421) (by decide +kernel))) rfl
theorem q_423 : Jvm.Cond.laysFinal "LoanLayers$Loan" "LoanLayers$Loan" "word" "J" ∈ lwW := lw_in (List.mem_append_right _ (List.mem_of_getElem? (i := 423) (by decide +kernel))) rfl
theorem q_425 : Jvm.Cond.laysFinal "LoanLayers$Loan" "LoanLayers$Loan" "end" "J" ∈ lwW := lw_in (List.mem_append_right _ (List.mem_of_getElem? (i := 425) (by decide +kernel))) rfl
theorem q_428 : Jvm.Cond.methodLink "LoanLayers$Text" (122 : Nat) ({ cls := "LoanLayers$World", name := "addLoan", desc := "(LLoanLayers$Loan;)V" } : Jvm.MethodName) ∈ lwW := lw_in (List.mem_append_right _ (List.mem_of_getElem? (i := 428) (by decide +kernel))) rfl
theorem q_429 : Jvm.Cond.instanceMethod ({ cls := "LoanLayers$World", name := "addLoan", desc := "(LLoanLayers$Loan;)V" } : Jvm.MethodName) ∈ lwW := lw_in (List.mem_append_right _ (List.mem_of_getElem? (i := 429) (by decide +kernel))) rfl
theorem q_430 : Jvm.Cond.selects "LoanLayers$World" ({ cls := "LoanLayers$World", name := "addLoan", desc := "(LLoanLayers$Loan;)V" } : Jvm.MethodName) ({ cls := "LoanLayers$World", name := "addLoan", desc := "(LLoanLayers$Loan;)V" } : Jvm.MethodName) ∈ lwW := lw_in (List.mem_append_right _ (List.mem_of_getElem? (i := 430) (by decide +kernel))) rfl
theorem q_431 : Jvm.Cond.code ({ cls := "LoanLayers$World", name := "addLoan", desc := "(LLoanLayers$Loan;)V" } : Jvm.MethodName) prog_10_method_15_code (2 : Nat) (Option.none : Option Jvm.ClassFile.FieldType) ∈ lwW := lw_in (List.mem_append_right _ (List.mem_of_getElem? (i := 431) (by decide +kernel))) rfl
theorem q_433 : Jvm.Cond.methodLink "LoanLayers$Text" (67 : Nat) ({ cls := "LoanLayers$World", name := "clear", desc := "()V" } : Jvm.MethodName) ∈ lwW := lw_in (List.mem_append_right _ (List.mem_of_getElem? (i := 433) (by decide +kernel))) rfl
theorem q_434 : Jvm.Cond.instanceMethod ({ cls := "LoanLayers$World", name := "clear", desc := "()V" } : Jvm.MethodName) ∈ lwW := lw_in (List.mem_append_right _ (List.mem_of_getElem? (i := 434) (by decide +kernel))) rfl
theorem q_435 : Jvm.Cond.selects "LoanLayers$World" ({ cls := "LoanLayers$World", name := "clear", desc := "()V" } : Jvm.MethodName) ({ cls := "LoanLayers$World", name := "clear", desc := "()V" } : Jvm.MethodName) ∈ lwW := lw_in (List.mem_append_right _ (List.mem_of_getElem? (i := 435) (by decide +kernel))) rfl
theorem q_436 : Jvm.Cond.code ({ cls := "LoanLayers$World", name := "clear", desc := "()V" } : Jvm.MethodName) prog_10_method_3_code (2 : Nat) (Option.none : Option Jvm.ClassFile.FieldType) ∈ lwW := lw_in (List.mem_append_right _ (List.mem_of_getElem? (i := 436) (by decide +kernel))) rfl
theorem q_437 : Jvm.Cond.methodLink "LoanLayersLaw" (27 : Nat) ({ cls := "LoanLayers", name := "tell", desc := "()I" } : Jvm.MethodName) ∈ lwW := lw_in (List.mem_append_right _ (List.mem_of_getElem? (i := 437) (by decide +kernel))) rfl
theorem q_438 : Jvm.Cond.instanceMethod ({ cls := "LoanLayers", name := "tell", desc := "()I" } : Jvm.MethodName) ∈ lwW := lw_in (List.mem_append_right _ (List.mem_of_getElem? (i := 438) (by decide +kernel))) rfl
theorem q_439 : Jvm.Cond.selects "LoanLayers" ({ cls := "LoanLayers", name := "tell", desc := "()I" } : Jvm.MethodName) ({ cls := "LoanLayers", name := "tell", desc := "()I" } : Jvm.MethodName) ∈ lwW := lw_in (List.mem_append_right _ (List.mem_of_getElem? (i := 439) (by decide +kernel))) rfl
theorem q_440 : Jvm.Cond.code ({ cls := "LoanLayers", name := "tell", desc := "()I" } : Jvm.MethodName) prog_1_method_5_code (2 : Nat) (Option.some Jvm.ClassFile.FieldType.int) ∈ lwW := lw_in (List.mem_append_right _ (List.mem_of_getElem? (i := 440) (by decide +kernel))) rfl
theorem q_441 : Jvm.Cond.methodLink "LoanLayers" (78 : Nat) ({ cls := "LoanLayers$Past", name := "clear", desc := "()V" } : Jvm.MethodName) ∈ lwW := lw_in (List.mem_append_right _ (List.mem_of_getElem? (i := 441) (by decide +kernel))) rfl
theorem q_442 : Jvm.Cond.instanceMethod ({ cls := "LoanLayers$Past", name := "clear", desc := "()V" } : Jvm.MethodName) ∈ lwW := lw_in (List.mem_append_right _ (List.mem_of_getElem? (i := 442) (by decide +kernel))) rfl
theorem q_443 : Jvm.Cond.selects "LoanLayers$Past" ({ cls := "LoanLayers$Past", name := "clear", desc := "()V" } : Jvm.MethodName) ({ cls := "LoanLayers$Past", name := "clear", desc := "()V" } : Jvm.MethodName) ∈ lwW := lw_in (List.mem_append_right _ (List.mem_of_getElem? (i := 443) (by decide +kernel))) rfl
theorem q_444 : Jvm.Cond.code ({ cls := "LoanLayers$Past", name := "clear", desc := "()V" } : Jvm.MethodName) prog_6_method_5_code (1 : Nat) (Option.none : Option Jvm.ClassFile.FieldType) ∈ lwW := lw_in (List.mem_append_right _ (List.mem_of_getElem? (i := 444) (by decide +kernel))) rfl
theorem q_445 : Jvm.Cond.methodLink "LoanLayersLaw" (31 : Nat) ({ cls := "LoanLayers", name := "law", desc := "(IIIIII)I" } : Jvm.MethodName) ∈ lwW := lw_in (List.mem_append_right _ (List.mem_of_getElem? (i := 445) (by decide +kernel))) rfl
theorem q_446 : Jvm.Cond.instanceMethod ({ cls := "LoanLayers", name := "law", desc := "(IIIIII)I" } : Jvm.MethodName) ∈ lwW := lw_in (List.mem_append_right _ (List.mem_of_getElem? (i := 446) (by decide +kernel))) rfl
theorem q_447 : Jvm.Cond.selects "LoanLayers" ({ cls := "LoanLayers", name := "law", desc := "(IIIIII)I" } : Jvm.MethodName) ({ cls := "LoanLayers", name := "law", desc := "(IIIIII)I" } : Jvm.MethodName) ∈ lwW := lw_in (List.mem_append_right _ (List.mem_of_getElem? (i := 447) (by decide +kernel))) rfl
theorem q_448 : Jvm.Cond.code ({ cls := "LoanLayers", name := "law", desc := "(IIIIII)I" } : Jvm.MethodName) prog_1_method_6_code (9 : Nat) (Option.some Jvm.ClassFile.FieldType.int) ∈ lwW := lw_in (List.mem_append_right _ (List.mem_of_getElem? (i := 448) (by decide +kernel))) rfl
theorem q_449 : Jvm.Cond.methodLink "LoanLayers" (86 : Nat) ({ cls := "LoanLayers", name := "isSound", desc := "(I)Z" } : Jvm.MethodName) ∈ lwW := lw_in (List.mem_append_right _ (List.mem_of_getElem? (i := 449) (by decide +kernel))) rfl
theorem q_450 : Jvm.Cond.static ({ cls := "LoanLayers", name := "isSound", desc := "(I)Z" } : Jvm.MethodName) ∈ lwW := lw_in (List.mem_append_right _ (List.mem_of_getElem? (i := 450) (by decide +kernel))) rfl
theorem q_451 : Jvm.Cond.code ({ cls := "LoanLayers", name := "isSound", desc := "(I)Z" } : Jvm.MethodName) prog_1_method_32_code (1 : Nat) (Option.some Jvm.ClassFile.FieldType.boolean) ∈ lwW := lw_in (List.mem_append_right _ (List.mem_of_getElem? (i := 451) (by decide +kernel))) rfl
theorem q_452 : Jvm.Cond.methodLink "LoanLayers" (89 : Nat) ({ cls := "LoanLayers$World", name := "hasLaw", desc := "(II)Z" } : Jvm.MethodName) ∈ lwW := lw_in (List.mem_append_right _ (List.mem_of_getElem? (i := 452) (by decide +kernel))) rfl
theorem q_453 : Jvm.Cond.classLink "LoanLayers" (96 : Nat) "LoanLayers$Law" ∈ lwW := lw_in (List.mem_append_right _ (List.mem_of_getElem? (i := 453) (by decide +kernel))) rfl
theorem q_454 : Jvm.Cond.methodLink "LoanLayers" (98 : Nat) ({ cls := "LoanLayers$Law", name := "<init>", desc := "(IIIIII)V" } : Jvm.MethodName) ∈ lwW := lw_in (List.mem_append_right _ (List.mem_of_getElem? (i := 454) (by decide +kernel))) rfl
theorem q_455 : Jvm.Cond.methodLink "LoanLayers" (101 : Nat) ({ cls := "LoanLayers$World", name := "addLaw", desc := "(LLoanLayers$Law;)I" } : Jvm.MethodName) ∈ lwW := lw_in (List.mem_append_right _ (List.mem_of_getElem? (i := 455) (by decide +kernel))) rfl
theorem q_456 : Jvm.Cond.methodLink "LoanLayers" (105 : Nat) ({ cls := "LoanLayers", name := "act", desc := "(LLoanLayers$World;)V" } : Jvm.MethodName) ∈ lwW := lw_in (List.mem_append_right _ (List.mem_of_getElem? (i := 456) (by decide +kernel))) rfl
theorem q_458 : Jvm.Cond.instanceMethod ({ cls := "LoanLayers", name := "act", desc := "(LLoanLayers$World;)V" } : Jvm.MethodName) ∈ lwW := lw_in (List.mem_append_right _ (List.mem_of_getElem? (i := 458) (by decide +kernel))) rfl
theorem q_459 : Jvm.Cond.code ({ cls := "LoanLayers", name := "act", desc := "(LLoanLayers$World;)V" } : Jvm.MethodName) prog_1_method_15_code (2 : Nat) (Option.none : Option Jvm.ClassFile.FieldType) ∈ lwW := lw_in (List.mem_append_right _ (List.mem_of_getElem? (i := 459) (by decide +kernel))) rfl
theorem q_460 : Jvm.Cond.methodLink "LoanLayers" (171 : Nat) ({ cls := "LoanLayers$Past", name := "add", desc := "(LLoanLayers$World;)V" } : Jvm.MethodName) ∈ lwW := lw_in (List.mem_append_right _ (List.mem_of_getElem? (i := 460) (by decide +kernel))) rfl
theorem q_461 : Jvm.Cond.instanceMethod ({ cls := "LoanLayers$Past", name := "add", desc := "(LLoanLayers$World;)V" } : Jvm.MethodName) ∈ lwW := lw_in (List.mem_append_right _ (List.mem_of_getElem? (i := 461) (by decide +kernel))) rfl
theorem q_462 : Jvm.Cond.selects "LoanLayers$Past" ({ cls := "LoanLayers$Past", name := "add", desc := "(LLoanLayers$World;)V" } : Jvm.MethodName) ({ cls := "LoanLayers$Past", name := "add", desc := "(LLoanLayers$World;)V" } : Jvm.MethodName) ∈ lwW := lw_in (List.mem_append_right _ (List.mem_of_getElem? (i := 462) (by decide +kernel))) rfl
theorem q_463 : Jvm.Cond.code ({ cls := "LoanLayers$Past", name := "add", desc := "(LLoanLayers$World;)V" } : Jvm.MethodName) prog_6_method_2_code (3 : Nat) (Option.none : Option Jvm.ClassFile.FieldType) ∈ lwW := lw_in (List.mem_append_right _ (List.mem_of_getElem? (i := 463) (by decide +kernel))) rfl
theorem q_464 : Jvm.Cond.methodLink "LoanLayersLaw" (36 : Nat) ({ cls := "LoanLayers", name := "repeal", desc := "(I)I" } : Jvm.MethodName) ∈ lwW := lw_in (List.mem_append_right _ (List.mem_of_getElem? (i := 464) (by decide +kernel))) rfl
theorem q_465 : Jvm.Cond.instanceMethod ({ cls := "LoanLayers", name := "repeal", desc := "(I)I" } : Jvm.MethodName) ∈ lwW := lw_in (List.mem_append_right _ (List.mem_of_getElem? (i := 465) (by decide +kernel))) rfl
theorem q_466 : Jvm.Cond.selects "LoanLayers" ({ cls := "LoanLayers", name := "repeal", desc := "(I)I" } : Jvm.MethodName) ({ cls := "LoanLayers", name := "repeal", desc := "(I)I" } : Jvm.MethodName) ∈ lwW := lw_in (List.mem_append_right _ (List.mem_of_getElem? (i := 466) (by decide +kernel))) rfl
theorem q_467 : Jvm.Cond.code ({ cls := "LoanLayers", name := "repeal", desc := "(I)I" } : Jvm.MethodName) prog_1_method_7_code (3 : Nat) (Option.some Jvm.ClassFile.FieldType.int) ∈ lwW := lw_in (List.mem_append_right _ (List.mem_of_getElem? (i := 467) (by decide +kernel))) rfl
theorem q_468 : Jvm.Cond.methodLink "LoanLayers" (109 : Nat) ({ cls := "LoanLayers$World", name := "lawAt", desc := "(I)LLoanLayers$Law;" } : Jvm.MethodName) ∈ lwW := lw_in (List.mem_append_right _ (List.mem_of_getElem? (i := 468) (by decide +kernel))) rfl
theorem q_469 : Jvm.Cond.instanceMethod ({ cls := "LoanLayers$World", name := "lawAt", desc := "(I)LLoanLayers$Law;" } : Jvm.MethodName) ∈ lwW := lw_in (List.mem_append_right _ (List.mem_of_getElem? (i := 469) (by decide +kernel))) rfl
theorem q_470 : Jvm.Cond.selects "LoanLayers$World" ({ cls := "LoanLayers$World", name := "lawAt", desc := "(I)LLoanLayers$Law;" } : Jvm.MethodName) ({ cls := "LoanLayers$World", name := "lawAt", desc := "(I)LLoanLayers$Law;" } : Jvm.MethodName) ∈ lwW := lw_in (List.mem_append_right _ (List.mem_of_getElem? (i := 470) (by decide +kernel))) rfl
theorem q_471 : Jvm.Cond.code ({ cls := "LoanLayers$World", name := "lawAt", desc := "(I)LLoanLayers$Law;" } : Jvm.MethodName) prog_10_method_4_code (2 : Nat) (Option.some (Jvm.ClassFile.FieldType.object "LoanLayers$Law")) ∈ lwW := lw_in (List.mem_append_right _ (List.mem_of_getElem? (i := 471) (by decide +kernel))) rfl
theorem q_472 : Jvm.Cond.methodLink "LoanLayers" (113 : Nat) ({ cls := "LoanLayers$World", name := "removeLaw", desc := "(I)V" } : Jvm.MethodName) ∈ lwW := lw_in (List.mem_append_right _ (List.mem_of_getElem? (i := 472) (by decide +kernel))) rfl
theorem q_473 : Jvm.Cond.instanceMethod ({ cls := "LoanLayers$World", name := "removeLaw", desc := "(I)V" } : Jvm.MethodName) ∈ lwW := lw_in (List.mem_append_right _ (List.mem_of_getElem? (i := 473) (by decide +kernel))) rfl
theorem q_474 : Jvm.Cond.selects "LoanLayers$World" ({ cls := "LoanLayers$World", name := "removeLaw", desc := "(I)V" } : Jvm.MethodName) ({ cls := "LoanLayers$World", name := "removeLaw", desc := "(I)V" } : Jvm.MethodName) ∈ lwW := lw_in (List.mem_append_right _ (List.mem_of_getElem? (i := 474) (by decide +kernel))) rfl
theorem q_475 : Jvm.Cond.code ({ cls := "LoanLayers$World", name := "removeLaw", desc := "(I)V" } : Jvm.MethodName) prog_10_method_8_code (3 : Nat) (Option.none : Option Jvm.ClassFile.FieldType) ∈ lwW := lw_in (List.mem_append_right _ (List.mem_of_getElem? (i := 475) (by decide +kernel))) rfl
theorem q_476 : Jvm.Cond.methodLink "LoanLayers$World" (56 : Nat) ({ cls := "LoanLayers$World", name := "lawAt", desc := "(I)LLoanLayers$Law;" } : Jvm.MethodName) ∈ lwW := lw_in (List.mem_append_right _ (List.mem_of_getElem? (i := 476) (by decide +kernel))) rfl
theorem q_477 : Jvm.Cond.methodLink "LoanLayersLaw" (40 : Nat) ({ cls := "LoanLayers", name := "meet", desc := "(IIII)I" } : Jvm.MethodName) ∈ lwW := lw_in (List.mem_append_right _ (List.mem_of_getElem? (i := 477) (by decide +kernel))) rfl
theorem q_478 : Jvm.Cond.instanceMethod ({ cls := "LoanLayers", name := "meet", desc := "(IIII)I" } : Jvm.MethodName) ∈ lwW := lw_in (List.mem_append_right _ (List.mem_of_getElem? (i := 478) (by decide +kernel))) rfl
theorem q_479 : Jvm.Cond.selects "LoanLayers" ({ cls := "LoanLayers", name := "meet", desc := "(IIII)I" } : Jvm.MethodName) ({ cls := "LoanLayers", name := "meet", desc := "(IIII)I" } : Jvm.MethodName) ∈ lwW := lw_in (List.mem_append_right _ (List.mem_of_getElem? (i := 479) (by decide +kernel))) rfl
theorem q_480 : Jvm.Cond.code ({ cls := "LoanLayers", name := "meet", desc := "(IIII)I" } : Jvm.MethodName) prog_1_method_8_code (7 : Nat) (Option.some Jvm.ClassFile.FieldType.int) ∈ lwW := lw_in (List.mem_append_right _ (List.mem_of_getElem? (i := 480) (by decide +kernel))) rfl
theorem q_481 : Jvm.Cond.methodLink "LoanLayers" (116 : Nat) ({ cls := "LoanLayers", name := "pairOf", desc := "(II)I" } : Jvm.MethodName) ∈ lwW := lw_in (List.mem_append_right _ (List.mem_of_getElem? (i := 481) (by decide +kernel))) rfl
theorem q_482 : Jvm.Cond.methodLink "LoanLayers" (120 : Nat) ({ cls := "LoanLayers", name := "isDate", desc := "(I)Z" } : Jvm.MethodName) ∈ lwW := lw_in (List.mem_append_right _ (List.mem_of_getElem? (i := 482) (by decide +kernel))) rfl
theorem q_483 : Jvm.Cond.static ({ cls := "LoanLayers", name := "isDate", desc := "(I)Z" } : Jvm.MethodName) ∈ lwW := lw_in (List.mem_append_right _ (List.mem_of_getElem? (i := 483) (by decide +kernel))) rfl
theorem q_484 : Jvm.Cond.code ({ cls := "LoanLayers", name := "isDate", desc := "(I)Z" } : Jvm.MethodName) prog_1_method_31_code (1 : Nat) (Option.some Jvm.ClassFile.FieldType.boolean) ∈ lwW := lw_in (List.mem_append_right _ (List.mem_of_getElem? (i := 484) (by decide +kernel))) rfl
theorem q_485 : Jvm.Cond.methodLink "LoanLayers" (123 : Nat) ({ cls := "LoanLayers$World", name := "setMeeting", desc := "(III)V" } : Jvm.MethodName) ∈ lwW := lw_in (List.mem_append_right _ (List.mem_of_getElem? (i := 485) (by decide +kernel))) rfl
theorem q_486 : Jvm.Cond.methodLink "LoanLayers" (127 : Nat) ({ cls := "LoanLayers$World", name := "meetings", desc := "()I" } : Jvm.MethodName) ∈ lwW := lw_in (List.mem_append_right _ (List.mem_of_getElem? (i := 486) (by decide +kernel))) rfl
theorem q_487 : Jvm.Cond.instanceMethod ({ cls := "LoanLayers$World", name := "meetings", desc := "()I" } : Jvm.MethodName) ∈ lwW := lw_in (List.mem_append_right _ (List.mem_of_getElem? (i := 487) (by decide +kernel))) rfl
theorem q_488 : Jvm.Cond.selects "LoanLayers$World" ({ cls := "LoanLayers$World", name := "meetings", desc := "()I" } : Jvm.MethodName) ({ cls := "LoanLayers$World", name := "meetings", desc := "()I" } : Jvm.MethodName) ∈ lwW := lw_in (List.mem_append_right _ (List.mem_of_getElem? (i := 488) (by decide +kernel))) rfl
theorem q_489 : Jvm.Cond.code ({ cls := "LoanLayers$World", name := "meetings", desc := "()I" } : Jvm.MethodName) prog_10_method_12_code (6 : Nat) (Option.some Jvm.ClassFile.FieldType.int) ∈ lwW := lw_in (List.mem_append_right _ (List.mem_of_getElem? (i := 489) (by decide +kernel))) rfl
theorem q_490 : Jvm.Cond.methodLink "LoanLayersLaw" (45 : Nat) ({ cls := "LoanLayers", name := "part", desc := "(II)I" } : Jvm.MethodName) ∈ lwW := lw_in (List.mem_append_right _ (List.mem_of_getElem? (i := 490) (by decide +kernel))) rfl
theorem q_491 : Jvm.Cond.instanceMethod ({ cls := "LoanLayers", name := "part", desc := "(II)I" } : Jvm.MethodName) ∈ lwW := lw_in (List.mem_append_right _ (List.mem_of_getElem? (i := 491) (by decide +kernel))) rfl
theorem q_492 : Jvm.Cond.selects "LoanLayers" ({ cls := "LoanLayers", name := "part", desc := "(II)I" } : Jvm.MethodName) ({ cls := "LoanLayers", name := "part", desc := "(II)I" } : Jvm.MethodName) ∈ lwW := lw_in (List.mem_append_right _ (List.mem_of_getElem? (i := 492) (by decide +kernel))) rfl
theorem q_493 : Jvm.Cond.code ({ cls := "LoanLayers", name := "part", desc := "(II)I" } : Jvm.MethodName) prog_1_method_9_code (5 : Nat) (Option.some Jvm.ClassFile.FieldType.int) ∈ lwW := lw_in (List.mem_append_right _ (List.mem_of_getElem? (i := 493) (by decide +kernel))) rfl
theorem q_494 : Jvm.Cond.methodLink "LoanLayers" (131 : Nat) ({ cls := "LoanLayers$World", name := "firstOf", desc := "(I)I" } : Jvm.MethodName) ∈ lwW := lw_in (List.mem_append_right _ (List.mem_of_getElem? (i := 494) (by decide +kernel))) rfl
theorem q_495 : Jvm.Cond.instanceMethod ({ cls := "LoanLayers$World", name := "firstOf", desc := "(I)I" } : Jvm.MethodName) ∈ lwW := lw_in (List.mem_append_right _ (List.mem_of_getElem? (i := 495) (by decide +kernel))) rfl
theorem q_496 : Jvm.Cond.selects "LoanLayers$World" ({ cls := "LoanLayers$World", name := "firstOf", desc := "(I)I" } : Jvm.MethodName) ({ cls := "LoanLayers$World", name := "firstOf", desc := "(I)I" } : Jvm.MethodName) ∈ lwW := lw_in (List.mem_append_right _ (List.mem_of_getElem? (i := 496) (by decide +kernel))) rfl
theorem q_497 : Jvm.Cond.code ({ cls := "LoanLayers$World", name := "firstOf", desc := "(I)I" } : Jvm.MethodName) prog_10_method_9_code (2 : Nat) (Option.some Jvm.ClassFile.FieldType.int) ∈ lwW := lw_in (List.mem_append_right _ (List.mem_of_getElem? (i := 497) (by decide +kernel))) rfl
theorem q_498 : Jvm.Cond.methodLink "LoanLayersLaw" (50 : Nat) ({ cls := "LoanLayers", name := "lend", desc := "(IIII)I" } : Jvm.MethodName) ∈ lwW := lw_in (List.mem_append_right _ (List.mem_of_getElem? (i := 498) (by decide +kernel))) rfl
theorem q_499 : Jvm.Cond.instanceMethod ({ cls := "LoanLayers", name := "lend", desc := "(IIII)I" } : Jvm.MethodName) ∈ lwW := lw_in (List.mem_append_right _ (List.mem_of_getElem? (i := 499) (by decide +kernel))) rfl
theorem q_500 : Jvm.Cond.selects "LoanLayers" ({ cls := "LoanLayers", name := "lend", desc := "(IIII)I" } : Jvm.MethodName) ({ cls := "LoanLayers", name := "lend", desc := "(IIII)I" } : Jvm.MethodName) ∈ lwW := lw_in (List.mem_append_right _ (List.mem_of_getElem? (i := 500) (by decide +kernel))) rfl
theorem q_501 : Jvm.Cond.code ({ cls := "LoanLayers", name := "lend", desc := "(IIII)I" } : Jvm.MethodName) prog_1_method_10_code (7 : Nat) (Option.some Jvm.ClassFile.FieldType.int) ∈ lwW := lw_in (List.mem_append_right _ (List.mem_of_getElem? (i := 501) (by decide +kernel))) rfl
theorem q_502 : Jvm.Cond.methodLink "LoanLayers" (135 : Nat) ({ cls := "LoanLayers$World", name := "loanAt", desc := "(I)LLoanLayers$Loan;" } : Jvm.MethodName) ∈ lwW := lw_in (List.mem_append_right _ (List.mem_of_getElem? (i := 502) (by decide +kernel))) rfl
theorem q_503 : Jvm.Cond.instanceMethod ({ cls := "LoanLayers$World", name := "loanAt", desc := "(I)LLoanLayers$Loan;" } : Jvm.MethodName) ∈ lwW := lw_in (List.mem_append_right _ (List.mem_of_getElem? (i := 503) (by decide +kernel))) rfl
theorem q_504 : Jvm.Cond.selects "LoanLayers$World" ({ cls := "LoanLayers$World", name := "loanAt", desc := "(I)LLoanLayers$Loan;" } : Jvm.MethodName) ({ cls := "LoanLayers$World", name := "loanAt", desc := "(I)LLoanLayers$Loan;" } : Jvm.MethodName) ∈ lwW := lw_in (List.mem_append_right _ (List.mem_of_getElem? (i := 504) (by decide +kernel))) rfl
theorem q_505 : Jvm.Cond.code ({ cls := "LoanLayers$World", name := "loanAt", desc := "(I)LLoanLayers$Loan;" } : Jvm.MethodName) prog_10_method_14_code (2 : Nat) (Option.some (Jvm.ClassFile.FieldType.object "LoanLayers$Loan")) ∈ lwW := lw_in (List.mem_append_right _ (List.mem_of_getElem? (i := 505) (by decide +kernel))) rfl
theorem q_506 : Jvm.Cond.classLink "LoanLayers" (142 : Nat) "LoanLayers$Loan" ∈ lwW := lw_in (List.mem_append_right _ (List.mem_of_getElem? (i := 506) (by decide +kernel))) rfl
theorem q_507 : Jvm.Cond.methodLink "LoanLayers" (148 : Nat) ({ cls := "LoanLayers$World", name := "borrowed", desc := "(JIII)J" } : Jvm.MethodName) ∈ lwW := lw_in (List.mem_append_right _ (List.mem_of_getElem? (i := 507) (by decide +kernel))) rfl
theorem q_508 : Jvm.Cond.instanceMethod ({ cls := "LoanLayers$World", name := "borrowed", desc := "(JIII)J" } : Jvm.MethodName) ∈ lwW := lw_in (List.mem_append_right _ (List.mem_of_getElem? (i := 508) (by decide +kernel))) rfl
theorem q_509 : Jvm.Cond.selects "LoanLayers$World" ({ cls := "LoanLayers$World", name := "borrowed", desc := "(JIII)J" } : Jvm.MethodName) ({ cls := "LoanLayers$World", name := "borrowed", desc := "(JIII)J" } : Jvm.MethodName) ∈ lwW := lw_in (List.mem_append_right _ (List.mem_of_getElem? (i := 509) (by decide +kernel))) rfl
theorem q_510 : Jvm.Cond.code ({ cls := "LoanLayers$World", name := "borrowed", desc := "(JIII)J" } : Jvm.MethodName) prog_10_method_18_code (6 : Nat) (Option.some Jvm.ClassFile.FieldType.long) ∈ lwW := lw_in (List.mem_append_right _ (List.mem_of_getElem? (i := 510) (by decide +kernel))) rfl
theorem q_511 : Jvm.Cond.methodLink "LoanLayers$World" (75 : Nat) ({ cls := "LoanLayers$World", name := "developed", desc := "(JIII)J" } : Jvm.MethodName) ∈ lwW := lw_in (List.mem_append_right _ (List.mem_of_getElem? (i := 511) (by decide +kernel))) rfl
theorem q_512 : Jvm.Cond.instanceMethod ({ cls := "LoanLayers$World", name := "developed", desc := "(JIII)J" } : Jvm.MethodName) ∈ lwW := lw_in (List.mem_append_right _ (List.mem_of_getElem? (i := 512) (by decide +kernel))) rfl
theorem q_513 : Jvm.Cond.selects "LoanLayers$World" ({ cls := "LoanLayers$World", name := "developed", desc := "(JIII)J" } : Jvm.MethodName) ({ cls := "LoanLayers$World", name := "developed", desc := "(JIII)J" } : Jvm.MethodName) ∈ lwW := lw_in (List.mem_append_right _ (List.mem_of_getElem? (i := 513) (by decide +kernel))) rfl
theorem q_514 : Jvm.Cond.code ({ cls := "LoanLayers$World", name := "developed", desc := "(JIII)J" } : Jvm.MethodName) prog_10_method_17_code (12 : Nat) (Option.some Jvm.ClassFile.FieldType.long) ∈ lwW := lw_in (List.mem_append_right _ (List.mem_of_getElem? (i := 514) (by decide +kernel))) rfl
theorem q_515 : Jvm.Cond.methodLink "LoanLayers$World" (71 : Nat) ({ cls := "LoanLayers$Law", name := "applied", desc := "(J)J" } : Jvm.MethodName) ∈ lwW := lw_in (List.mem_append_right _ (List.mem_of_getElem? (i := 515) (by decide +kernel))) rfl
theorem q_516 : Jvm.Cond.instanceMethod ({ cls := "LoanLayers$Law", name := "applied", desc := "(J)J" } : Jvm.MethodName) ∈ lwW := lw_in (List.mem_append_right _ (List.mem_of_getElem? (i := 516) (by decide +kernel))) rfl
theorem q_517 : Jvm.Cond.selects "LoanLayers$Law" ({ cls := "LoanLayers$Law", name := "applied", desc := "(J)J" } : Jvm.MethodName) ({ cls := "LoanLayers$Law", name := "applied", desc := "(J)J" } : Jvm.MethodName) ∈ lwW := lw_in (List.mem_append_right _ (List.mem_of_getElem? (i := 517) (by decide +kernel))) rfl
theorem q_518 : Jvm.Cond.code ({ cls := "LoanLayers$Law", name := "applied", desc := "(J)J" } : Jvm.MethodName) prog_3_method_4_code (10 : Nat) (Option.some Jvm.ClassFile.FieldType.long) ∈ lwW := lw_in (List.mem_append_right _ (List.mem_of_getElem? (i := 518) (by decide +kernel))) rfl
theorem q_519 : Jvm.Cond.methodLink "LoanLayers$Law" (36 : Nat) ({ cls := "LoanLayers$Form", name := "soundAt", desc := "(JI)I" } : Jvm.MethodName) ∈ lwW := lw_in (List.mem_append_right _ (List.mem_of_getElem? (i := 519) (by decide +kernel))) rfl
theorem q_520 : Jvm.Cond.static ({ cls := "LoanLayers$Form", name := "soundAt", desc := "(JI)I" } : Jvm.MethodName) ∈ lwW := lw_in (List.mem_append_right _ (List.mem_of_getElem? (i := 520) (by decide +kernel))) rfl
theorem q_521 : Jvm.Cond.code ({ cls := "LoanLayers$Form", name := "soundAt", desc := "(JI)I" } : Jvm.MethodName) prog_2_method_2_code (3 : Nat) (Option.some Jvm.ClassFile.FieldType.int) ∈ lwW := lw_in (List.mem_append_right _ (List.mem_of_getElem? (i := 521) (by decide +kernel))) rfl
theorem q_522 : Jvm.Cond.constantLong "LoanLayers$Form" (11 : Nat) (31 : Int64) ∈ lwW := lw_in (List.mem_append_right _ (List.mem_of_getElem? (i := 522) (by decide +kernel))) rfl
theorem q_523 : Jvm.Cond.methodLink "LoanLayers$Law" (40 : Nat) ({ cls := "LoanLayers$Form", name := "longer", desc := "(JII)J" } : Jvm.MethodName) ∈ lwW := lw_in (List.mem_append_right _ (List.mem_of_getElem? (i := 523) (by decide +kernel))) rfl
theorem q_524 : Jvm.Cond.methodLink "LoanLayers" (152 : Nat) ({ cls := "LoanLayers$Loan", name := "<init>", desc := "(IIJJ)V" } : Jvm.MethodName) ∈ lwW := lw_in (List.mem_append_right _ (List.mem_of_getElem? (i := 524) (by decide +kernel))) rfl
theorem q_525 : Jvm.Cond.methodLink "LoanLayers" (155 : Nat) ({ cls := "LoanLayers$World", name := "addLoan", desc := "(LLoanLayers$Loan;)V" } : Jvm.MethodName) ∈ lwW := lw_in (List.mem_append_right _ (List.mem_of_getElem? (i := 525) (by decide +kernel))) rfl
theorem q_526 : Jvm.Cond.methodLink "LoanLayersLaw" (54 : Nat) ({ cls := "LoanLayers", name := "drop", desc := "(I)I" } : Jvm.MethodName) ∈ lwW := lw_in (List.mem_append_right _ (List.mem_of_getElem? (i := 526) (by decide +kernel))) rfl
theorem q_527 : Jvm.Cond.instanceMethod ({ cls := "LoanLayers", name := "drop", desc := "(I)I" } : Jvm.MethodName) ∈ lwW := lw_in (List.mem_append_right _ (List.mem_of_getElem? (i := 527) (by decide +kernel))) rfl
theorem q_528 : Jvm.Cond.selects "LoanLayers" ({ cls := "LoanLayers", name := "drop", desc := "(I)I" } : Jvm.MethodName) ({ cls := "LoanLayers", name := "drop", desc := "(I)I" } : Jvm.MethodName) ∈ lwW := lw_in (List.mem_append_right _ (List.mem_of_getElem? (i := 528) (by decide +kernel))) rfl
theorem q_529 : Jvm.Cond.code ({ cls := "LoanLayers", name := "drop", desc := "(I)I" } : Jvm.MethodName) prog_1_method_11_code (3 : Nat) (Option.some Jvm.ClassFile.FieldType.int) ∈ lwW := lw_in (List.mem_append_right _ (List.mem_of_getElem? (i := 529) (by decide +kernel))) rfl
theorem q_530 : Jvm.Cond.methodLink "LoanLayers" (159 : Nat) ({ cls := "LoanLayers$World", name := "removeLoan", desc := "(I)V" } : Jvm.MethodName) ∈ lwW := lw_in (List.mem_append_right _ (List.mem_of_getElem? (i := 530) (by decide +kernel))) rfl
theorem q_531 : Jvm.Cond.instanceMethod ({ cls := "LoanLayers$World", name := "removeLoan", desc := "(I)V" } : Jvm.MethodName) ∈ lwW := lw_in (List.mem_append_right _ (List.mem_of_getElem? (i := 531) (by decide +kernel))) rfl
theorem q_532 : Jvm.Cond.selects "LoanLayers$World" ({ cls := "LoanLayers$World", name := "removeLoan", desc := "(I)V" } : Jvm.MethodName) ({ cls := "LoanLayers$World", name := "removeLoan", desc := "(I)V" } : Jvm.MethodName) ∈ lwW := lw_in (List.mem_append_right _ (List.mem_of_getElem? (i := 532) (by decide +kernel))) rfl
theorem q_533 : Jvm.Cond.code ({ cls := "LoanLayers$World", name := "removeLoan", desc := "(I)V" } : Jvm.MethodName) prog_10_method_16_code (3 : Nat) (Option.none : Option Jvm.ClassFile.FieldType) ∈ lwW := lw_in (List.mem_append_right _ (List.mem_of_getElem? (i := 533) (by decide +kernel))) rfl
theorem q_534 : Jvm.Cond.methodLink "LoanLayers$World" (67 : Nat) ({ cls := "LoanLayers$World", name := "loanAt", desc := "(I)LLoanLayers$Loan;" } : Jvm.MethodName) ∈ lwW := lw_in (List.mem_append_right _ (List.mem_of_getElem? (i := 534) (by decide +kernel))) rfl
theorem q_535 : Jvm.Cond.methodLink "LoanLayersLaw" (58 : Nat) ({ cls := "LoanLayers", name := "undo", desc := "()I" } : Jvm.MethodName) ∈ lwW := lw_in (List.mem_append_right _ (List.mem_of_getElem? (i := 535) (by decide +kernel))) rfl
theorem q_536 : Jvm.Cond.instanceMethod ({ cls := "LoanLayers", name := "undo", desc := "()I" } : Jvm.MethodName) ∈ lwW := lw_in (List.mem_append_right _ (List.mem_of_getElem? (i := 536) (by decide +kernel))) rfl
theorem q_537 : Jvm.Cond.selects "LoanLayers" ({ cls := "LoanLayers", name := "undo", desc := "()I" } : Jvm.MethodName) ({ cls := "LoanLayers", name := "undo", desc := "()I" } : Jvm.MethodName) ∈ lwW := lw_in (List.mem_append_right _ (List.mem_of_getElem? (i := 537) (by decide +kernel))) rfl
theorem q_538 : Jvm.Cond.code ({ cls := "LoanLayers", name := "undo", desc := "()I" } : Jvm.MethodName) prog_1_method_12_code (2 : Nat) (Option.some Jvm.ClassFile.FieldType.int) ∈ lwW := lw_in (List.mem_append_right _ (List.mem_of_getElem? (i := 538) (by decide +kernel))) rfl
theorem q_539 : Jvm.Cond.methodLink "LoanLayers" (162 : Nat) ({ cls := "LoanLayers$Past", name := "latest", desc := "()LLoanLayers$World;" } : Jvm.MethodName) ∈ lwW := lw_in (List.mem_append_right _ (List.mem_of_getElem? (i := 539) (by decide +kernel))) rfl
theorem q_540 : Jvm.Cond.instanceMethod ({ cls := "LoanLayers$Past", name := "latest", desc := "()LLoanLayers$World;" } : Jvm.MethodName) ∈ lwW := lw_in (List.mem_append_right _ (List.mem_of_getElem? (i := 540) (by decide +kernel))) rfl
theorem q_541 : Jvm.Cond.selects "LoanLayers$Past" ({ cls := "LoanLayers$Past", name := "latest", desc := "()LLoanLayers$World;" } : Jvm.MethodName) ({ cls := "LoanLayers$Past", name := "latest", desc := "()LLoanLayers$World;" } : Jvm.MethodName) ∈ lwW := lw_in (List.mem_append_right _ (List.mem_of_getElem? (i := 541) (by decide +kernel))) rfl
theorem q_542 : Jvm.Cond.code ({ cls := "LoanLayers$Past", name := "latest", desc := "()LLoanLayers$World;" } : Jvm.MethodName) prog_6_method_3_code (1 : Nat) (Option.some (Jvm.ClassFile.FieldType.object "LoanLayers$World")) ∈ lwW := lw_in (List.mem_append_right _ (List.mem_of_getElem? (i := 542) (by decide +kernel))) rfl
theorem q_544 : Jvm.Cond.methodLink "LoanLayers" (165 : Nat) ({ cls := "LoanLayers$Past", name := "forgetLatest", desc := "()V" } : Jvm.MethodName) ∈ lwW := lw_in (List.mem_append_right _ (List.mem_of_getElem? (i := 544) (by decide +kernel))) rfl
theorem q_545 : Jvm.Cond.instanceMethod ({ cls := "LoanLayers$Past", name := "forgetLatest", desc := "()V" } : Jvm.MethodName) ∈ lwW := lw_in (List.mem_append_right _ (List.mem_of_getElem? (i := 545) (by decide +kernel))) rfl
theorem q_546 : Jvm.Cond.selects "LoanLayers$Past" ({ cls := "LoanLayers$Past", name := "forgetLatest", desc := "()V" } : Jvm.MethodName) ({ cls := "LoanLayers$Past", name := "forgetLatest", desc := "()V" } : Jvm.MethodName) ∈ lwW := lw_in (List.mem_append_right _ (List.mem_of_getElem? (i := 546) (by decide +kernel))) rfl
theorem q_547 : Jvm.Cond.code ({ cls := "LoanLayers$Past", name := "forgetLatest", desc := "()V" } : Jvm.MethodName) prog_6_method_4_code (1 : Nat) (Option.none : Option Jvm.ClassFile.FieldType) ∈ lwW := lw_in (List.mem_append_right _ (List.mem_of_getElem? (i := 547) (by decide +kernel))) rfl
theorem q_548 : Jvm.Cond.methodLink "LoanLayersLaw" (62 : Nat) ({ cls := "LoanLayers", name := "keep", desc := "(I)I" } : Jvm.MethodName) ∈ lwW := lw_in (List.mem_append_right _ (List.mem_of_getElem? (i := 548) (by decide +kernel))) rfl
theorem q_549 : Jvm.Cond.instanceMethod ({ cls := "LoanLayers", name := "keep", desc := "(I)I" } : Jvm.MethodName) ∈ lwW := lw_in (List.mem_append_right _ (List.mem_of_getElem? (i := 549) (by decide +kernel))) rfl
theorem q_550 : Jvm.Cond.selects "LoanLayers" ({ cls := "LoanLayers", name := "keep", desc := "(I)I" } : Jvm.MethodName) ({ cls := "LoanLayers", name := "keep", desc := "(I)I" } : Jvm.MethodName) ∈ lwW := lw_in (List.mem_append_right _ (List.mem_of_getElem? (i := 550) (by decide +kernel))) rfl
theorem q_551 : Jvm.Cond.code ({ cls := "LoanLayers", name := "keep", desc := "(I)I" } : Jvm.MethodName) prog_1_method_13_code (2 : Nat) (Option.some Jvm.ClassFile.FieldType.int) ∈ lwW := lw_in (List.mem_append_right _ (List.mem_of_getElem? (i := 551) (by decide +kernel))) rfl
theorem q_552 : Jvm.Cond.methodLink "LoanLayersLaw" (66 : Nat) ({ cls := "LoanLayers", name := "back", desc := "(I)I" } : Jvm.MethodName) ∈ lwW := lw_in (List.mem_append_right _ (List.mem_of_getElem? (i := 552) (by decide +kernel))) rfl
theorem q_553 : Jvm.Cond.instanceMethod ({ cls := "LoanLayers", name := "back", desc := "(I)I" } : Jvm.MethodName) ∈ lwW := lw_in (List.mem_append_right _ (List.mem_of_getElem? (i := 553) (by decide +kernel))) rfl
theorem q_554 : Jvm.Cond.selects "LoanLayers" ({ cls := "LoanLayers", name := "back", desc := "(I)I" } : Jvm.MethodName) ({ cls := "LoanLayers", name := "back", desc := "(I)I" } : Jvm.MethodName) ∈ lwW := lw_in (List.mem_append_right _ (List.mem_of_getElem? (i := 554) (by decide +kernel))) rfl
theorem q_555 : Jvm.Cond.code ({ cls := "LoanLayers", name := "back", desc := "(I)I" } : Jvm.MethodName) prog_1_method_14_code (3 : Nat) (Option.some Jvm.ClassFile.FieldType.int) ∈ lwW := lw_in (List.mem_append_right _ (List.mem_of_getElem? (i := 555) (by decide +kernel))) rfl
theorem q_556 : Jvm.Cond.methodLink "LoanLayersLaw" (70 : Nat) ({ cls := "LoanLayers", name := "told", desc := "(II)I" } : Jvm.MethodName) ∈ lwW := lw_in (List.mem_append_right _ (List.mem_of_getElem? (i := 556) (by decide +kernel))) rfl
theorem q_557 : Jvm.Cond.instanceMethod ({ cls := "LoanLayers", name := "told", desc := "(II)I" } : Jvm.MethodName) ∈ lwW := lw_in (List.mem_append_right _ (List.mem_of_getElem? (i := 557) (by decide +kernel))) rfl
theorem q_558 : Jvm.Cond.selects "LoanLayers" ({ cls := "LoanLayers", name := "told", desc := "(II)I" } : Jvm.MethodName) ({ cls := "LoanLayers", name := "told", desc := "(II)I" } : Jvm.MethodName) ∈ lwW := lw_in (List.mem_append_right _ (List.mem_of_getElem? (i := 558) (by decide +kernel))) rfl
theorem q_559 : Jvm.Cond.code ({ cls := "LoanLayers", name := "told", desc := "(II)I" } : Jvm.MethodName) prog_1_method_16_code (4 : Nat) (Option.some Jvm.ClassFile.FieldType.int) ∈ lwW := lw_in (List.mem_append_right _ (List.mem_of_getElem? (i := 559) (by decide +kernel))) rfl
theorem q_560 : Jvm.Cond.methodLink "LoanLayersLaw" (74 : Nat) ({ cls := "LoanLayers", name := "meeting", desc := "(III)I" } : Jvm.MethodName) ∈ lwW := lw_in (List.mem_append_right _ (List.mem_of_getElem? (i := 560) (by decide +kernel))) rfl
theorem q_561 : Jvm.Cond.instanceMethod ({ cls := "LoanLayers", name := "meeting", desc := "(III)I" } : Jvm.MethodName) ∈ lwW := lw_in (List.mem_append_right _ (List.mem_of_getElem? (i := 561) (by decide +kernel))) rfl
theorem q_562 : Jvm.Cond.selects "LoanLayers" ({ cls := "LoanLayers", name := "meeting", desc := "(III)I" } : Jvm.MethodName) ({ cls := "LoanLayers", name := "meeting", desc := "(III)I" } : Jvm.MethodName) ∈ lwW := lw_in (List.mem_append_right _ (List.mem_of_getElem? (i := 562) (by decide +kernel))) rfl
theorem q_563 : Jvm.Cond.code ({ cls := "LoanLayers", name := "meeting", desc := "(III)I" } : Jvm.MethodName) prog_1_method_17_code (5 : Nat) (Option.some Jvm.ClassFile.FieldType.int) ∈ lwW := lw_in (List.mem_append_right _ (List.mem_of_getElem? (i := 563) (by decide +kernel))) rfl
theorem q_564 : Jvm.Cond.methodLink "LoanLayers" (192 : Nat) ({ cls := "LoanLayers$World", name := "lastOf", desc := "(I)I" } : Jvm.MethodName) ∈ lwW := lw_in (List.mem_append_right _ (List.mem_of_getElem? (i := 564) (by decide +kernel))) rfl
theorem q_565 : Jvm.Cond.instanceMethod ({ cls := "LoanLayers$World", name := "lastOf", desc := "(I)I" } : Jvm.MethodName) ∈ lwW := lw_in (List.mem_append_right _ (List.mem_of_getElem? (i := 565) (by decide +kernel))) rfl
theorem q_566 : Jvm.Cond.selects "LoanLayers$World" ({ cls := "LoanLayers$World", name := "lastOf", desc := "(I)I" } : Jvm.MethodName) ({ cls := "LoanLayers$World", name := "lastOf", desc := "(I)I" } : Jvm.MethodName) ∈ lwW := lw_in (List.mem_append_right _ (List.mem_of_getElem? (i := 566) (by decide +kernel))) rfl
theorem q_567 : Jvm.Cond.code ({ cls := "LoanLayers$World", name := "lastOf", desc := "(I)I" } : Jvm.MethodName) prog_10_method_10_code (2 : Nat) (Option.some Jvm.ClassFile.FieldType.int) ∈ lwW := lw_in (List.mem_append_right _ (List.mem_of_getElem? (i := 567) (by decide +kernel))) rfl
theorem q_568 : Jvm.Cond.methodLink "LoanLayersLaw" (79 : Nat) ({ cls := "LoanLayers", name := "loan", desc := "(II)I" } : Jvm.MethodName) ∈ lwW := lw_in (List.mem_append_right _ (List.mem_of_getElem? (i := 568) (by decide +kernel))) rfl
theorem q_569 : Jvm.Cond.instanceMethod ({ cls := "LoanLayers", name := "loan", desc := "(II)I" } : Jvm.MethodName) ∈ lwW := lw_in (List.mem_append_right _ (List.mem_of_getElem? (i := 569) (by decide +kernel))) rfl
theorem q_570 : Jvm.Cond.selects "LoanLayers" ({ cls := "LoanLayers", name := "loan", desc := "(II)I" } : Jvm.MethodName) ({ cls := "LoanLayers", name := "loan", desc := "(II)I" } : Jvm.MethodName) ∈ lwW := lw_in (List.mem_append_right _ (List.mem_of_getElem? (i := 570) (by decide +kernel))) rfl
theorem q_571 : Jvm.Cond.code ({ cls := "LoanLayers", name := "loan", desc := "(II)I" } : Jvm.MethodName) prog_1_method_18_code (4 : Nat) (Option.some Jvm.ClassFile.FieldType.int) ∈ lwW := lw_in (List.mem_append_right _ (List.mem_of_getElem? (i := 571) (by decide +kernel))) rfl
theorem q_572 : Jvm.Cond.methodLink "LoanLayers" (201 : Nat) ({ cls := "LoanLayers$Form", name := "length", desc := "(J)I" } : Jvm.MethodName) ∈ lwW := lw_in (List.mem_append_right _ (List.mem_of_getElem? (i := 572) (by decide +kernel))) rfl
theorem q_573 : Jvm.Cond.static ({ cls := "LoanLayers$Form", name := "length", desc := "(J)I" } : Jvm.MethodName) ∈ lwW := lw_in (List.mem_append_right _ (List.mem_of_getElem? (i := 573) (by decide +kernel))) rfl
theorem q_574 : Jvm.Cond.code ({ cls := "LoanLayers$Form", name := "length", desc := "(J)I" } : Jvm.MethodName) prog_2_method_3_code (3 : Nat) (Option.some Jvm.ClassFile.FieldType.int) ∈ lwW := lw_in (List.mem_append_right _ (List.mem_of_getElem? (i := 574) (by decide +kernel))) rfl
theorem q_575 : Jvm.Cond.methodLink "LoanLayers$Form" (13 : Nat) ({ cls := "LoanLayers$Form", name := "soundAt", desc := "(JI)I" } : Jvm.MethodName) ∈ lwW := lw_in (List.mem_append_right _ (List.mem_of_getElem? (i := 575) (by decide +kernel))) rfl
theorem q_576 : Jvm.Cond.methodLink "LoanLayers" (209 : Nat) ({ cls := "LoanLayers$Windows", name := "of", desc := "(LLoanLayers$World;LLoanLayers$Loan;)LLoanLayers$Windows;" } : Jvm.MethodName) ∈ lwW := lw_in (List.mem_append_right _ (List.mem_of_getElem? (i := 576) (by decide +kernel))) rfl
theorem q_577 : Jvm.Cond.instanceMethod ({ cls := "LoanLayers$Windows", name := "of", desc := "(LLoanLayers$World;LLoanLayers$Loan;)LLoanLayers$Windows;" } : Jvm.MethodName) ∈ lwW := lw_in (List.mem_append_right _ (List.mem_of_getElem? (i := 577) (by decide +kernel))) rfl
theorem q_578 : Jvm.Cond.selects "LoanLayers$Windows" ({ cls := "LoanLayers$Windows", name := "of", desc := "(LLoanLayers$World;LLoanLayers$Loan;)LLoanLayers$Windows;" } : Jvm.MethodName) ({ cls := "LoanLayers$Windows", name := "of", desc := "(LLoanLayers$World;LLoanLayers$Loan;)LLoanLayers$Windows;" } : Jvm.MethodName) ∈ lwW := lw_in (List.mem_append_right _ (List.mem_of_getElem? (i := 578) (by decide +kernel))) rfl
theorem q_579 : Jvm.Cond.code ({ cls := "LoanLayers$Windows", name := "of", desc := "(LLoanLayers$World;LLoanLayers$Loan;)LLoanLayers$Windows;" } : Jvm.MethodName) prog_9_method_2_code (9 : Nat) (Option.some (Jvm.ClassFile.FieldType.object "LoanLayers$Windows")) ∈ lwW := lw_in (List.mem_append_right _ (List.mem_of_getElem? (i := 579) (by decide +kernel))) rfl
theorem q_581 : Jvm.Cond.methodLink "LoanLayers$Windows" (34 : Nat) ({ cls := "LoanLayers$World", name := "firstOf", desc := "(I)I" } : Jvm.MethodName) ∈ lwW := lw_in (List.mem_append_right _ (List.mem_of_getElem? (i := 581) (by decide +kernel))) rfl
theorem q_582 : Jvm.Cond.methodLink "LoanLayers$Windows" (40 : Nat) ({ cls := "LoanLayers$World", name := "lastOf", desc := "(I)I" } : Jvm.MethodName) ∈ lwW := lw_in (List.mem_append_right _ (List.mem_of_getElem? (i := 582) (by decide +kernel))) rfl
theorem q_583 : Jvm.Cond.methodLink "LoanLayers$Windows" (43 : Nat) ({ cls := "LoanLayers$World", name := "lawAt", desc := "(I)LLoanLayers$Law;" } : Jvm.MethodName) ∈ lwW := lw_in (List.mem_append_right _ (List.mem_of_getElem? (i := 583) (by decide +kernel))) rfl
theorem q_584 : Jvm.Cond.methodLink "LoanLayers$Windows" (52 : Nat) ({ cls := "java/lang/Math", name := "min", desc := "(II)I" } : Jvm.MethodName) ∈ lwW := lw_in (List.mem_append_right _ (List.mem_of_getElem? (i := 584) (by decide +kernel))) rfl
theorem q_585 : Jvm.Cond.methodLink "LoanLayers$Windows" (61 : Nat) ({ cls := "LoanLayers$World", name := "borrowed", desc := "(JIII)J" } : Jvm.MethodName) ∈ lwW := lw_in (List.mem_append_right _ (List.mem_of_getElem? (i := 585) (by decide +kernel))) rfl
theorem q_586 : Jvm.Cond.methodLink "LoanLayers$Windows" (68 : Nat) ({ cls := "LoanLayers$Windows", name := "add", desc := "(II)V" } : Jvm.MethodName) ∈ lwW := lw_in (List.mem_append_right _ (List.mem_of_getElem? (i := 586) (by decide +kernel))) rfl
theorem q_588 : Jvm.Cond.instanceMethod ({ cls := "LoanLayers$Windows", name := "add", desc := "(II)V" } : Jvm.MethodName) ∈ lwW := lw_in (List.mem_append_right _ (List.mem_of_getElem? (i := 588) (by decide +kernel))) rfl
theorem q_589 : Jvm.Cond.code ({ cls := "LoanLayers$Windows", name := "add", desc := "(II)V" } : Jvm.MethodName) prog_9_method_3_code (3 : Nat) (Option.none : Option Jvm.ClassFile.FieldType) ∈ lwW := lw_in (List.mem_append_right _ (List.mem_of_getElem? (i := 589) (by decide +kernel))) rfl
theorem q_590 : Jvm.Cond.methodLink "LoanLayers$Windows" (72 : Nat) ({ cls := "LoanLayers$Windows", name := "lastOf", desc := "(I)I" } : Jvm.MethodName) ∈ lwW := lw_in (List.mem_append_right _ (List.mem_of_getElem? (i := 590) (by decide +kernel))) rfl
theorem q_591 : Jvm.Cond.instanceMethod ({ cls := "LoanLayers$Windows", name := "lastOf", desc := "(I)I" } : Jvm.MethodName) ∈ lwW := lw_in (List.mem_append_right _ (List.mem_of_getElem? (i := 591) (by decide +kernel))) rfl
theorem q_592 : Jvm.Cond.selects "LoanLayers$Windows" ({ cls := "LoanLayers$Windows", name := "lastOf", desc := "(I)I" } : Jvm.MethodName) ({ cls := "LoanLayers$Windows", name := "lastOf", desc := "(I)I" } : Jvm.MethodName) ∈ lwW := lw_in (List.mem_append_right _ (List.mem_of_getElem? (i := 592) (by decide +kernel))) rfl
theorem q_593 : Jvm.Cond.code ({ cls := "LoanLayers$Windows", name := "lastOf", desc := "(I)I" } : Jvm.MethodName) prog_9_method_5_code (2 : Nat) (Option.some Jvm.ClassFile.FieldType.int) ∈ lwW := lw_in (List.mem_append_right _ (List.mem_of_getElem? (i := 593) (by decide +kernel))) rfl
theorem q_595 : Jvm.Cond.methodLink "LoanLayers" (213 : Nat) ({ cls := "LoanLayers$Windows", name := "kind", desc := "()I" } : Jvm.MethodName) ∈ lwW := lw_in (List.mem_append_right _ (List.mem_of_getElem? (i := 595) (by decide +kernel))) rfl
theorem q_596 : Jvm.Cond.instanceMethod ({ cls := "LoanLayers$Windows", name := "kind", desc := "()I" } : Jvm.MethodName) ∈ lwW := lw_in (List.mem_append_right _ (List.mem_of_getElem? (i := 596) (by decide +kernel))) rfl
theorem q_597 : Jvm.Cond.selects "LoanLayers$Windows" ({ cls := "LoanLayers$Windows", name := "kind", desc := "()I" } : Jvm.MethodName) ({ cls := "LoanLayers$Windows", name := "kind", desc := "()I" } : Jvm.MethodName) ∈ lwW := lw_in (List.mem_append_right _ (List.mem_of_getElem? (i := 597) (by decide +kernel))) rfl
theorem q_598 : Jvm.Cond.code ({ cls := "LoanLayers$Windows", name := "kind", desc := "()I" } : Jvm.MethodName) prog_9_method_8_code (1 : Nat) (Option.some Jvm.ClassFile.FieldType.int) ∈ lwW := lw_in (List.mem_append_right _ (List.mem_of_getElem? (i := 598) (by decide +kernel))) rfl
theorem q_599 : Jvm.Cond.methodLink "LoanLayers" (219 : Nat) ({ cls := "LoanLayers$Windows", name := "earliest", desc := "()I" } : Jvm.MethodName) ∈ lwW := lw_in (List.mem_append_right _ (List.mem_of_getElem? (i := 599) (by decide +kernel))) rfl
theorem q_600 : Jvm.Cond.instanceMethod ({ cls := "LoanLayers$Windows", name := "earliest", desc := "()I" } : Jvm.MethodName) ∈ lwW := lw_in (List.mem_append_right _ (List.mem_of_getElem? (i := 600) (by decide +kernel))) rfl
theorem q_601 : Jvm.Cond.selects "LoanLayers$Windows" ({ cls := "LoanLayers$Windows", name := "earliest", desc := "()I" } : Jvm.MethodName) ({ cls := "LoanLayers$Windows", name := "earliest", desc := "()I" } : Jvm.MethodName) ∈ lwW := lw_in (List.mem_append_right _ (List.mem_of_getElem? (i := 601) (by decide +kernel))) rfl
theorem q_602 : Jvm.Cond.code ({ cls := "LoanLayers$Windows", name := "earliest", desc := "()I" } : Jvm.MethodName) prog_9_method_6_code (1 : Nat) (Option.some Jvm.ClassFile.FieldType.int) ∈ lwW := lw_in (List.mem_append_right _ (List.mem_of_getElem? (i := 602) (by decide +kernel))) rfl
theorem q_603 : Jvm.Cond.methodLink "LoanLayers$Windows" (77 : Nat) ({ cls := "LoanLayers$Windows", name := "firstOf", desc := "(I)I" } : Jvm.MethodName) ∈ lwW := lw_in (List.mem_append_right _ (List.mem_of_getElem? (i := 603) (by decide +kernel))) rfl
theorem q_604 : Jvm.Cond.instanceMethod ({ cls := "LoanLayers$Windows", name := "firstOf", desc := "(I)I" } : Jvm.MethodName) ∈ lwW := lw_in (List.mem_append_right _ (List.mem_of_getElem? (i := 604) (by decide +kernel))) rfl
theorem q_605 : Jvm.Cond.selects "LoanLayers$Windows" ({ cls := "LoanLayers$Windows", name := "firstOf", desc := "(I)I" } : Jvm.MethodName) ({ cls := "LoanLayers$Windows", name := "firstOf", desc := "(I)I" } : Jvm.MethodName) ∈ lwW := lw_in (List.mem_append_right _ (List.mem_of_getElem? (i := 605) (by decide +kernel))) rfl
theorem q_606 : Jvm.Cond.code ({ cls := "LoanLayers$Windows", name := "firstOf", desc := "(I)I" } : Jvm.MethodName) prog_9_method_4_code (2 : Nat) (Option.some Jvm.ClassFile.FieldType.int) ∈ lwW := lw_in (List.mem_append_right _ (List.mem_of_getElem? (i := 606) (by decide +kernel))) rfl
theorem q_607 : Jvm.Cond.methodLink "LoanLayers" (222 : Nat) ({ cls := "LoanLayers$Windows", name := "latest", desc := "()I" } : Jvm.MethodName) ∈ lwW := lw_in (List.mem_append_right _ (List.mem_of_getElem? (i := 607) (by decide +kernel))) rfl
theorem q_608 : Jvm.Cond.instanceMethod ({ cls := "LoanLayers$Windows", name := "latest", desc := "()I" } : Jvm.MethodName) ∈ lwW := lw_in (List.mem_append_right _ (List.mem_of_getElem? (i := 608) (by decide +kernel))) rfl
theorem q_609 : Jvm.Cond.selects "LoanLayers$Windows" ({ cls := "LoanLayers$Windows", name := "latest", desc := "()I" } : Jvm.MethodName) ({ cls := "LoanLayers$Windows", name := "latest", desc := "()I" } : Jvm.MethodName) ∈ lwW := lw_in (List.mem_append_right _ (List.mem_of_getElem? (i := 609) (by decide +kernel))) rfl
theorem q_610 : Jvm.Cond.code ({ cls := "LoanLayers$Windows", name := "latest", desc := "()I" } : Jvm.MethodName) prog_9_method_7_code (1 : Nat) (Option.some Jvm.ClassFile.FieldType.int) ∈ lwW := lw_in (List.mem_append_right _ (List.mem_of_getElem? (i := 610) (by decide +kernel))) rfl
theorem q_611 : Jvm.Cond.methodLink "LoanLayers" (224 : Nat) ({ cls := "LoanLayers$Layers", name := "of", desc := "(LLoanLayers$World;LLoanLayers$Windows;)LLoanLayers$Layers;" } : Jvm.MethodName) ∈ lwW := lw_in (List.mem_append_right _ (List.mem_of_getElem? (i := 611) (by decide +kernel))) rfl
theorem q_612 : Jvm.Cond.instanceMethod ({ cls := "LoanLayers$Layers", name := "of", desc := "(LLoanLayers$World;LLoanLayers$Windows;)LLoanLayers$Layers;" } : Jvm.MethodName) ∈ lwW := lw_in (List.mem_append_right _ (List.mem_of_getElem? (i := 612) (by decide +kernel))) rfl
theorem q_613 : Jvm.Cond.selects "LoanLayers$Layers" ({ cls := "LoanLayers$Layers", name := "of", desc := "(LLoanLayers$World;LLoanLayers$Windows;)LLoanLayers$Layers;" } : Jvm.MethodName) ({ cls := "LoanLayers$Layers", name := "of", desc := "(LLoanLayers$World;LLoanLayers$Windows;)LLoanLayers$Layers;" } : Jvm.MethodName) ∈ lwW := lw_in (List.mem_append_right _ (List.mem_of_getElem? (i := 613) (by decide +kernel))) rfl
theorem q_614 : Jvm.Cond.code ({ cls := "LoanLayers$Layers", name := "of", desc := "(LLoanLayers$World;LLoanLayers$Windows;)LLoanLayers$Layers;" } : Jvm.MethodName) prog_4_method_2_code (5 : Nat) (Option.some (Jvm.ClassFile.FieldType.object "LoanLayers$Layers")) ∈ lwW := lw_in (List.mem_append_right _ (List.mem_of_getElem? (i := 614) (by decide +kernel))) rfl
theorem q_615 : Jvm.Cond.methodLink "LoanLayers$Layers" (24 : Nat) ({ cls := "LoanLayers$World", name := "loanAt", desc := "(I)LLoanLayers$Loan;" } : Jvm.MethodName) ∈ lwW := lw_in (List.mem_append_right _ (List.mem_of_getElem? (i := 615) (by decide +kernel))) rfl
theorem q_616 : Jvm.Cond.methodLink "LoanLayers$Layers" (30 : Nat) ({ cls := "LoanLayers$Windows", name := "of", desc := "(LLoanLayers$World;LLoanLayers$Loan;)LLoanLayers$Windows;" } : Jvm.MethodName) ∈ lwW := lw_in (List.mem_append_right _ (List.mem_of_getElem? (i := 616) (by decide +kernel))) rfl
theorem q_617 : Jvm.Cond.methodLink "LoanLayers$Layers" (42 : Nat) ({ cls := "LoanLayers$Windows", name := "earliest", desc := "()I" } : Jvm.MethodName) ∈ lwW := lw_in (List.mem_append_right _ (List.mem_of_getElem? (i := 617) (by decide +kernel))) rfl
theorem q_618 : Jvm.Cond.methodLink "LoanLayers$Layers" (46 : Nat) ({ cls := "LoanLayers$Windows", name := "latest", desc := "()I" } : Jvm.MethodName) ∈ lwW := lw_in (List.mem_append_right _ (List.mem_of_getElem? (i := 618) (by decide +kernel))) rfl
theorem q_619 : Jvm.Cond.methodLink "LoanLayers$Layers" (49 : Nat) ({ cls := "LoanLayers$Layers", name := "layByFirstDate", desc := "()V" } : Jvm.MethodName) ∈ lwW := lw_in (List.mem_append_right _ (List.mem_of_getElem? (i := 619) (by decide +kernel))) rfl
theorem q_621 : Jvm.Cond.instanceMethod ({ cls := "LoanLayers$Layers", name := "layByFirstDate", desc := "()V" } : Jvm.MethodName) ∈ lwW := lw_in (List.mem_append_right _ (List.mem_of_getElem? (i := 621) (by decide +kernel))) rfl
theorem q_622 : Jvm.Cond.code ({ cls := "LoanLayers$Layers", name := "layByFirstDate", desc := "()V" } : Jvm.MethodName) prog_4_method_3_code (3 : Nat) (Option.none : Option Jvm.ClassFile.FieldType) ∈ lwW := lw_in (List.mem_append_right _ (List.mem_of_getElem? (i := 622) (by decide +kernel))) rfl
theorem q_623 : Jvm.Cond.methodLink "LoanLayers$Layers" (52 : Nat) ({ cls := "LoanLayers$Layers", name := "greatestBefore", desc := "(I)I" } : Jvm.MethodName) ∈ lwW := lw_in (List.mem_append_right _ (List.mem_of_getElem? (i := 623) (by decide +kernel))) rfl
theorem q_625 : Jvm.Cond.instanceMethod ({ cls := "LoanLayers$Layers", name := "greatestBefore", desc := "(I)I" } : Jvm.MethodName) ∈ lwW := lw_in (List.mem_append_right _ (List.mem_of_getElem? (i := 625) (by decide +kernel))) rfl
theorem q_626 : Jvm.Cond.code ({ cls := "LoanLayers$Layers", name := "greatestBefore", desc := "(I)I" } : Jvm.MethodName) prog_4_method_4_code (4 : Nat) (Option.some Jvm.ClassFile.FieldType.int) ∈ lwW := lw_in (List.mem_append_right _ (List.mem_of_getElem? (i := 626) (by decide +kernel))) rfl
theorem q_627 : Jvm.Cond.methodLink "LoanLayers$Layers" (56 : Nat) ({ cls := "LoanLayers$Layers", name := "isOlder", desc := "(II)Z" } : Jvm.MethodName) ∈ lwW := lw_in (List.mem_append_right _ (List.mem_of_getElem? (i := 627) (by decide +kernel))) rfl
theorem q_628 : Jvm.Cond.instanceMethod ({ cls := "LoanLayers$Layers", name := "isOlder", desc := "(II)Z" } : Jvm.MethodName) ∈ lwW := lw_in (List.mem_append_right _ (List.mem_of_getElem? (i := 628) (by decide +kernel))) rfl
theorem q_629 : Jvm.Cond.selects "LoanLayers$Layers" ({ cls := "LoanLayers$Layers", name := "isOlder", desc := "(II)Z" } : Jvm.MethodName) ({ cls := "LoanLayers$Layers", name := "isOlder", desc := "(II)Z" } : Jvm.MethodName) ∈ lwW := lw_in (List.mem_append_right _ (List.mem_of_getElem? (i := 629) (by decide +kernel))) rfl
theorem q_630 : Jvm.Cond.code ({ cls := "LoanLayers$Layers", name := "isOlder", desc := "(II)Z" } : Jvm.MethodName) prog_4_method_5_code (3 : Nat) (Option.some Jvm.ClassFile.FieldType.boolean) ∈ lwW := lw_in (List.mem_append_right _ (List.mem_of_getElem? (i := 630) (by decide +kernel))) rfl
theorem q_632 : Jvm.Cond.methodLink "LoanLayers$Layers" (60 : Nat) ({ cls := "java/lang/Math", name := "max", desc := "(II)I" } : Jvm.MethodName) ∈ lwW := lw_in (List.mem_append_right _ (List.mem_of_getElem? (i := 632) (by decide +kernel))) rfl
theorem q_633 : Jvm.Cond.static ({ cls := "java/lang/Math", name := "max", desc := "(II)I" } : Jvm.MethodName) ∈ lwW := lw_in (List.mem_append_right _ (List.mem_of_getElem? (i := 633) (by decide +kernel))) rfl
theorem q_634 : Jvm.Cond.code ({ cls := "java/lang/Math", name := "max", desc := "(II)I" } : Jvm.MethodName) prog_13_method_65_code (2 : Nat) (Option.some Jvm.ClassFile.FieldType.int) ∈ lwW := lw_in (List.mem_append_right _ (List.mem_of_getElem? (i := 634) (by decide +kernel))) rfl
theorem q_635 : Jvm.Cond.methodLink "LoanLayers" (227 : Nat) ({ cls := "LoanLayers$Layers", name := "layerOf", desc := "(I)I" } : Jvm.MethodName) ∈ lwW := lw_in (List.mem_append_right _ (List.mem_of_getElem? (i := 635) (by decide +kernel))) rfl
theorem q_636 : Jvm.Cond.instanceMethod ({ cls := "LoanLayers$Layers", name := "layerOf", desc := "(I)I" } : Jvm.MethodName) ∈ lwW := lw_in (List.mem_append_right _ (List.mem_of_getElem? (i := 636) (by decide +kernel))) rfl
theorem q_637 : Jvm.Cond.selects "LoanLayers$Layers" ({ cls := "LoanLayers$Layers", name := "layerOf", desc := "(I)I" } : Jvm.MethodName) ({ cls := "LoanLayers$Layers", name := "layerOf", desc := "(I)I" } : Jvm.MethodName) ∈ lwW := lw_in (List.mem_append_right _ (List.mem_of_getElem? (i := 637) (by decide +kernel))) rfl
theorem q_638 : Jvm.Cond.code ({ cls := "LoanLayers$Layers", name := "layerOf", desc := "(I)I" } : Jvm.MethodName) prog_4_method_6_code (2 : Nat) (Option.some Jvm.ClassFile.FieldType.int) ∈ lwW := lw_in (List.mem_append_right _ (List.mem_of_getElem? (i := 638) (by decide +kernel))) rfl
theorem q_639 : Jvm.Cond.methodLink "LoanLayers" (230 : Nat) ({ cls := "LoanLayers$Layers", name := "olderThan", desc := "(I)I" } : Jvm.MethodName) ∈ lwW := lw_in (List.mem_append_right _ (List.mem_of_getElem? (i := 639) (by decide +kernel))) rfl
theorem q_640 : Jvm.Cond.instanceMethod ({ cls := "LoanLayers$Layers", name := "olderThan", desc := "(I)I" } : Jvm.MethodName) ∈ lwW := lw_in (List.mem_append_right _ (List.mem_of_getElem? (i := 640) (by decide +kernel))) rfl
theorem q_641 : Jvm.Cond.selects "LoanLayers$Layers" ({ cls := "LoanLayers$Layers", name := "olderThan", desc := "(I)I" } : Jvm.MethodName) ({ cls := "LoanLayers$Layers", name := "olderThan", desc := "(I)I" } : Jvm.MethodName) ∈ lwW := lw_in (List.mem_append_right _ (List.mem_of_getElem? (i := 641) (by decide +kernel))) rfl
theorem q_642 : Jvm.Cond.code ({ cls := "LoanLayers$Layers", name := "olderThan", desc := "(I)I" } : Jvm.MethodName) prog_4_method_7_code (4 : Nat) (Option.some Jvm.ClassFile.FieldType.int) ∈ lwW := lw_in (List.mem_append_right _ (List.mem_of_getElem? (i := 642) (by decide +kernel))) rfl
theorem q_643 : Jvm.Cond.methodLink "LoanLayersLaw" (83 : Nat) ({ cls := "LoanLayers", name := "sound", desc := "(III)I" } : Jvm.MethodName) ∈ lwW := lw_in (List.mem_append_right _ (List.mem_of_getElem? (i := 643) (by decide +kernel))) rfl
theorem q_644 : Jvm.Cond.instanceMethod ({ cls := "LoanLayers", name := "sound", desc := "(III)I" } : Jvm.MethodName) ∈ lwW := lw_in (List.mem_append_right _ (List.mem_of_getElem? (i := 644) (by decide +kernel))) rfl
theorem q_645 : Jvm.Cond.selects "LoanLayers" ({ cls := "LoanLayers", name := "sound", desc := "(III)I" } : Jvm.MethodName) ({ cls := "LoanLayers", name := "sound", desc := "(III)I" } : Jvm.MethodName) ∈ lwW := lw_in (List.mem_append_right _ (List.mem_of_getElem? (i := 645) (by decide +kernel))) rfl
theorem q_646 : Jvm.Cond.code ({ cls := "LoanLayers", name := "sound", desc := "(III)I" } : Jvm.MethodName) prog_1_method_19_code (6 : Nat) (Option.some Jvm.ClassFile.FieldType.int) ∈ lwW := lw_in (List.mem_append_right _ (List.mem_of_getElem? (i := 646) (by decide +kernel))) rfl
theorem q_647 : Jvm.Cond.methodLink "LoanLayers" (233 : Nat) ({ cls := "LoanLayers$Form", name := "soundAt", desc := "(JI)I" } : Jvm.MethodName) ∈ lwW := lw_in (List.mem_append_right _ (List.mem_of_getElem? (i := 647) (by decide +kernel))) rfl
theorem q_648 : Jvm.Cond.methodLink "LoanLayersLaw" (87 : Nat) ({ cls := "LoanLayers", name := "window", desc := "(III)I" } : Jvm.MethodName) ∈ lwW := lw_in (List.mem_append_right _ (List.mem_of_getElem? (i := 648) (by decide +kernel))) rfl
theorem q_649 : Jvm.Cond.instanceMethod ({ cls := "LoanLayers", name := "window", desc := "(III)I" } : Jvm.MethodName) ∈ lwW := lw_in (List.mem_append_right _ (List.mem_of_getElem? (i := 649) (by decide +kernel))) rfl
theorem q_650 : Jvm.Cond.selects "LoanLayers" ({ cls := "LoanLayers", name := "window", desc := "(III)I" } : Jvm.MethodName) ({ cls := "LoanLayers", name := "window", desc := "(III)I" } : Jvm.MethodName) ∈ lwW := lw_in (List.mem_append_right _ (List.mem_of_getElem? (i := 650) (by decide +kernel))) rfl
theorem q_651 : Jvm.Cond.code ({ cls := "LoanLayers", name := "window", desc := "(III)I" } : Jvm.MethodName) prog_1_method_20_code (6 : Nat) (Option.some Jvm.ClassFile.FieldType.int) ∈ lwW := lw_in (List.mem_append_right _ (List.mem_of_getElem? (i := 651) (by decide +kernel))) rfl
theorem q_652 : Jvm.Cond.methodLink "LoanLayers" (237 : Nat) ({ cls := "LoanLayers$Windows", name := "firstOf", desc := "(I)I" } : Jvm.MethodName) ∈ lwW := lw_in (List.mem_append_right _ (List.mem_of_getElem? (i := 652) (by decide +kernel))) rfl
theorem q_653 : Jvm.Cond.methodLink "LoanLayers" (238 : Nat) ({ cls := "LoanLayers$Windows", name := "lastOf", desc := "(I)I" } : Jvm.MethodName) ∈ lwW := lw_in (List.mem_append_right _ (List.mem_of_getElem? (i := 653) (by decide +kernel))) rfl
theorem q_654 : Jvm.Cond.methodLink "LoanLayersLaw" (91 : Nat) ({ cls := "LoanLayers", name := "taken", desc := "(III)I" } : Jvm.MethodName) ∈ lwW := lw_in (List.mem_append_right _ (List.mem_of_getElem? (i := 654) (by decide +kernel))) rfl
theorem q_655 : Jvm.Cond.instanceMethod ({ cls := "LoanLayers", name := "taken", desc := "(III)I" } : Jvm.MethodName) ∈ lwW := lw_in (List.mem_append_right _ (List.mem_of_getElem? (i := 655) (by decide +kernel))) rfl
theorem q_656 : Jvm.Cond.selects "LoanLayers" ({ cls := "LoanLayers", name := "taken", desc := "(III)I" } : Jvm.MethodName) ({ cls := "LoanLayers", name := "taken", desc := "(III)I" } : Jvm.MethodName) ∈ lwW := lw_in (List.mem_append_right _ (List.mem_of_getElem? (i := 656) (by decide +kernel))) rfl
theorem q_657 : Jvm.Cond.code ({ cls := "LoanLayers", name := "taken", desc := "(III)I" } : Jvm.MethodName) prog_1_method_21_code (5 : Nat) (Option.some Jvm.ClassFile.FieldType.int) ∈ lwW := lw_in (List.mem_append_right _ (List.mem_of_getElem? (i := 657) (by decide +kernel))) rfl
theorem q_658 : Jvm.Cond.methodLink "LoanLayers" (239 : Nat) ({ cls := "LoanLayers", name := "soundOrNumber", desc := "(JI)I" } : Jvm.MethodName) ∈ lwW := lw_in (List.mem_append_right _ (List.mem_of_getElem? (i := 658) (by decide +kernel))) rfl
theorem q_659 : Jvm.Cond.static ({ cls := "LoanLayers", name := "soundOrNumber", desc := "(JI)I" } : Jvm.MethodName) ∈ lwW := lw_in (List.mem_append_right _ (List.mem_of_getElem? (i := 659) (by decide +kernel))) rfl
theorem q_660 : Jvm.Cond.code ({ cls := "LoanLayers", name := "soundOrNumber", desc := "(JI)I" } : Jvm.MethodName) prog_1_method_28_code (4 : Nat) (Option.some Jvm.ClassFile.FieldType.int) ∈ lwW := lw_in (List.mem_append_right _ (List.mem_of_getElem? (i := 660) (by decide +kernel))) rfl
theorem q_661 : Jvm.Cond.methodLink "LoanLayersLaw" (95 : Nat) ({ cls := "LoanLayers", name := "gone", desc := "(IIIII)I" } : Jvm.MethodName) ∈ lwW := lw_in (List.mem_append_right _ (List.mem_of_getElem? (i := 661) (by decide +kernel))) rfl
theorem q_662 : Jvm.Cond.instanceMethod ({ cls := "LoanLayers", name := "gone", desc := "(IIIII)I" } : Jvm.MethodName) ∈ lwW := lw_in (List.mem_append_right _ (List.mem_of_getElem? (i := 662) (by decide +kernel))) rfl
theorem q_663 : Jvm.Cond.selects "LoanLayers" ({ cls := "LoanLayers", name := "gone", desc := "(IIIII)I" } : Jvm.MethodName) ({ cls := "LoanLayers", name := "gone", desc := "(IIIII)I" } : Jvm.MethodName) ∈ lwW := lw_in (List.mem_append_right _ (List.mem_of_getElem? (i := 663) (by decide +kernel))) rfl
theorem q_664 : Jvm.Cond.code ({ cls := "LoanLayers", name := "gone", desc := "(IIIII)I" } : Jvm.MethodName) prog_1_method_22_code (7 : Nat) (Option.some Jvm.ClassFile.FieldType.int) ∈ lwW := lw_in (List.mem_append_right _ (List.mem_of_getElem? (i := 664) (by decide +kernel))) rfl
theorem q_665 : Jvm.Cond.methodLink "LoanLayers" (242 : Nat) ({ cls := "LoanLayers$World", name := "developed", desc := "(JIII)J" } : Jvm.MethodName) ∈ lwW := lw_in (List.mem_append_right _ (List.mem_of_getElem? (i := 665) (by decide +kernel))) rfl
theorem q_666 : Jvm.Cond.methodLink "LoanLayersLaw" (100 : Nat) ({ cls := "LoanLayers", name := "did", desc := "(III)I" } : Jvm.MethodName) ∈ lwW := lw_in (List.mem_append_right _ (List.mem_of_getElem? (i := 666) (by decide +kernel))) rfl
theorem q_667 : Jvm.Cond.instanceMethod ({ cls := "LoanLayers", name := "did", desc := "(III)I" } : Jvm.MethodName) ∈ lwW := lw_in (List.mem_append_right _ (List.mem_of_getElem? (i := 667) (by decide +kernel))) rfl
theorem q_668 : Jvm.Cond.selects "LoanLayers" ({ cls := "LoanLayers", name := "did", desc := "(III)I" } : Jvm.MethodName) ({ cls := "LoanLayers", name := "did", desc := "(III)I" } : Jvm.MethodName) ∈ lwW := lw_in (List.mem_append_right _ (List.mem_of_getElem? (i := 668) (by decide +kernel))) rfl
theorem q_669 : Jvm.Cond.code ({ cls := "LoanLayers", name := "did", desc := "(III)I" } : Jvm.MethodName) prog_1_method_23_code (8 : Nat) (Option.some Jvm.ClassFile.FieldType.int) ∈ lwW := lw_in (List.mem_append_right _ (List.mem_of_getElem? (i := 669) (by decide +kernel))) rfl
theorem q_670 : Jvm.Cond.methodLink "LoanLayers" (245 : Nat) ({ cls := "LoanLayers$Law", name := "affects", desc := "(J)Z" } : Jvm.MethodName) ∈ lwW := lw_in (List.mem_append_right _ (List.mem_of_getElem? (i := 670) (by decide +kernel))) rfl
theorem q_671 : Jvm.Cond.instanceMethod ({ cls := "LoanLayers$Law", name := "affects", desc := "(J)Z" } : Jvm.MethodName) ∈ lwW := lw_in (List.mem_append_right _ (List.mem_of_getElem? (i := 671) (by decide +kernel))) rfl
theorem q_672 : Jvm.Cond.selects "LoanLayers$Law" ({ cls := "LoanLayers$Law", name := "affects", desc := "(J)Z" } : Jvm.MethodName) ({ cls := "LoanLayers$Law", name := "affects", desc := "(J)Z" } : Jvm.MethodName) ∈ lwW := lw_in (List.mem_append_right _ (List.mem_of_getElem? (i := 672) (by decide +kernel))) rfl
theorem q_673 : Jvm.Cond.code ({ cls := "LoanLayers$Law", name := "affects", desc := "(J)Z" } : Jvm.MethodName) prog_3_method_3_code (3 : Nat) (Option.some Jvm.ClassFile.FieldType.boolean) ∈ lwW := lw_in (List.mem_append_right _ (List.mem_of_getElem? (i := 673) (by decide +kernel))) rfl
theorem q_674 : Jvm.Cond.methodLink "LoanLayers$Law" (30 : Nat) ({ cls := "LoanLayers$Law", name := "applied", desc := "(J)J" } : Jvm.MethodName) ∈ lwW := lw_in (List.mem_append_right _ (List.mem_of_getElem? (i := 674) (by decide +kernel))) rfl
theorem q_675 : Jvm.Cond.methodLink "LoanLayersLaw" (104 : Nat) ({ cls := "LoanLayers", name := "older", desc := "(II)I" } : Jvm.MethodName) ∈ lwW := lw_in (List.mem_append_right _ (List.mem_of_getElem? (i := 675) (by decide +kernel))) rfl
theorem q_676 : Jvm.Cond.instanceMethod ({ cls := "LoanLayers", name := "older", desc := "(II)I" } : Jvm.MethodName) ∈ lwW := lw_in (List.mem_append_right _ (List.mem_of_getElem? (i := 676) (by decide +kernel))) rfl
theorem q_677 : Jvm.Cond.selects "LoanLayers" ({ cls := "LoanLayers", name := "older", desc := "(II)I" } : Jvm.MethodName) ({ cls := "LoanLayers", name := "older", desc := "(II)I" } : Jvm.MethodName) ∈ lwW := lw_in (List.mem_append_right _ (List.mem_of_getElem? (i := 677) (by decide +kernel))) rfl
theorem q_678 : Jvm.Cond.code ({ cls := "LoanLayers", name := "older", desc := "(II)I" } : Jvm.MethodName) prog_1_method_24_code (3 : Nat) (Option.some Jvm.ClassFile.FieldType.int) ∈ lwW := lw_in (List.mem_append_right _ (List.mem_of_getElem? (i := 678) (by decide +kernel))) rfl
theorem q_679 : Jvm.Cond.methodLink "LoanLayers" (249 : Nat) ({ cls := "LoanLayers$Layers", name := "isOlder", desc := "(II)Z" } : Jvm.MethodName) ∈ lwW := lw_in (List.mem_append_right _ (List.mem_of_getElem? (i := 679) (by decide +kernel))) rfl
theorem q_680 : Jvm.Cond.methodLink "LoanLayersLaw" (108 : Nat) ({ cls := "LoanLayers", name := "road", desc := "(IIIII)I" } : Jvm.MethodName) ∈ lwW := lw_in (List.mem_append_right _ (List.mem_of_getElem? (i := 680) (by decide +kernel))) rfl
theorem q_681 : Jvm.Cond.instanceMethod ({ cls := "LoanLayers", name := "road", desc := "(IIIII)I" } : Jvm.MethodName) ∈ lwW := lw_in (List.mem_append_right _ (List.mem_of_getElem? (i := 681) (by decide +kernel))) rfl
theorem q_682 : Jvm.Cond.selects "LoanLayers" ({ cls := "LoanLayers", name := "road", desc := "(IIIII)I" } : Jvm.MethodName) ({ cls := "LoanLayers", name := "road", desc := "(IIIII)I" } : Jvm.MethodName) ∈ lwW := lw_in (List.mem_append_right _ (List.mem_of_getElem? (i := 682) (by decide +kernel))) rfl
theorem q_683 : Jvm.Cond.code ({ cls := "LoanLayers", name := "road", desc := "(IIIII)I" } : Jvm.MethodName) prog_1_method_25_code (8 : Nat) (Option.some Jvm.ClassFile.FieldType.int) ∈ lwW := lw_in (List.mem_append_right _ (List.mem_of_getElem? (i := 683) (by decide +kernel))) rfl
theorem q_684 : Jvm.Cond.methodLink "LoanLayers" (252 : Nat) ({ cls := "LoanLayers$Way", name := "find", desc := "(LLoanLayers$World;JIJI)V" } : Jvm.MethodName) ∈ lwW := lw_in (List.mem_append_right _ (List.mem_of_getElem? (i := 684) (by decide +kernel))) rfl
theorem q_685 : Jvm.Cond.instanceMethod ({ cls := "LoanLayers$Way", name := "find", desc := "(LLoanLayers$World;JIJI)V" } : Jvm.MethodName) ∈ lwW := lw_in (List.mem_append_right _ (List.mem_of_getElem? (i := 685) (by decide +kernel))) rfl
theorem q_686 : Jvm.Cond.selects "LoanLayers$Way" ({ cls := "LoanLayers$Way", name := "find", desc := "(LLoanLayers$World;JIJI)V" } : Jvm.MethodName) ({ cls := "LoanLayers$Way", name := "find", desc := "(LLoanLayers$World;JIJI)V" } : Jvm.MethodName) ∈ lwW := lw_in (List.mem_append_right _ (List.mem_of_getElem? (i := 686) (by decide +kernel))) rfl
theorem q_687 : Jvm.Cond.code ({ cls := "LoanLayers$Way", name := "find", desc := "(LLoanLayers$World;JIJI)V" } : Jvm.MethodName) prog_8_method_2_code (9 : Nat) (Option.none : Option Jvm.ClassFile.FieldType) ∈ lwW := lw_in (List.mem_append_right _ (List.mem_of_getElem? (i := 687) (by decide +kernel))) rfl
theorem q_688 : Jvm.Cond.methodLink "LoanLayers$Way" (42 : Nat) ({ cls := "LoanLayers$Way", name := "prepare", desc := "(LLoanLayers$World;)V" } : Jvm.MethodName) ∈ lwW := lw_in (List.mem_append_right _ (List.mem_of_getElem? (i := 688) (by decide +kernel))) rfl
theorem q_690 : Jvm.Cond.instanceMethod ({ cls := "LoanLayers$Way", name := "prepare", desc := "(LLoanLayers$World;)V" } : Jvm.MethodName) ∈ lwW := lw_in (List.mem_append_right _ (List.mem_of_getElem? (i := 690) (by decide +kernel))) rfl
theorem q_691 : Jvm.Cond.code ({ cls := "LoanLayers$Way", name := "prepare", desc := "(LLoanLayers$World;)V" } : Jvm.MethodName) prog_8_method_4_code (4 : Nat) (Option.none : Option Jvm.ClassFile.FieldType) ∈ lwW := lw_in (List.mem_append_right _ (List.mem_of_getElem? (i := 691) (by decide +kernel))) rfl
theorem q_692 : Jvm.Cond.methodLink "LoanLayers$Way" (54 : Nat) ({ cls := "LoanLayers$World", name := "lawAt", desc := "(I)LLoanLayers$Law;" } : Jvm.MethodName) ∈ lwW := lw_in (List.mem_append_right _ (List.mem_of_getElem? (i := 692) (by decide +kernel))) rfl
theorem q_695 : Jvm.Cond.methodLink "LoanLayers$Way" (73 : Nat) ({ cls := "LoanLayers$World", name := "firstOf", desc := "(I)I" } : Jvm.MethodName) ∈ lwW := lw_in (List.mem_append_right _ (List.mem_of_getElem? (i := 695) (by decide +kernel))) rfl
theorem q_696 : Jvm.Cond.methodLink "LoanLayers$Way" (46 : Nat) ({ cls := "LoanLayers$Way", name := "leads", desc := "(LLoanLayers$World;IIIJ)Z" } : Jvm.MethodName) ∈ lwW := lw_in (List.mem_append_right _ (List.mem_of_getElem? (i := 696) (by decide +kernel))) rfl
theorem q_698 : Jvm.Cond.instanceMethod ({ cls := "LoanLayers$Way", name := "leads", desc := "(LLoanLayers$World;IIIJ)Z" } : Jvm.MethodName) ∈ lwW := lw_in (List.mem_append_right _ (List.mem_of_getElem? (i := 698) (by decide +kernel))) rfl
theorem q_699 : Jvm.Cond.code ({ cls := "LoanLayers$Way", name := "leads", desc := "(LLoanLayers$World;IIIJ)Z" } : Jvm.MethodName) prog_8_method_5_code (10 : Nat) (Option.some Jvm.ClassFile.FieldType.boolean) ∈ lwW := lw_in (List.mem_append_right _ (List.mem_of_getElem? (i := 699) (by decide +kernel))) rfl
theorem q_700 : Jvm.Cond.methodLink "LoanLayers$Way" (77 : Nat) ({ cls := "java/lang/Math", name := "min", desc := "(II)I" } : Jvm.MethodName) ∈ lwW := lw_in (List.mem_append_right _ (List.mem_of_getElem? (i := 700) (by decide +kernel))) rfl
theorem q_702 : Jvm.Cond.methodLink "LoanLayers$Way" (83 : Nat) ({ cls := "LoanLayers$World", name := "developed", desc := "(JIII)J" } : Jvm.MethodName) ∈ lwW := lw_in (List.mem_append_right _ (List.mem_of_getElem? (i := 702) (by decide +kernel))) rfl
theorem q_703 : Jvm.Cond.constantLong "LoanLayers$Way" (87 : Nat) (-1 : Int64) ∈ lwW := lw_in (List.mem_append_right _ (List.mem_of_getElem? (i := 703) (by decide +kernel))) rfl
theorem q_704 : Jvm.Cond.methodLink "LoanLayers$Way" (89 : Nat) ({ cls := "LoanLayers$Way", name := "branches", desc := "(LLoanLayers$World;IIIJ)Z" } : Jvm.MethodName) ∈ lwW := lw_in (List.mem_append_right _ (List.mem_of_getElem? (i := 704) (by decide +kernel))) rfl
theorem q_706 : Jvm.Cond.instanceMethod ({ cls := "LoanLayers$Way", name := "branches", desc := "(LLoanLayers$World;IIIJ)Z" } : Jvm.MethodName) ∈ lwW := lw_in (List.mem_append_right _ (List.mem_of_getElem? (i := 706) (by decide +kernel))) rfl
theorem q_707 : Jvm.Cond.code ({ cls := "LoanLayers$Way", name := "branches", desc := "(LLoanLayers$World;IIIJ)Z" } : Jvm.MethodName) prog_8_method_6_code (9 : Nat) (Option.some Jvm.ClassFile.FieldType.boolean) ∈ lwW := lw_in (List.mem_append_right _ (List.mem_of_getElem? (i := 707) (by decide +kernel))) rfl
theorem q_709 : Jvm.Cond.methodLink "LoanLayers$Way" (106 : Nat) ({ cls := "LoanLayers$World", name := "isMeeting", desc := "(II)Z" } : Jvm.MethodName) ∈ lwW := lw_in (List.mem_append_right _ (List.mem_of_getElem? (i := 709) (by decide +kernel))) rfl
theorem q_710 : Jvm.Cond.instanceMethod ({ cls := "LoanLayers$World", name := "isMeeting", desc := "(II)Z" } : Jvm.MethodName) ∈ lwW := lw_in (List.mem_append_right _ (List.mem_of_getElem? (i := 710) (by decide +kernel))) rfl
theorem q_711 : Jvm.Cond.selects "LoanLayers$World" ({ cls := "LoanLayers$World", name := "isMeeting", desc := "(II)Z" } : Jvm.MethodName) ({ cls := "LoanLayers$World", name := "isMeeting", desc := "(II)Z" } : Jvm.MethodName) ∈ lwW := lw_in (List.mem_append_right _ (List.mem_of_getElem? (i := 711) (by decide +kernel))) rfl
theorem q_712 : Jvm.Cond.code ({ cls := "LoanLayers$World", name := "isMeeting", desc := "(II)Z" } : Jvm.MethodName) prog_10_method_13_code (3 : Nat) (Option.some Jvm.ClassFile.FieldType.boolean) ∈ lwW := lw_in (List.mem_append_right _ (List.mem_of_getElem? (i := 712) (by decide +kernel))) rfl
theorem q_713 : Jvm.Cond.methodLink "LoanLayers$World" (60 : Nat) ({ cls := "LoanLayers$World", name := "firstOf", desc := "(I)I" } : Jvm.MethodName) ∈ lwW := lw_in (List.mem_append_right _ (List.mem_of_getElem? (i := 713) (by decide +kernel))) rfl
theorem q_714 : Jvm.Cond.methodLink "LoanLayers$World" (64 : Nat) ({ cls := "LoanLayers$World", name := "lastOf", desc := "(I)I" } : Jvm.MethodName) ∈ lwW := lw_in (List.mem_append_right _ (List.mem_of_getElem? (i := 714) (by decide +kernel))) rfl
theorem q_715 : Jvm.Cond.methodLink "LoanLayers$Way" (92 : Nat) ({ cls := "LoanLayers$Way", name := "isBusy", desc := "(I)Z" } : Jvm.MethodName) ∈ lwW := lw_in (List.mem_append_right _ (List.mem_of_getElem? (i := 715) (by decide +kernel))) rfl
theorem q_717 : Jvm.Cond.instanceMethod ({ cls := "LoanLayers$Way", name := "isBusy", desc := "(I)Z" } : Jvm.MethodName) ∈ lwW := lw_in (List.mem_append_right _ (List.mem_of_getElem? (i := 717) (by decide +kernel))) rfl
theorem q_718 : Jvm.Cond.code ({ cls := "LoanLayers$Way", name := "isBusy", desc := "(I)Z" } : Jvm.MethodName) prog_8_method_8_code (2 : Nat) (Option.some Jvm.ClassFile.FieldType.boolean) ∈ lwW := lw_in (List.mem_append_right _ (List.mem_of_getElem? (i := 718) (by decide +kernel))) rfl
theorem q_719 : Jvm.Cond.methodLink "LoanLayers$Way" (95 : Nat) ({ cls := "LoanLayers$Way", name := "changed", desc := "(JII)J" } : Jvm.MethodName) ∈ lwW := lw_in (List.mem_append_right _ (List.mem_of_getElem? (i := 719) (by decide +kernel))) rfl
theorem q_721 : Jvm.Cond.instanceMethod ({ cls := "LoanLayers$Way", name := "changed", desc := "(JII)J" } : Jvm.MethodName) ∈ lwW := lw_in (List.mem_append_right _ (List.mem_of_getElem? (i := 721) (by decide +kernel))) rfl
theorem q_722 : Jvm.Cond.code ({ cls := "LoanLayers$Way", name := "changed", desc := "(JII)J" } : Jvm.MethodName) prog_8_method_9_code (6 : Nat) (Option.some Jvm.ClassFile.FieldType.long) ∈ lwW := lw_in (List.mem_append_right _ (List.mem_of_getElem? (i := 722) (by decide +kernel))) rfl
theorem q_723 : Jvm.Cond.methodLink "LoanLayers$Way" (110 : Nat) ({ cls := "LoanLayers$Law", name := "applied", desc := "(J)J" } : Jvm.MethodName) ∈ lwW := lw_in (List.mem_append_right _ (List.mem_of_getElem? (i := 723) (by decide +kernel))) rfl
theorem q_724 : Jvm.Cond.methodLink "LoanLayers$Way" (99 : Nat) ({ cls := "LoanLayers$Way", name := "ageTried", desc := "(II)V" } : Jvm.MethodName) ∈ lwW := lw_in (List.mem_append_right _ (List.mem_of_getElem? (i := 724) (by decide +kernel))) rfl
theorem q_726 : Jvm.Cond.instanceMethod ({ cls := "LoanLayers$Way", name := "ageTried", desc := "(II)V" } : Jvm.MethodName) ∈ lwW := lw_in (List.mem_append_right _ (List.mem_of_getElem? (i := 726) (by decide +kernel))) rfl
theorem q_727 : Jvm.Cond.code ({ cls := "LoanLayers$Way", name := "ageTried", desc := "(II)V" } : Jvm.MethodName) prog_8_method_7_code (5 : Nat) (Option.none : Option Jvm.ClassFile.FieldType) ∈ lwW := lw_in (List.mem_append_right _ (List.mem_of_getElem? (i := 727) (by decide +kernel))) rfl
theorem q_728 : Jvm.Cond.methodLink "LoanLayers" (257 : Nat) ({ cls := "LoanLayers$Way", name := "stepAt", desc := "(I)I" } : Jvm.MethodName) ∈ lwW := lw_in (List.mem_append_right _ (List.mem_of_getElem? (i := 728) (by decide +kernel))) rfl
theorem q_729 : Jvm.Cond.instanceMethod ({ cls := "LoanLayers$Way", name := "stepAt", desc := "(I)I" } : Jvm.MethodName) ∈ lwW := lw_in (List.mem_append_right _ (List.mem_of_getElem? (i := 729) (by decide +kernel))) rfl
theorem q_730 : Jvm.Cond.selects "LoanLayers$Way" ({ cls := "LoanLayers$Way", name := "stepAt", desc := "(I)I" } : Jvm.MethodName) ({ cls := "LoanLayers$Way", name := "stepAt", desc := "(I)I" } : Jvm.MethodName) ∈ lwW := lw_in (List.mem_append_right _ (List.mem_of_getElem? (i := 730) (by decide +kernel))) rfl
theorem q_731 : Jvm.Cond.code ({ cls := "LoanLayers$Way", name := "stepAt", desc := "(I)I" } : Jvm.MethodName) prog_8_method_3_code (2 : Nat) (Option.some Jvm.ClassFile.FieldType.int) ∈ lwW := lw_in (List.mem_append_right _ (List.mem_of_getElem? (i := 731) (by decide +kernel))) rfl
theorem q_732 : Jvm.Cond.methodLink "LoanLayersLaw" (112 : Nat) ({ cls := "LoanLayers", name := "count", desc := "(I)I" } : Jvm.MethodName) ∈ lwW := lw_in (List.mem_append_right _ (List.mem_of_getElem? (i := 732) (by decide +kernel))) rfl
theorem q_733 : Jvm.Cond.instanceMethod ({ cls := "LoanLayers", name := "count", desc := "(I)I" } : Jvm.MethodName) ∈ lwW := lw_in (List.mem_append_right _ (List.mem_of_getElem? (i := 733) (by decide +kernel))) rfl
theorem q_734 : Jvm.Cond.selects "LoanLayers" ({ cls := "LoanLayers", name := "count", desc := "(I)I" } : Jvm.MethodName) ({ cls := "LoanLayers", name := "count", desc := "(I)I" } : Jvm.MethodName) ∈ lwW := lw_in (List.mem_append_right _ (List.mem_of_getElem? (i := 734) (by decide +kernel))) rfl
theorem q_735 : Jvm.Cond.code ({ cls := "LoanLayers", name := "count", desc := "(I)I" } : Jvm.MethodName) prog_1_method_26_code (2 : Nat) (Option.some Jvm.ClassFile.FieldType.int) ∈ lwW := lw_in (List.mem_append_right _ (List.mem_of_getElem? (i := 735) (by decide +kernel))) rfl
theorem q_736 : Jvm.Cond.methodLink "LoanLayers" (260 : Nat) ({ cls := "LoanLayers", name := "loansOfKind", desc := "(I)I" } : Jvm.MethodName) ∈ lwW := lw_in (List.mem_append_right _ (List.mem_of_getElem? (i := 736) (by decide +kernel))) rfl
theorem q_738 : Jvm.Cond.instanceMethod ({ cls := "LoanLayers", name := "loansOfKind", desc := "(I)I" } : Jvm.MethodName) ∈ lwW := lw_in (List.mem_append_right _ (List.mem_of_getElem? (i := 738) (by decide +kernel))) rfl
theorem q_739 : Jvm.Cond.code ({ cls := "LoanLayers", name := "loansOfKind", desc := "(I)I" } : Jvm.MethodName) prog_1_method_27_code (5 : Nat) (Option.some Jvm.ClassFile.FieldType.int) ∈ lwW := lw_in (List.mem_append_right _ (List.mem_of_getElem? (i := 739) (by decide +kernel))) rfl
theorem q_740 : Jvm.Cond.methodLink "LoanLayers" (263 : Nat) ({ cls := "LoanLayers$Layers", name := "greatest", desc := "()I" } : Jvm.MethodName) ∈ lwW := lw_in (List.mem_append_right _ (List.mem_of_getElem? (i := 740) (by decide +kernel))) rfl
theorem q_741 : Jvm.Cond.instanceMethod ({ cls := "LoanLayers$Layers", name := "greatest", desc := "()I" } : Jvm.MethodName) ∈ lwW := lw_in (List.mem_append_right _ (List.mem_of_getElem? (i := 741) (by decide +kernel))) rfl
theorem q_742 : Jvm.Cond.selects "LoanLayers$Layers" ({ cls := "LoanLayers$Layers", name := "greatest", desc := "()I" } : Jvm.MethodName) ({ cls := "LoanLayers$Layers", name := "greatest", desc := "()I" } : Jvm.MethodName) ∈ lwW := lw_in (List.mem_append_right _ (List.mem_of_getElem? (i := 742) (by decide +kernel))) rfl
theorem q_743 : Jvm.Cond.code ({ cls := "LoanLayers$Layers", name := "greatest", desc := "()I" } : Jvm.MethodName) prog_4_method_8_code (6 : Nat) (Option.some Jvm.ClassFile.FieldType.int) ∈ lwW := lw_in (List.mem_append_right _ (List.mem_of_getElem? (i := 743) (by decide +kernel))) rfl
theorem q_744 : Jvm.Cond.methodLink "LoanLayers" (266 : Nat) ({ cls := "LoanLayers$World", name := "lawsOf", desc := "(I)I" } : Jvm.MethodName) ∈ lwW := lw_in (List.mem_append_right _ (List.mem_of_getElem? (i := 744) (by decide +kernel))) rfl
theorem q_745 : Jvm.Cond.instanceMethod ({ cls := "LoanLayers$World", name := "lawsOf", desc := "(I)I" } : Jvm.MethodName) ∈ lwW := lw_in (List.mem_append_right _ (List.mem_of_getElem? (i := 745) (by decide +kernel))) rfl
theorem q_746 : Jvm.Cond.selects "LoanLayers$World" ({ cls := "LoanLayers$World", name := "lawsOf", desc := "(I)I" } : Jvm.MethodName) ({ cls := "LoanLayers$World", name := "lawsOf", desc := "(I)I" } : Jvm.MethodName) ∈ lwW := lw_in (List.mem_append_right _ (List.mem_of_getElem? (i := 746) (by decide +kernel))) rfl
theorem q_747 : Jvm.Cond.code ({ cls := "LoanLayers$World", name := "lawsOf", desc := "(I)I" } : Jvm.MethodName) prog_10_method_6_code (7 : Nat) (Option.some Jvm.ClassFile.FieldType.int) ∈ lwW := lw_in (List.mem_append_right _ (List.mem_of_getElem? (i := 747) (by decide +kernel))) rfl
theorem q_748 : Jvm.Cond.classLink "LoanLayersLaw" (10 : Nat) "LoanLayersModel" ∈ lwW := lw_in (List.mem_append_right _ (List.mem_of_getElem? (i := 748) (by decide +kernel))) rfl
theorem q_749 : Jvm.Cond.instantiable "LoanLayersModel" (23 : Nat) ∈ lwW := lw_in (List.mem_append_right _ (List.mem_of_getElem? (i := 749) (by decide +kernel))) rfl
theorem q_750 : Jvm.Cond.methodLink "LoanLayersLaw" (12 : Nat) ({ cls := "LoanLayersModel", name := "<init>", desc := "()V" } : Jvm.MethodName) ∈ lwW := lw_in (List.mem_append_right _ (List.mem_of_getElem? (i := 750) (by decide +kernel))) rfl
theorem q_751 : Jvm.Cond.instanceMethod ({ cls := "LoanLayersModel", name := "<init>", desc := "()V" } : Jvm.MethodName) ∈ lwW := lw_in (List.mem_append_right _ (List.mem_of_getElem? (i := 751) (by decide +kernel))) rfl
theorem q_752 : Jvm.Cond.code ({ cls := "LoanLayersModel", name := "<init>", desc := "()V" } : Jvm.MethodName) prog_12_method_1_code (1 : Nat) (Option.none : Option Jvm.ClassFile.FieldType) ∈ lwW := lw_in (List.mem_append_right _ (List.mem_of_getElem? (i := 752) (by decide +kernel))) rfl
theorem q_753 : Jvm.Cond.methodLink "LoanLayersModel" (1 : Nat) ({ cls := "java/lang/Object", name := "<init>", desc := "()V" } : Jvm.MethodName) ∈ lwW := lw_in (List.mem_append_right _ (List.mem_of_getElem? (i := 753) (by decide +kernel))) rfl
theorem q_754 : Jvm.Cond.fieldLink "LoanLayersModel" (7 : Nat) "LoanLayersModel" "row" "[I" ∈ lwW := lw_in (List.mem_append_right _ (List.mem_of_getElem? (i := 754) (by decide +kernel))) rfl
theorem q_755 : Jvm.Cond.fieldLink "LoanLayersModel" (166 : Nat) "LoanLayersModel" "undos" "I" ∈ lwW := lw_in (List.mem_append_right _ (List.mem_of_getElem? (i := 755) (by decide +kernel))) rfl
theorem q_756 : Jvm.Cond.fieldLink "LoanLayersModel" (13 : Nat) "LoanLayersModel" "isKept" "[Z" ∈ lwW := lw_in (List.mem_append_right _ (List.mem_of_getElem? (i := 756) (by decide +kernel))) rfl
theorem q_757 : Jvm.Cond.fieldLink "LoanLayersModel" (17 : Nat) "LoanLayersModel" "text" "[I" ∈ lwW := lw_in (List.mem_append_right _ (List.mem_of_getElem? (i := 757) (by decide +kernel))) rfl
theorem q_758 : Jvm.Cond.fieldLink "LoanLayersModel" (68 : Nat) "LoanLayersModel" "length" "I" ∈ lwW := lw_in (List.mem_append_right _ (List.mem_of_getElem? (i := 758) (by decide +kernel))) rfl
theorem q_759 : Jvm.Cond.fieldLink "LoanLayersModel" (83 : Nat) "LoanLayersModel" "first" "I" ∈ lwW := lw_in (List.mem_append_right _ (List.mem_of_getElem? (i := 759) (by decide +kernel))) rfl
theorem q_760 : Jvm.Cond.fieldLink "LoanLayersModel" (80 : Nat) "LoanLayersModel" "behind" "I" ∈ lwW := lw_in (List.mem_append_right _ (List.mem_of_getElem? (i := 760) (by decide +kernel))) rfl
theorem q_761 : Jvm.Cond.fieldLink "LoanLayersModel" (20 : Nat) "LoanLayersModel" "toldLaws" "[Z" ∈ lwW := lw_in (List.mem_append_right _ (List.mem_of_getElem? (i := 761) (by decide +kernel))) rfl
theorem q_762 : Jvm.Cond.fieldLink "LoanLayersModel" (117 : Nat) "LoanLayersModel" "toldMany" "I" ∈ lwW := lw_in (List.mem_append_right _ (List.mem_of_getElem? (i := 762) (by decide +kernel))) rfl
theorem q_763 : Jvm.Cond.fieldLink "LoanLayersModel" (135 : Nat) "LoanLayersModel" "toldLoans" "I" ∈ lwW := lw_in (List.mem_append_right _ (List.mem_of_getElem? (i := 763) (by decide +kernel))) rfl
theorem q_764 : Jvm.Cond.fieldLink "LoanLayersModel" (153 : Nat) "LoanLayersModel" "clauses" "I" ∈ lwW := lw_in (List.mem_append_right _ (List.mem_of_getElem? (i := 764) (by decide +kernel))) rfl
theorem q_765 : Jvm.Cond.fieldLink "LoanLayersModel" (120 : Nat) "LoanLayersModel" "doing" "Z" ∈ lwW := lw_in (List.mem_append_right _ (List.mem_of_getElem? (i := 765) (by decide +kernel))) rfl
theorem q_766 : Jvm.Cond.fieldLink "LoanLayersModel" (23 : Nat) "LoanLayersModel" "numbers" "[I" ∈ lwW := lw_in (List.mem_append_right _ (List.mem_of_getElem? (i := 766) (by decide +kernel))) rfl
theorem q_767 : Jvm.Cond.fieldLink "LoanLayersModel" (26 : Nat) "LoanLayersModel" "words" "[I" ∈ lwW := lw_in (List.mem_append_right _ (List.mem_of_getElem? (i := 767) (by decide +kernel))) rfl
theorem q_768 : Jvm.Cond.fieldLink "LoanLayersModel" (29 : Nat) "LoanLayersModel" "form" "[I" ∈ lwW := lw_in (List.mem_append_right _ (List.mem_of_getElem? (i := 768) (by decide +kernel))) rfl
theorem q_769 : Jvm.Cond.fieldLink "LoanLayersModel" (169 : Nat) "LoanLayersModel" "many" "I" ∈ lwW := lw_in (List.mem_append_right _ (List.mem_of_getElem? (i := 769) (by decide +kernel))) rfl
theorem q_770 : Jvm.Cond.fieldLink "LoanLayersModel" (32 : Nat) "LoanLayersModel" "before" "[I" ∈ lwW := lw_in (List.mem_append_right _ (List.mem_of_getElem? (i := 770) (by decide +kernel))) rfl
theorem q_771 : Jvm.Cond.fieldLink "LoanLayersModel" (35 : Nat) "LoanLayersModel" "firsts" "[I" ∈ lwW := lw_in (List.mem_append_right _ (List.mem_of_getElem? (i := 771) (by decide +kernel))) rfl
theorem q_772 : Jvm.Cond.fieldLink "LoanLayersModel" (38 : Nat) "LoanLayersModel" "lasts" "[I" ∈ lwW := lw_in (List.mem_append_right _ (List.mem_of_getElem? (i := 772) (by decide +kernel))) rfl
theorem q_773 : Jvm.Cond.fieldLink "LoanLayersModel" (41 : Nat) "LoanLayersModel" "layers" "[I" ∈ lwW := lw_in (List.mem_append_right _ (List.mem_of_getElem? (i := 773) (by decide +kernel))) rfl
theorem q_774 : Jvm.Cond.fieldLink "LoanLayersModel" (44 : Nat) "LoanLayersModel" "steps" "[I" ∈ lwW := lw_in (List.mem_append_right _ (List.mem_of_getElem? (i := 774) (by decide +kernel))) rfl
theorem q_775 : Jvm.Cond.fieldLink "LoanLayersModel" (47 : Nat) "LoanLayersModel" "dates" "[I" ∈ lwW := lw_in (List.mem_append_right _ (List.mem_of_getElem? (i := 775) (by decide +kernel))) rfl
theorem q_776 : Jvm.Cond.fieldLink "LoanLayersModel" (261 : Nat) "LoanLayersModel" "datesMany" "I" ∈ lwW := lw_in (List.mem_append_right _ (List.mem_of_getElem? (i := 776) (by decide +kernel))) rfl
theorem q_777 : Jvm.Cond.laysFinal "LoanLayersModel" "LoanLayersModel" "row" "[I" ∈ lwW := lw_in (List.mem_append_right _ (List.mem_of_getElem? (i := 777) (by decide +kernel))) rfl
theorem q_779 : Jvm.Cond.lays "LoanLayersModel" "LoanLayersModel" "undos" "I" ∈ lwW := lw_in (List.mem_append_right _ (List.mem_of_getElem? (i := 779) (by decide +kernel))) rfl
theorem q_781 : Jvm.Cond.laysFinal "LoanLayersModel" "LoanLayersModel" "isKept" "[Z" ∈ lwW := lw_in (List.mem_append_right _ (List.mem_of_getElem? (i := 781) (by decide +kernel))) rfl
theorem q_783 : Jvm.Cond.laysFinal "LoanLayersModel" "LoanLayersModel" "text" "[I" ∈ lwW := lw_in (List.mem_append_right _ (List.mem_of_getElem? (i := 783) (by decide +kernel))) rfl
theorem q_785 : Jvm.Cond.lays "LoanLayersModel" "LoanLayersModel" "length" "I" ∈ lwW := lw_in (List.mem_append_right _ (List.mem_of_getElem? (i := 785) (by decide +kernel))) rfl
theorem q_787 : Jvm.Cond.lays "LoanLayersModel" "LoanLayersModel" "first" "I" ∈ lwW := lw_in (List.mem_append_right _ (List.mem_of_getElem? (i := 787) (by decide +kernel))) rfl
theorem q_789 : Jvm.Cond.lays "LoanLayersModel" "LoanLayersModel" "behind" "I" ∈ lwW := lw_in (List.mem_append_right _ (List.mem_of_getElem? (i := 789) (by decide +kernel))) rfl
theorem q_791 : Jvm.Cond.laysFinal "LoanLayersModel" "LoanLayersModel" "toldLaws" "[Z" ∈ lwW := lw_in (List.mem_append_right _ (List.mem_of_getElem? (i := 791) (by decide +kernel))) rfl
theorem q_793 : Jvm.Cond.lays "LoanLayersModel" "LoanLayersModel" "toldMany" "I" ∈ lwW := lw_in (List.mem_append_right _ (List.mem_of_getElem? (i := 793) (by decide +kernel))) rfl
theorem q_795 : Jvm.Cond.lays "LoanLayersModel" "LoanLayersModel" "toldLoans" "I" ∈ lwW := lw_in (List.mem_append_right _ (List.mem_of_getElem? (i := 795) (by decide +kernel))) rfl
theorem q_797 : Jvm.Cond.lays "LoanLayersModel" "LoanLayersModel" "clauses" "I" ∈ lwW := lw_in (List.mem_append_right _ (List.mem_of_getElem? (i := 797) (by decide +kernel))) rfl
theorem q_799 : Jvm.Cond.lays "LoanLayersModel" "LoanLayersModel" "doing" "Z" ∈ lwW := lw_in (List.mem_append_right _ (List.mem_of_getElem? (i := 799) (by decide +kernel))) rfl
theorem q_801 : Jvm.Cond.laysFinal "LoanLayersModel" "LoanLayersModel" "numbers" "[I" ∈ lwW := lw_in (List.mem_append_right _ (List.mem_of_getElem? (i := 801) (by decide +kernel))) rfl
theorem q_803 : Jvm.Cond.laysFinal "LoanLayersModel" "LoanLayersModel" "words" "[I" ∈ lwW := lw_in (List.mem_append_right _ (List.mem_of_getElem? (i := 803) (by decide +kernel))) rfl
theorem q_805 : Jvm.Cond.laysFinal "LoanLayersModel" "LoanLayersModel" "form" "[I" ∈ lwW := lw_in (List.mem_append_right _ (List.mem_of_getElem? (i := 805) (by decide +kernel))) rfl
theorem q_807 : Jvm.Cond.lays "LoanLayersModel" "LoanLayersModel" "many" "I" ∈ lwW := lw_in (List.mem_append_right _ (List.mem_of_getElem? (i := 807) (by decide +kernel))) rfl
theorem q_809 : Jvm.Cond.laysFinal "LoanLayersModel" "LoanLayersModel" "before" "[I" ∈ lwW := lw_in (List.mem_append_right _ (List.mem_of_getElem? (i := 809) (by decide +kernel))) rfl
theorem q_811 : Jvm.Cond.laysFinal "LoanLayersModel" "LoanLayersModel" "firsts" "[I" ∈ lwW := lw_in (List.mem_append_right _ (List.mem_of_getElem? (i := 811) (by decide +kernel))) rfl
theorem q_813 : Jvm.Cond.laysFinal "LoanLayersModel" "LoanLayersModel" "lasts" "[I" ∈ lwW := lw_in (List.mem_append_right _ (List.mem_of_getElem? (i := 813) (by decide +kernel))) rfl
theorem q_815 : Jvm.Cond.laysFinal "LoanLayersModel" "LoanLayersModel" "layers" "[I" ∈ lwW := lw_in (List.mem_append_right _ (List.mem_of_getElem? (i := 815) (by decide +kernel))) rfl
theorem q_817 : Jvm.Cond.laysFinal "LoanLayersModel" "LoanLayersModel" "steps" "[I" ∈ lwW := lw_in (List.mem_append_right _ (List.mem_of_getElem? (i := 817) (by decide +kernel))) rfl
theorem q_819 : Jvm.Cond.laysFinal "LoanLayersModel" "LoanLayersModel" "dates" "[I" ∈ lwW := lw_in (List.mem_append_right _ (List.mem_of_getElem? (i := 819) (by decide +kernel))) rfl
theorem q_821 : Jvm.Cond.lays "LoanLayersModel" "LoanLayersModel" "datesMany" "I" ∈ lwW := lw_in (List.mem_append_right _ (List.mem_of_getElem? (i := 821) (by decide +kernel))) rfl
theorem q_824 : Jvm.Cond.methodLink "LoanLayersLaw" (17 : Nat) ({ cls := "LoanLayersModel", name := "type", desc := "(I)I" } : Jvm.MethodName) ∈ lwW := lw_in (List.mem_append_right _ (List.mem_of_getElem? (i := 824) (by decide +kernel))) rfl
theorem q_825 : Jvm.Cond.instanceMethod ({ cls := "LoanLayersModel", name := "type", desc := "(I)I" } : Jvm.MethodName) ∈ lwW := lw_in (List.mem_append_right _ (List.mem_of_getElem? (i := 825) (by decide +kernel))) rfl
theorem q_826 : Jvm.Cond.selects "LoanLayersModel" ({ cls := "LoanLayersModel", name := "type", desc := "(I)I" } : Jvm.MethodName) ({ cls := "LoanLayersModel", name := "type", desc := "(I)I" } : Jvm.MethodName) ∈ lwW := lw_in (List.mem_append_right _ (List.mem_of_getElem? (i := 826) (by decide +kernel))) rfl
theorem q_827 : Jvm.Cond.code ({ cls := "LoanLayersModel", name := "type", desc := "(I)I" } : Jvm.MethodName) prog_12_method_13_code (2 : Nat) (Option.some Jvm.ClassFile.FieldType.int) ∈ lwW := lw_in (List.mem_append_right _ (List.mem_of_getElem? (i := 827) (by decide +kernel))) rfl
theorem q_828 : Jvm.Cond.constantLong "LoanLayersModel" (66 : Nat) (255 : Int64) ∈ lwW := lw_in (List.mem_append_right _ (List.mem_of_getElem? (i := 828) (by decide +kernel))) rfl
theorem q_829 : Jvm.Cond.methodLink "LoanLayersModel" (52 : Nat) ({ cls := "LoanLayersModel", name := "in", desc := "(JJJ)Z" } : Jvm.MethodName) ∈ lwW := lw_in (List.mem_append_right _ (List.mem_of_getElem? (i := 829) (by decide +kernel))) rfl
theorem q_830 : Jvm.Cond.static ({ cls := "LoanLayersModel", name := "in", desc := "(JJJ)Z" } : Jvm.MethodName) ∈ lwW := lw_in (List.mem_append_right _ (List.mem_of_getElem? (i := 830) (by decide +kernel))) rfl
theorem q_831 : Jvm.Cond.code ({ cls := "LoanLayersModel", name := "in", desc := "(JJJ)Z" } : Jvm.MethodName) prog_12_method_2_code (6 : Nat) (Option.some Jvm.ClassFile.FieldType.boolean) ∈ lwW := lw_in (List.mem_append_right _ (List.mem_of_getElem? (i := 831) (by decide +kernel))) rfl
theorem q_832 : Jvm.Cond.methodLink "LoanLayersLaw" (22 : Nat) ({ cls := "LoanLayersModel", name := "erase", desc := "()I" } : Jvm.MethodName) ∈ lwW := lw_in (List.mem_append_right _ (List.mem_of_getElem? (i := 832) (by decide +kernel))) rfl
theorem q_833 : Jvm.Cond.instanceMethod ({ cls := "LoanLayersModel", name := "erase", desc := "()I" } : Jvm.MethodName) ∈ lwW := lw_in (List.mem_append_right _ (List.mem_of_getElem? (i := 833) (by decide +kernel))) rfl
theorem q_834 : Jvm.Cond.selects "LoanLayersModel" ({ cls := "LoanLayersModel", name := "erase", desc := "()I" } : Jvm.MethodName) ({ cls := "LoanLayersModel", name := "erase", desc := "()I" } : Jvm.MethodName) ∈ lwW := lw_in (List.mem_append_right _ (List.mem_of_getElem? (i := 834) (by decide +kernel))) rfl
theorem q_835 : Jvm.Cond.code ({ cls := "LoanLayersModel", name := "erase", desc := "()I" } : Jvm.MethodName) prog_12_method_14_code (2 : Nat) (Option.some Jvm.ClassFile.FieldType.int) ∈ lwW := lw_in (List.mem_append_right _ (List.mem_of_getElem? (i := 835) (by decide +kernel))) rfl
theorem q_836 : Jvm.Cond.methodLink "LoanLayersLaw" (26 : Nat) ({ cls := "LoanLayersModel", name := "fault", desc := "()I" } : Jvm.MethodName) ∈ lwW := lw_in (List.mem_append_right _ (List.mem_of_getElem? (i := 836) (by decide +kernel))) rfl
theorem q_837 : Jvm.Cond.instanceMethod ({ cls := "LoanLayersModel", name := "fault", desc := "()I" } : Jvm.MethodName) ∈ lwW := lw_in (List.mem_append_right _ (List.mem_of_getElem? (i := 837) (by decide +kernel))) rfl
theorem q_838 : Jvm.Cond.selects "LoanLayersModel" ({ cls := "LoanLayersModel", name := "fault", desc := "()I" } : Jvm.MethodName) ({ cls := "LoanLayersModel", name := "fault", desc := "()I" } : Jvm.MethodName) ∈ lwW := lw_in (List.mem_append_right _ (List.mem_of_getElem? (i := 838) (by decide +kernel))) rfl
theorem q_839 : Jvm.Cond.code ({ cls := "LoanLayersModel", name := "fault", desc := "()I" } : Jvm.MethodName) prog_12_method_32_code (1 : Nat) (Option.some Jvm.ClassFile.FieldType.int) ∈ lwW := lw_in (List.mem_append_right _ (List.mem_of_getElem? (i := 839) (by decide +kernel))) rfl
theorem q_840 : Jvm.Cond.methodLink "LoanLayersModel" (162 : Nat) ({ cls := "LoanLayersModel", name := "reads", desc := "(Z)Z" } : Jvm.MethodName) ∈ lwW := lw_in (List.mem_append_right _ (List.mem_of_getElem? (i := 840) (by decide +kernel))) rfl
theorem q_842 : Jvm.Cond.instanceMethod ({ cls := "LoanLayersModel", name := "reads", desc := "(Z)Z" } : Jvm.MethodName) ∈ lwW := lw_in (List.mem_append_right _ (List.mem_of_getElem? (i := 842) (by decide +kernel))) rfl
theorem q_843 : Jvm.Cond.code ({ cls := "LoanLayersModel", name := "reads", desc := "(Z)Z" } : Jvm.MethodName) prog_12_method_31_code (3 : Nat) (Option.some Jvm.ClassFile.FieldType.boolean) ∈ lwW := lw_in (List.mem_append_right _ (List.mem_of_getElem? (i := 843) (by decide +kernel))) rfl
theorem q_844 : Jvm.Cond.methodLink "LoanLayersModel" (141 : Nat) ({ cls := "LoanLayersModel", name := "readsAll", desc := "()Z" } : Jvm.MethodName) ∈ lwW := lw_in (List.mem_append_right _ (List.mem_of_getElem? (i := 844) (by decide +kernel))) rfl
theorem q_846 : Jvm.Cond.instanceMethod ({ cls := "LoanLayersModel", name := "readsAll", desc := "()Z" } : Jvm.MethodName) ∈ lwW := lw_in (List.mem_append_right _ (List.mem_of_getElem? (i := 846) (by decide +kernel))) rfl
theorem q_847 : Jvm.Cond.code ({ cls := "LoanLayersModel", name := "readsAll", desc := "()Z" } : Jvm.MethodName) prog_12_method_29_code (2 : Nat) (Option.some Jvm.ClassFile.FieldType.boolean) ∈ lwW := lw_in (List.mem_append_right _ (List.mem_of_getElem? (i := 847) (by decide +kernel))) rfl
theorem q_848 : Jvm.Cond.methodLink "LoanLayersModel" (156 : Nat) ({ cls := "LoanLayersModel", name := "lawOf", desc := "(II)I" } : Jvm.MethodName) ∈ lwW := lw_in (List.mem_append_right _ (List.mem_of_getElem? (i := 848) (by decide +kernel))) rfl
theorem q_850 : Jvm.Cond.instanceMethod ({ cls := "LoanLayersModel", name := "lawOf", desc := "(II)I" } : Jvm.MethodName) ∈ lwW := lw_in (List.mem_append_right _ (List.mem_of_getElem? (i := 850) (by decide +kernel))) rfl
theorem q_851 : Jvm.Cond.code ({ cls := "LoanLayersModel", name := "lawOf", desc := "(II)I" } : Jvm.MethodName) prog_12_method_8_code (3 : Nat) (Option.some Jvm.ClassFile.FieldType.int) ∈ lwW := lw_in (List.mem_append_right _ (List.mem_of_getElem? (i := 851) (by decide +kernel))) rfl
theorem q_852 : Jvm.Cond.methodLink "LoanLayersModel" (96 : Nat) ({ cls := "LoanLayersModel", name := "nextToken", desc := "()V" } : Jvm.MethodName) ∈ lwW := lw_in (List.mem_append_right _ (List.mem_of_getElem? (i := 852) (by decide +kernel))) rfl
theorem q_854 : Jvm.Cond.instanceMethod ({ cls := "LoanLayersModel", name := "nextToken", desc := "()V" } : Jvm.MethodName) ∈ lwW := lw_in (List.mem_append_right _ (List.mem_of_getElem? (i := 854) (by decide +kernel))) rfl
theorem q_855 : Jvm.Cond.code ({ cls := "LoanLayersModel", name := "nextToken", desc := "()V" } : Jvm.MethodName) prog_12_method_17_code (1 : Nat) (Option.none : Option Jvm.ClassFile.FieldType) ∈ lwW := lw_in (List.mem_append_right _ (List.mem_of_getElem? (i := 855) (by decide +kernel))) rfl
theorem q_856 : Jvm.Cond.methodLink "LoanLayersModel" (86 : Nat) ({ cls := "LoanLayersModel", name := "isSmall", desc := "(I)Z" } : Jvm.MethodName) ∈ lwW := lw_in (List.mem_append_right _ (List.mem_of_getElem? (i := 856) (by decide +kernel))) rfl
theorem q_857 : Jvm.Cond.static ({ cls := "LoanLayersModel", name := "isSmall", desc := "(I)Z" } : Jvm.MethodName) ∈ lwW := lw_in (List.mem_append_right _ (List.mem_of_getElem? (i := 857) (by decide +kernel))) rfl
theorem q_858 : Jvm.Cond.code ({ cls := "LoanLayersModel", name := "isSmall", desc := "(I)Z" } : Jvm.MethodName) prog_12_method_15_code (1 : Nat) (Option.some Jvm.ClassFile.FieldType.boolean) ∈ lwW := lw_in (List.mem_append_right _ (List.mem_of_getElem? (i := 858) (by decide +kernel))) rfl
theorem q_859 : Jvm.Cond.constantLong "LoanLayersModel" (72 : Nat) (97 : Int64) ∈ lwW := lw_in (List.mem_append_right _ (List.mem_of_getElem? (i := 859) (by decide +kernel))) rfl
theorem q_860 : Jvm.Cond.constantLong "LoanLayersModel" (74 : Nat) (122 : Int64) ∈ lwW := lw_in (List.mem_append_right _ (List.mem_of_getElem? (i := 860) (by decide +kernel))) rfl
theorem q_861 : Jvm.Cond.methodLink "LoanLayersModel" (89 : Nat) ({ cls := "LoanLayersModel", name := "isDigit", desc := "(I)Z" } : Jvm.MethodName) ∈ lwW := lw_in (List.mem_append_right _ (List.mem_of_getElem? (i := 861) (by decide +kernel))) rfl
theorem q_862 : Jvm.Cond.static ({ cls := "LoanLayersModel", name := "isDigit", desc := "(I)Z" } : Jvm.MethodName) ∈ lwW := lw_in (List.mem_append_right _ (List.mem_of_getElem? (i := 862) (by decide +kernel))) rfl
theorem q_863 : Jvm.Cond.code ({ cls := "LoanLayersModel", name := "isDigit", desc := "(I)Z" } : Jvm.MethodName) prog_12_method_16_code (1 : Nat) (Option.some Jvm.ClassFile.FieldType.boolean) ∈ lwW := lw_in (List.mem_append_right _ (List.mem_of_getElem? (i := 863) (by decide +kernel))) rfl
theorem q_864 : Jvm.Cond.constantLong "LoanLayersModel" (76 : Nat) (48 : Int64) ∈ lwW := lw_in (List.mem_append_right _ (List.mem_of_getElem? (i := 864) (by decide +kernel))) rfl
theorem q_865 : Jvm.Cond.constantLong "LoanLayersModel" (78 : Nat) (57 : Int64) ∈ lwW := lw_in (List.mem_append_right _ (List.mem_of_getElem? (i := 865) (by decide +kernel))) rfl
theorem q_866 : Jvm.Cond.methodLink "LoanLayersModel" (159 : Nat) ({ cls := "LoanLayersModel", name := "readsClause", desc := "()Z" } : Jvm.MethodName) ∈ lwW := lw_in (List.mem_append_right _ (List.mem_of_getElem? (i := 866) (by decide +kernel))) rfl
theorem q_868 : Jvm.Cond.instanceMethod ({ cls := "LoanLayersModel", name := "readsClause", desc := "()Z" } : Jvm.MethodName) ∈ lwW := lw_in (List.mem_append_right _ (List.mem_of_getElem? (i := 868) (by decide +kernel))) rfl
theorem q_869 : Jvm.Cond.code ({ cls := "LoanLayersModel", name := "readsClause", desc := "()Z" } : Jvm.MethodName) prog_12_method_30_code (2 : Nat) (Option.some Jvm.ClassFile.FieldType.boolean) ∈ lwW := lw_in (List.mem_append_right _ (List.mem_of_getElem? (i := 869) (by decide +kernel))) rfl
theorem q_870 : Jvm.Cond.methodLink "LoanLayersModel" (138 : Nat) ({ cls := "LoanLayersModel", name := "wordHere", desc := "()I" } : Jvm.MethodName) ∈ lwW := lw_in (List.mem_append_right _ (List.mem_of_getElem? (i := 870) (by decide +kernel))) rfl
theorem q_872 : Jvm.Cond.instanceMethod ({ cls := "LoanLayersModel", name := "wordHere", desc := "()I" } : Jvm.MethodName) ∈ lwW := lw_in (List.mem_append_right _ (List.mem_of_getElem? (i := 872) (by decide +kernel))) rfl
theorem q_873 : Jvm.Cond.code ({ cls := "LoanLayersModel", name := "wordHere", desc := "()I" } : Jvm.MethodName) prog_12_method_18_code (4 : Nat) (Option.some Jvm.ClassFile.FieldType.int) ∈ lwW := lw_in (List.mem_append_right _ (List.mem_of_getElem? (i := 873) (by decide +kernel))) rfl
theorem q_874 : Jvm.Cond.methodLink "LoanLayersModel" (144 : Nat) ({ cls := "LoanLayersModel", name := "readsLaw", desc := "()Z" } : Jvm.MethodName) ∈ lwW := lw_in (List.mem_append_right _ (List.mem_of_getElem? (i := 874) (by decide +kernel))) rfl
theorem q_876 : Jvm.Cond.instanceMethod ({ cls := "LoanLayersModel", name := "readsLaw", desc := "()Z" } : Jvm.MethodName) ∈ lwW := lw_in (List.mem_append_right _ (List.mem_of_getElem? (i := 876) (by decide +kernel))) rfl
theorem q_877 : Jvm.Cond.code ({ cls := "LoanLayersModel", name := "readsLaw", desc := "()Z" } : Jvm.MethodName) prog_12_method_25_code (2 : Nat) (Option.some Jvm.ClassFile.FieldType.boolean) ∈ lwW := lw_in (List.mem_append_right _ (List.mem_of_getElem? (i := 877) (by decide +kernel))) rfl
theorem q_878 : Jvm.Cond.methodLink "LoanLayersModel" (106 : Nat) ({ cls := "LoanLayersModel", name := "number", desc := "(IIII)Z" } : Jvm.MethodName) ∈ lwW := lw_in (List.mem_append_right _ (List.mem_of_getElem? (i := 878) (by decide +kernel))) rfl
theorem q_880 : Jvm.Cond.instanceMethod ({ cls := "LoanLayersModel", name := "number", desc := "(IIII)Z" } : Jvm.MethodName) ∈ lwW := lw_in (List.mem_append_right _ (List.mem_of_getElem? (i := 880) (by decide +kernel))) rfl
theorem q_881 : Jvm.Cond.code ({ cls := "LoanLayersModel", name := "number", desc := "(IIII)Z" } : Jvm.MethodName) prog_12_method_20_code (6 : Nat) (Option.some Jvm.ClassFile.FieldType.boolean) ∈ lwW := lw_in (List.mem_append_right _ (List.mem_of_getElem? (i := 881) (by decide +kernel))) rfl
theorem q_882 : Jvm.Cond.methodLink "LoanLayersModel" (92 : Nat) ({ cls := "LoanLayersModel", name := "numberHere", desc := "()I" } : Jvm.MethodName) ∈ lwW := lw_in (List.mem_append_right _ (List.mem_of_getElem? (i := 882) (by decide +kernel))) rfl
theorem q_884 : Jvm.Cond.instanceMethod ({ cls := "LoanLayersModel", name := "numberHere", desc := "()I" } : Jvm.MethodName) ∈ lwW := lw_in (List.mem_append_right _ (List.mem_of_getElem? (i := 884) (by decide +kernel))) rfl
theorem q_885 : Jvm.Cond.code ({ cls := "LoanLayersModel", name := "numberHere", desc := "()I" } : Jvm.MethodName) prog_12_method_19_code (3 : Nat) (Option.some Jvm.ClassFile.FieldType.int) ∈ lwW := lw_in (List.mem_append_right _ (List.mem_of_getElem? (i := 885) (by decide +kernel))) rfl
theorem q_886 : Jvm.Cond.constantLong "LoanLayersModel" (60 : Nat) (99 : Int64) ∈ lwW := lw_in (List.mem_append_right _ (List.mem_of_getElem? (i := 886) (by decide +kernel))) rfl
theorem q_887 : Jvm.Cond.methodLink "LoanLayersModel" (102 : Nat) ({ cls := "LoanLayersModel", name := "readsSound", desc := "(II)Z" } : Jvm.MethodName) ∈ lwW := lw_in (List.mem_append_right _ (List.mem_of_getElem? (i := 887) (by decide +kernel))) rfl
theorem q_889 : Jvm.Cond.instanceMethod ({ cls := "LoanLayersModel", name := "readsSound", desc := "(II)Z" } : Jvm.MethodName) ∈ lwW := lw_in (List.mem_append_right _ (List.mem_of_getElem? (i := 889) (by decide +kernel))) rfl
theorem q_890 : Jvm.Cond.code ({ cls := "LoanLayersModel", name := "readsSound", desc := "(II)Z" } : Jvm.MethodName) prog_12_method_22_code (3 : Nat) (Option.some Jvm.ClassFile.FieldType.boolean) ∈ lwW := lw_in (List.mem_append_right _ (List.mem_of_getElem? (i := 890) (by decide +kernel))) rfl
theorem q_891 : Jvm.Cond.methodLink "LoanLayersModel" (110 : Nat) ({ cls := "LoanLayersModel", name := "lostOrSound", desc := "(II)Z" } : Jvm.MethodName) ∈ lwW := lw_in (List.mem_append_right _ (List.mem_of_getElem? (i := 891) (by decide +kernel))) rfl
theorem q_893 : Jvm.Cond.instanceMethod ({ cls := "LoanLayersModel", name := "lostOrSound", desc := "(II)Z" } : Jvm.MethodName) ∈ lwW := lw_in (List.mem_append_right _ (List.mem_of_getElem? (i := 893) (by decide +kernel))) rfl
theorem q_894 : Jvm.Cond.code ({ cls := "LoanLayersModel", name := "lostOrSound", desc := "(II)Z" } : Jvm.MethodName) prog_12_method_23_code (3 : Nat) (Option.some Jvm.ClassFile.FieldType.boolean) ∈ lwW := lw_in (List.mem_append_right _ (List.mem_of_getElem? (i := 894) (by decide +kernel))) rfl
theorem q_895 : Jvm.Cond.methodLink "LoanLayersModel" (99 : Nat) ({ cls := "LoanLayersModel", name := "isSign", desc := "(I)Z" } : Jvm.MethodName) ∈ lwW := lw_in (List.mem_append_right _ (List.mem_of_getElem? (i := 895) (by decide +kernel))) rfl
theorem q_897 : Jvm.Cond.instanceMethod ({ cls := "LoanLayersModel", name := "isSign", desc := "(I)Z" } : Jvm.MethodName) ∈ lwW := lw_in (List.mem_append_right _ (List.mem_of_getElem? (i := 897) (by decide +kernel))) rfl
theorem q_898 : Jvm.Cond.code ({ cls := "LoanLayersModel", name := "isSign", desc := "(I)Z" } : Jvm.MethodName) prog_12_method_21_code (2 : Nat) (Option.some Jvm.ClassFile.FieldType.boolean) ∈ lwW := lw_in (List.mem_append_right _ (List.mem_of_getElem? (i := 898) (by decide +kernel))) rfl
theorem q_899 : Jvm.Cond.methodLink "LoanLayersModel" (113 : Nat) ({ cls := "LoanLayersModel", name := "where", desc := "()Z" } : Jvm.MethodName) ∈ lwW := lw_in (List.mem_append_right _ (List.mem_of_getElem? (i := 899) (by decide +kernel))) rfl
theorem q_901 : Jvm.Cond.instanceMethod ({ cls := "LoanLayersModel", name := "where", desc := "()Z" } : Jvm.MethodName) ∈ lwW := lw_in (List.mem_append_right _ (List.mem_of_getElem? (i := 901) (by decide +kernel))) rfl
theorem q_902 : Jvm.Cond.code ({ cls := "LoanLayersModel", name := "where", desc := "()Z" } : Jvm.MethodName) prog_12_method_24_code (1 : Nat) (Option.some Jvm.ClassFile.FieldType.boolean) ∈ lwW := lw_in (List.mem_append_right _ (List.mem_of_getElem? (i := 902) (by decide +kernel))) rfl
theorem q_903 : Jvm.Cond.methodLink "LoanLayersModel" (124 : Nat) ({ cls := "LoanLayersModel", name := "puts", desc := "(IIIIII)I" } : Jvm.MethodName) ∈ lwW := lw_in (List.mem_append_right _ (List.mem_of_getElem? (i := 903) (by decide +kernel))) rfl
theorem q_905 : Jvm.Cond.instanceMethod ({ cls := "LoanLayersModel", name := "puts", desc := "(IIIIII)I" } : Jvm.MethodName) ∈ lwW := lw_in (List.mem_append_right _ (List.mem_of_getElem? (i := 905) (by decide +kernel))) rfl
theorem q_906 : Jvm.Cond.code ({ cls := "LoanLayersModel", name := "puts", desc := "(IIIIII)I" } : Jvm.MethodName) prog_12_method_51_code (9 : Nat) (Option.some Jvm.ClassFile.FieldType.int) ∈ lwW := lw_in (List.mem_append_right _ (List.mem_of_getElem? (i := 906) (by decide +kernel))) rfl
theorem q_907 : Jvm.Cond.methodLink "LoanLayersModel" (147 : Nat) ({ cls := "LoanLayersModel", name := "readsMeet", desc := "()Z" } : Jvm.MethodName) ∈ lwW := lw_in (List.mem_append_right _ (List.mem_of_getElem? (i := 907) (by decide +kernel))) rfl
theorem q_909 : Jvm.Cond.instanceMethod ({ cls := "LoanLayersModel", name := "readsMeet", desc := "()Z" } : Jvm.MethodName) ∈ lwW := lw_in (List.mem_append_right _ (List.mem_of_getElem? (i := 909) (by decide +kernel))) rfl
theorem q_910 : Jvm.Cond.code ({ cls := "LoanLayersModel", name := "readsMeet", desc := "()Z" } : Jvm.MethodName) prog_12_method_26_code (1 : Nat) (Option.some Jvm.ClassFile.FieldType.boolean) ∈ lwW := lw_in (List.mem_append_right _ (List.mem_of_getElem? (i := 910) (by decide +kernel))) rfl
theorem q_911 : Jvm.Cond.methodLink "LoanLayersModel" (62 : Nat) ({ cls := "LoanLayersModel", name := "meetAt", desc := "(II)I" } : Jvm.MethodName) ∈ lwW := lw_in (List.mem_append_right _ (List.mem_of_getElem? (i := 911) (by decide +kernel))) rfl
theorem q_912 : Jvm.Cond.static ({ cls := "LoanLayersModel", name := "meetAt", desc := "(II)I" } : Jvm.MethodName) ∈ lwW := lw_in (List.mem_append_right _ (List.mem_of_getElem? (i := 912) (by decide +kernel))) rfl
theorem q_913 : Jvm.Cond.code ({ cls := "LoanLayersModel", name := "meetAt", desc := "(II)I" } : Jvm.MethodName) prog_12_method_10_code (2 : Nat) (Option.some Jvm.ClassFile.FieldType.int) ∈ lwW := lw_in (List.mem_append_right _ (List.mem_of_getElem? (i := 913) (by decide +kernel))) rfl
theorem q_914 : Jvm.Cond.methodLink "LoanLayersModel" (150 : Nat) ({ cls := "LoanLayersModel", name := "readsLoan", desc := "()Z" } : Jvm.MethodName) ∈ lwW := lw_in (List.mem_append_right _ (List.mem_of_getElem? (i := 914) (by decide +kernel))) rfl
theorem q_916 : Jvm.Cond.instanceMethod ({ cls := "LoanLayersModel", name := "readsLoan", desc := "()Z" } : Jvm.MethodName) ∈ lwW := lw_in (List.mem_append_right _ (List.mem_of_getElem? (i := 916) (by decide +kernel))) rfl
theorem q_917 : Jvm.Cond.code ({ cls := "LoanLayersModel", name := "readsLoan", desc := "()Z" } : Jvm.MethodName) prog_12_method_28_code (4 : Nat) (Option.some Jvm.ClassFile.FieldType.boolean) ∈ lwW := lw_in (List.mem_append_right _ (List.mem_of_getElem? (i := 917) (by decide +kernel))) rfl
theorem q_918 : Jvm.Cond.methodLink "LoanLayersModel" (128 : Nat) ({ cls := "LoanLayersModel", name := "loanAt", desc := "(I)I" } : Jvm.MethodName) ∈ lwW := lw_in (List.mem_append_right _ (List.mem_of_getElem? (i := 918) (by decide +kernel))) rfl
theorem q_919 : Jvm.Cond.static ({ cls := "LoanLayersModel", name := "loanAt", desc := "(I)I" } : Jvm.MethodName) ∈ lwW := lw_in (List.mem_append_right _ (List.mem_of_getElem? (i := 919) (by decide +kernel))) rfl
theorem q_920 : Jvm.Cond.code ({ cls := "LoanLayersModel", name := "loanAt", desc := "(I)I" } : Jvm.MethodName) prog_12_method_9_code (1 : Nat) (Option.some Jvm.ClassFile.FieldType.int) ∈ lwW := lw_in (List.mem_append_right _ (List.mem_of_getElem? (i := 920) (by decide +kernel))) rfl
theorem q_921 : Jvm.Cond.methodLink "LoanLayersModel" (132 : Nat) ({ cls := "LoanLayersModel", name := "rowOf", desc := "(II)I" } : Jvm.MethodName) ∈ lwW := lw_in (List.mem_append_right _ (List.mem_of_getElem? (i := 921) (by decide +kernel))) rfl
theorem q_923 : Jvm.Cond.instanceMethod ({ cls := "LoanLayersModel", name := "rowOf", desc := "(II)I" } : Jvm.MethodName) ∈ lwW := lw_in (List.mem_append_right _ (List.mem_of_getElem? (i := 923) (by decide +kernel))) rfl
theorem q_924 : Jvm.Cond.code ({ cls := "LoanLayersModel", name := "rowOf", desc := "(II)I" } : Jvm.MethodName) prog_12_method_27_code (5 : Nat) (Option.some Jvm.ClassFile.FieldType.int) ∈ lwW := lw_in (List.mem_append_right _ (List.mem_of_getElem? (i := 924) (by decide +kernel))) rfl
theorem q_925 : Jvm.Cond.methodLink "LoanLayersLaw" (30 : Nat) ({ cls := "LoanLayersModel", name := "tell", desc := "()I" } : Jvm.MethodName) ∈ lwW := lw_in (List.mem_append_right _ (List.mem_of_getElem? (i := 925) (by decide +kernel))) rfl
theorem q_926 : Jvm.Cond.instanceMethod ({ cls := "LoanLayersModel", name := "tell", desc := "()I" } : Jvm.MethodName) ∈ lwW := lw_in (List.mem_append_right _ (List.mem_of_getElem? (i := 926) (by decide +kernel))) rfl
theorem q_927 : Jvm.Cond.selects "LoanLayersModel" ({ cls := "LoanLayersModel", name := "tell", desc := "()I" } : Jvm.MethodName) ({ cls := "LoanLayersModel", name := "tell", desc := "()I" } : Jvm.MethodName) ∈ lwW := lw_in (List.mem_append_right _ (List.mem_of_getElem? (i := 927) (by decide +kernel))) rfl
theorem q_928 : Jvm.Cond.code ({ cls := "LoanLayersModel", name := "tell", desc := "()I" } : Jvm.MethodName) prog_12_method_33_code (1 : Nat) (Option.some Jvm.ClassFile.FieldType.int) ∈ lwW := lw_in (List.mem_append_right _ (List.mem_of_getElem? (i := 928) (by decide +kernel))) rfl
theorem q_929 : Jvm.Cond.methodLink "LoanLayersLaw" (35 : Nat) ({ cls := "LoanLayersModel", name := "law", desc := "(IIIIII)I" } : Jvm.MethodName) ∈ lwW := lw_in (List.mem_append_right _ (List.mem_of_getElem? (i := 929) (by decide +kernel))) rfl
theorem q_930 : Jvm.Cond.instanceMethod ({ cls := "LoanLayersModel", name := "law", desc := "(IIIIII)I" } : Jvm.MethodName) ∈ lwW := lw_in (List.mem_append_right _ (List.mem_of_getElem? (i := 930) (by decide +kernel))) rfl
theorem q_931 : Jvm.Cond.selects "LoanLayersModel" ({ cls := "LoanLayersModel", name := "law", desc := "(IIIIII)I" } : Jvm.MethodName) ({ cls := "LoanLayersModel", name := "law", desc := "(IIIIII)I" } : Jvm.MethodName) ∈ lwW := lw_in (List.mem_append_right _ (List.mem_of_getElem? (i := 931) (by decide +kernel))) rfl
theorem q_932 : Jvm.Cond.code ({ cls := "LoanLayersModel", name := "law", desc := "(IIIIII)I" } : Jvm.MethodName) prog_12_method_53_code (7 : Nat) (Option.some Jvm.ClassFile.FieldType.int) ∈ lwW := lw_in (List.mem_append_right _ (List.mem_of_getElem? (i := 932) (by decide +kernel))) rfl
theorem q_933 : Jvm.Cond.methodLink "LoanLayersModel" (56 : Nat) ({ cls := "LoanLayersModel", name := "isTongue", desc := "(I)Z" } : Jvm.MethodName) ∈ lwW := lw_in (List.mem_append_right _ (List.mem_of_getElem? (i := 933) (by decide +kernel))) rfl
theorem q_934 : Jvm.Cond.static ({ cls := "LoanLayersModel", name := "isTongue", desc := "(I)Z" } : Jvm.MethodName) ∈ lwW := lw_in (List.mem_append_right _ (List.mem_of_getElem? (i := 934) (by decide +kernel))) rfl
theorem q_935 : Jvm.Cond.code ({ cls := "LoanLayersModel", name := "isTongue", desc := "(I)Z" } : Jvm.MethodName) prog_12_method_3_code (1 : Nat) (Option.some Jvm.ClassFile.FieldType.boolean) ∈ lwW := lw_in (List.mem_append_right _ (List.mem_of_getElem? (i := 935) (by decide +kernel))) rfl
theorem q_936 : Jvm.Cond.constantLong "LoanLayersModel" (50 : Nat) (3 : Int64) ∈ lwW := lw_in (List.mem_append_right _ (List.mem_of_getElem? (i := 936) (by decide +kernel))) rfl
theorem q_937 : Jvm.Cond.constantLong "LoanLayersModel" (217 : Nat) (25 : Int64) ∈ lwW := lw_in (List.mem_append_right _ (List.mem_of_getElem? (i := 937) (by decide +kernel))) rfl
theorem q_938 : Jvm.Cond.constantLong "LoanLayersModel" (219 : Nat) (-1 : Int64) ∈ lwW := lw_in (List.mem_append_right _ (List.mem_of_getElem? (i := 938) (by decide +kernel))) rfl
theorem q_939 : Jvm.Cond.constantLong "LoanLayersModel" (221 : Nat) (2 : Int64) ∈ lwW := lw_in (List.mem_append_right _ (List.mem_of_getElem? (i := 939) (by decide +kernel))) rfl
theorem q_940 : Jvm.Cond.methodLink "LoanLayersModel" (223 : Nat) ({ cls := "LoanLayersModel", name := "hasLaw", desc := "(II)Z" } : Jvm.MethodName) ∈ lwW := lw_in (List.mem_append_right _ (List.mem_of_getElem? (i := 940) (by decide +kernel))) rfl
theorem q_942 : Jvm.Cond.instanceMethod ({ cls := "LoanLayersModel", name := "hasLaw", desc := "(II)Z" } : Jvm.MethodName) ∈ lwW := lw_in (List.mem_append_right _ (List.mem_of_getElem? (i := 942) (by decide +kernel))) rfl
theorem q_943 : Jvm.Cond.code ({ cls := "LoanLayersModel", name := "hasLaw", desc := "(II)Z" } : Jvm.MethodName) prog_12_method_52_code (5 : Nat) (Option.some Jvm.ClassFile.FieldType.boolean) ∈ lwW := lw_in (List.mem_append_right _ (List.mem_of_getElem? (i := 943) (by decide +kernel))) rfl
theorem q_944 : Jvm.Cond.methodLink "LoanLayersModel" (226 : Nat) ({ cls := "LoanLayersModel", name := "keepPast", desc := "()V" } : Jvm.MethodName) ∈ lwW := lw_in (List.mem_append_right _ (List.mem_of_getElem? (i := 944) (by decide +kernel))) rfl
theorem q_946 : Jvm.Cond.instanceMethod ({ cls := "LoanLayersModel", name := "keepPast", desc := "()V" } : Jvm.MethodName) ∈ lwW := lw_in (List.mem_append_right _ (List.mem_of_getElem? (i := 946) (by decide +kernel))) rfl
theorem q_947 : Jvm.Cond.code ({ cls := "LoanLayersModel", name := "keepPast", desc := "()V" } : Jvm.MethodName) prog_12_method_50_code (2 : Nat) (Option.none : Option Jvm.ClassFile.FieldType) ∈ lwW := lw_in (List.mem_append_right _ (List.mem_of_getElem? (i := 947) (by decide +kernel))) rfl
theorem q_948 : Jvm.Cond.methodLink "LoanLayersModel" (213 : Nat) ({ cls := "LoanLayersModel", name := "copyRow", desc := "(II)V" } : Jvm.MethodName) ∈ lwW := lw_in (List.mem_append_right _ (List.mem_of_getElem? (i := 948) (by decide +kernel))) rfl
theorem q_950 : Jvm.Cond.instanceMethod ({ cls := "LoanLayersModel", name := "copyRow", desc := "(II)V" } : Jvm.MethodName) ∈ lwW := lw_in (List.mem_append_right _ (List.mem_of_getElem? (i := 950) (by decide +kernel))) rfl
theorem q_951 : Jvm.Cond.code ({ cls := "LoanLayersModel", name := "copyRow", desc := "(II)V" } : Jvm.MethodName) prog_12_method_49_code (4 : Nat) (Option.none : Option Jvm.ClassFile.FieldType) ∈ lwW := lw_in (List.mem_append_right _ (List.mem_of_getElem? (i := 951) (by decide +kernel))) rfl
theorem q_952 : Jvm.Cond.methodLink "LoanLayersLaw" (39 : Nat) ({ cls := "LoanLayersModel", name := "repeal", desc := "(I)I" } : Jvm.MethodName) ∈ lwW := lw_in (List.mem_append_right _ (List.mem_of_getElem? (i := 952) (by decide +kernel))) rfl
theorem q_953 : Jvm.Cond.instanceMethod ({ cls := "LoanLayersModel", name := "repeal", desc := "(I)I" } : Jvm.MethodName) ∈ lwW := lw_in (List.mem_append_right _ (List.mem_of_getElem? (i := 953) (by decide +kernel))) rfl
theorem q_954 : Jvm.Cond.selects "LoanLayersModel" ({ cls := "LoanLayersModel", name := "repeal", desc := "(I)I" } : Jvm.MethodName) ({ cls := "LoanLayersModel", name := "repeal", desc := "(I)I" } : Jvm.MethodName) ∈ lwW := lw_in (List.mem_append_right _ (List.mem_of_getElem? (i := 954) (by decide +kernel))) rfl
theorem q_955 : Jvm.Cond.code ({ cls := "LoanLayersModel", name := "repeal", desc := "(I)I" } : Jvm.MethodName) prog_12_method_54_code (3 : Nat) (Option.some Jvm.ClassFile.FieldType.int) ∈ lwW := lw_in (List.mem_append_right _ (List.mem_of_getElem? (i := 955) (by decide +kernel))) rfl
theorem q_956 : Jvm.Cond.methodLink "LoanLayersModel" (229 : Nat) ({ cls := "LoanLayersModel", name := "isLaw", desc := "(I)Z" } : Jvm.MethodName) ∈ lwW := lw_in (List.mem_append_right _ (List.mem_of_getElem? (i := 956) (by decide +kernel))) rfl
theorem q_958 : Jvm.Cond.instanceMethod ({ cls := "LoanLayersModel", name := "isLaw", desc := "(I)Z" } : Jvm.MethodName) ∈ lwW := lw_in (List.mem_append_right _ (List.mem_of_getElem? (i := 958) (by decide +kernel))) rfl
theorem q_959 : Jvm.Cond.code ({ cls := "LoanLayersModel", name := "isLaw", desc := "(I)Z" } : Jvm.MethodName) prog_12_method_5_code (2 : Nat) (Option.some Jvm.ClassFile.FieldType.boolean) ∈ lwW := lw_in (List.mem_append_right _ (List.mem_of_getElem? (i := 959) (by decide +kernel))) rfl
theorem q_960 : Jvm.Cond.methodLink "LoanLayersLaw" (44 : Nat) ({ cls := "LoanLayersModel", name := "meet", desc := "(IIII)I" } : Jvm.MethodName) ∈ lwW := lw_in (List.mem_append_right _ (List.mem_of_getElem? (i := 960) (by decide +kernel))) rfl
theorem q_961 : Jvm.Cond.instanceMethod ({ cls := "LoanLayersModel", name := "meet", desc := "(IIII)I" } : Jvm.MethodName) ∈ lwW := lw_in (List.mem_append_right _ (List.mem_of_getElem? (i := 961) (by decide +kernel))) rfl
theorem q_962 : Jvm.Cond.selects "LoanLayersModel" ({ cls := "LoanLayersModel", name := "meet", desc := "(IIII)I" } : Jvm.MethodName) ({ cls := "LoanLayersModel", name := "meet", desc := "(IIII)I" } : Jvm.MethodName) ∈ lwW := lw_in (List.mem_append_right _ (List.mem_of_getElem? (i := 962) (by decide +kernel))) rfl
theorem q_963 : Jvm.Cond.code ({ cls := "LoanLayersModel", name := "meet", desc := "(IIII)I" } : Jvm.MethodName) prog_12_method_55_code (5 : Nat) (Option.some Jvm.ClassFile.FieldType.int) ∈ lwW := lw_in (List.mem_append_right _ (List.mem_of_getElem? (i := 963) (by decide +kernel))) rfl
theorem q_964 : Jvm.Cond.methodLink "LoanLayersModel" (232 : Nat) ({ cls := "LoanLayersModel", name := "areTongues", desc := "(II)Z" } : Jvm.MethodName) ∈ lwW := lw_in (List.mem_append_right _ (List.mem_of_getElem? (i := 964) (by decide +kernel))) rfl
theorem q_965 : Jvm.Cond.static ({ cls := "LoanLayersModel", name := "areTongues", desc := "(II)Z" } : Jvm.MethodName) ∈ lwW := lw_in (List.mem_append_right _ (List.mem_of_getElem? (i := 965) (by decide +kernel))) rfl
theorem q_966 : Jvm.Cond.code ({ cls := "LoanLayersModel", name := "areTongues", desc := "(II)Z" } : Jvm.MethodName) prog_12_method_4_code (2 : Nat) (Option.some Jvm.ClassFile.FieldType.boolean) ∈ lwW := lw_in (List.mem_append_right _ (List.mem_of_getElem? (i := 966) (by decide +kernel))) rfl
theorem q_967 : Jvm.Cond.methodLink "LoanLayersModel" (235 : Nat) ({ cls := "LoanLayersModel", name := "isDate", desc := "(I)Z" } : Jvm.MethodName) ∈ lwW := lw_in (List.mem_append_right _ (List.mem_of_getElem? (i := 967) (by decide +kernel))) rfl
theorem q_968 : Jvm.Cond.static ({ cls := "LoanLayersModel", name := "isDate", desc := "(I)Z" } : Jvm.MethodName) ∈ lwW := lw_in (List.mem_append_right _ (List.mem_of_getElem? (i := 968) (by decide +kernel))) rfl
theorem q_969 : Jvm.Cond.code ({ cls := "LoanLayersModel", name := "isDate", desc := "(I)Z" } : Jvm.MethodName) prog_12_method_7_code (1 : Nat) (Option.some Jvm.ClassFile.FieldType.boolean) ∈ lwW := lw_in (List.mem_append_right _ (List.mem_of_getElem? (i := 969) (by decide +kernel))) rfl
theorem q_970 : Jvm.Cond.methodLink "LoanLayersModel" (238 : Nat) ({ cls := "LoanLayersModel", name := "meetings", desc := "()I" } : Jvm.MethodName) ∈ lwW := lw_in (List.mem_append_right _ (List.mem_of_getElem? (i := 970) (by decide +kernel))) rfl
theorem q_972 : Jvm.Cond.instanceMethod ({ cls := "LoanLayersModel", name := "meetings", desc := "()I" } : Jvm.MethodName) ∈ lwW := lw_in (List.mem_append_right _ (List.mem_of_getElem? (i := 972) (by decide +kernel))) rfl
theorem q_973 : Jvm.Cond.code ({ cls := "LoanLayersModel", name := "meetings", desc := "()I" } : Jvm.MethodName) prog_12_method_11_code (3 : Nat) (Option.some Jvm.ClassFile.FieldType.int) ∈ lwW := lw_in (List.mem_append_right _ (List.mem_of_getElem? (i := 973) (by decide +kernel))) rfl
theorem q_974 : Jvm.Cond.methodLink "LoanLayersLaw" (49 : Nat) ({ cls := "LoanLayersModel", name := "part", desc := "(II)I" } : Jvm.MethodName) ∈ lwW := lw_in (List.mem_append_right _ (List.mem_of_getElem? (i := 974) (by decide +kernel))) rfl
theorem q_975 : Jvm.Cond.instanceMethod ({ cls := "LoanLayersModel", name := "part", desc := "(II)I" } : Jvm.MethodName) ∈ lwW := lw_in (List.mem_append_right _ (List.mem_of_getElem? (i := 975) (by decide +kernel))) rfl
theorem q_976 : Jvm.Cond.selects "LoanLayersModel" ({ cls := "LoanLayersModel", name := "part", desc := "(II)I" } : Jvm.MethodName) ({ cls := "LoanLayersModel", name := "part", desc := "(II)I" } : Jvm.MethodName) ∈ lwW := lw_in (List.mem_append_right _ (List.mem_of_getElem? (i := 976) (by decide +kernel))) rfl
theorem q_977 : Jvm.Cond.code ({ cls := "LoanLayersModel", name := "part", desc := "(II)I" } : Jvm.MethodName) prog_12_method_56_code (3 : Nat) (Option.some Jvm.ClassFile.FieldType.int) ∈ lwW := lw_in (List.mem_append_right _ (List.mem_of_getElem? (i := 977) (by decide +kernel))) rfl
theorem q_978 : Jvm.Cond.methodLink "LoanLayersLaw" (53 : Nat) ({ cls := "LoanLayersModel", name := "lend", desc := "(IIII)I" } : Jvm.MethodName) ∈ lwW := lw_in (List.mem_append_right _ (List.mem_of_getElem? (i := 978) (by decide +kernel))) rfl
theorem q_979 : Jvm.Cond.instanceMethod ({ cls := "LoanLayersModel", name := "lend", desc := "(IIII)I" } : Jvm.MethodName) ∈ lwW := lw_in (List.mem_append_right _ (List.mem_of_getElem? (i := 979) (by decide +kernel))) rfl
theorem q_980 : Jvm.Cond.selects "LoanLayersModel" ({ cls := "LoanLayersModel", name := "lend", desc := "(IIII)I" } : Jvm.MethodName) ({ cls := "LoanLayersModel", name := "lend", desc := "(IIII)I" } : Jvm.MethodName) ∈ lwW := lw_in (List.mem_append_right _ (List.mem_of_getElem? (i := 980) (by decide +kernel))) rfl
theorem q_981 : Jvm.Cond.code ({ cls := "LoanLayersModel", name := "lend", desc := "(IIII)I" } : Jvm.MethodName) prog_12_method_57_code (7 : Nat) (Option.some Jvm.ClassFile.FieldType.int) ∈ lwW := lw_in (List.mem_append_right _ (List.mem_of_getElem? (i := 981) (by decide +kernel))) rfl
theorem q_982 : Jvm.Cond.methodLink "LoanLayersModel" (241 : Nat) ({ cls := "LoanLayersModel", name := "isLoan", desc := "(I)Z" } : Jvm.MethodName) ∈ lwW := lw_in (List.mem_append_right _ (List.mem_of_getElem? (i := 982) (by decide +kernel))) rfl
theorem q_984 : Jvm.Cond.instanceMethod ({ cls := "LoanLayersModel", name := "isLoan", desc := "(I)Z" } : Jvm.MethodName) ∈ lwW := lw_in (List.mem_append_right _ (List.mem_of_getElem? (i := 984) (by decide +kernel))) rfl
theorem q_985 : Jvm.Cond.code ({ cls := "LoanLayersModel", name := "isLoan", desc := "(I)Z" } : Jvm.MethodName) prog_12_method_6_code (2 : Nat) (Option.some Jvm.ClassFile.FieldType.boolean) ∈ lwW := lw_in (List.mem_append_right _ (List.mem_of_getElem? (i := 985) (by decide +kernel))) rfl
theorem q_986 : Jvm.Cond.methodLink "LoanLayersModel" (190 : Nat) ({ cls := "LoanLayersModel", name := "takes", desc := "(IIII)V" } : Jvm.MethodName) ∈ lwW := lw_in (List.mem_append_right _ (List.mem_of_getElem? (i := 986) (by decide +kernel))) rfl
theorem q_988 : Jvm.Cond.instanceMethod ({ cls := "LoanLayersModel", name := "takes", desc := "(IIII)V" } : Jvm.MethodName) ∈ lwW := lw_in (List.mem_append_right _ (List.mem_of_getElem? (i := 988) (by decide +kernel))) rfl
theorem q_989 : Jvm.Cond.code ({ cls := "LoanLayersModel", name := "takes", desc := "(IIII)V" } : Jvm.MethodName) prog_12_method_38_code (5 : Nat) (Option.none : Option Jvm.ClassFile.FieldType) ∈ lwW := lw_in (List.mem_append_right _ (List.mem_of_getElem? (i := 989) (by decide +kernel))) rfl
theorem q_990 : Jvm.Cond.methodLink "LoanLayersModel" (179 : Nat) ({ cls := "LoanLayersModel", name := "takesWord", desc := "(I)V" } : Jvm.MethodName) ∈ lwW := lw_in (List.mem_append_right _ (List.mem_of_getElem? (i := 990) (by decide +kernel))) rfl
theorem q_992 : Jvm.Cond.instanceMethod ({ cls := "LoanLayersModel", name := "takesWord", desc := "(I)V" } : Jvm.MethodName) ∈ lwW := lw_in (List.mem_append_right _ (List.mem_of_getElem? (i := 992) (by decide +kernel))) rfl
theorem q_993 : Jvm.Cond.code ({ cls := "LoanLayersModel", name := "takesWord", desc := "(I)V" } : Jvm.MethodName) prog_12_method_34_code (3 : Nat) (Option.none : Option Jvm.ClassFile.FieldType) ∈ lwW := lw_in (List.mem_append_right _ (List.mem_of_getElem? (i := 993) (by decide +kernel))) rfl
theorem q_994 : Jvm.Cond.methodLink "LoanLayersModel" (183 : Nat) ({ cls := "LoanLayersModel", name := "goes", desc := "(III)V" } : Jvm.MethodName) ∈ lwW := lw_in (List.mem_append_right _ (List.mem_of_getElem? (i := 994) (by decide +kernel))) rfl
theorem q_996 : Jvm.Cond.instanceMethod ({ cls := "LoanLayersModel", name := "goes", desc := "(III)V" } : Jvm.MethodName) ∈ lwW := lw_in (List.mem_append_right _ (List.mem_of_getElem? (i := 996) (by decide +kernel))) rfl
theorem q_997 : Jvm.Cond.code ({ cls := "LoanLayersModel", name := "goes", desc := "(III)V" } : Jvm.MethodName) prog_12_method_37_code (5 : Nat) (Option.none : Option Jvm.ClassFile.FieldType) ∈ lwW := lw_in (List.mem_append_right _ (List.mem_of_getElem? (i := 997) (by decide +kernel))) rfl
theorem q_998 : Jvm.Cond.methodLink "LoanLayersModel" (176 : Nat) ({ cls := "LoanLayersModel", name := "hits", desc := "(I)Z" } : Jvm.MethodName) ∈ lwW := lw_in (List.mem_append_right _ (List.mem_of_getElem? (i := 998) (by decide +kernel))) rfl
theorem q_1000 : Jvm.Cond.instanceMethod ({ cls := "LoanLayersModel", name := "hits", desc := "(I)Z" } : Jvm.MethodName) ∈ lwW := lw_in (List.mem_append_right _ (List.mem_of_getElem? (i := 1000) (by decide +kernel))) rfl
theorem q_1001 : Jvm.Cond.code ({ cls := "LoanLayersModel", name := "hits", desc := "(I)Z" } : Jvm.MethodName) prog_12_method_36_code (7 : Nat) (Option.some Jvm.ClassFile.FieldType.boolean) ∈ lwW := lw_in (List.mem_append_right _ (List.mem_of_getElem? (i := 1001) (by decide +kernel))) rfl
theorem q_1002 : Jvm.Cond.methodLink "LoanLayersModel" (172 : Nat) ({ cls := "LoanLayersModel", name := "isWhere", desc := "(III)Z" } : Jvm.MethodName) ∈ lwW := lw_in (List.mem_append_right _ (List.mem_of_getElem? (i := 1002) (by decide +kernel))) rfl
theorem q_1004 : Jvm.Cond.instanceMethod ({ cls := "LoanLayersModel", name := "isWhere", desc := "(III)Z" } : Jvm.MethodName) ∈ lwW := lw_in (List.mem_append_right _ (List.mem_of_getElem? (i := 1004) (by decide +kernel))) rfl
theorem q_1005 : Jvm.Cond.code ({ cls := "LoanLayersModel", name := "isWhere", desc := "(III)Z" } : Jvm.MethodName) prog_12_method_35_code (5 : Nat) (Option.some Jvm.ClassFile.FieldType.boolean) ∈ lwW := lw_in (List.mem_append_right _ (List.mem_of_getElem? (i := 1005) (by decide +kernel))) rfl
theorem q_1006 : Jvm.Cond.methodLink "LoanLayersLaw" (57 : Nat) ({ cls := "LoanLayersModel", name := "drop", desc := "(I)I" } : Jvm.MethodName) ∈ lwW := lw_in (List.mem_append_right _ (List.mem_of_getElem? (i := 1006) (by decide +kernel))) rfl
theorem q_1007 : Jvm.Cond.instanceMethod ({ cls := "LoanLayersModel", name := "drop", desc := "(I)I" } : Jvm.MethodName) ∈ lwW := lw_in (List.mem_append_right _ (List.mem_of_getElem? (i := 1007) (by decide +kernel))) rfl
theorem q_1008 : Jvm.Cond.selects "LoanLayersModel" ({ cls := "LoanLayersModel", name := "drop", desc := "(I)I" } : Jvm.MethodName) ({ cls := "LoanLayersModel", name := "drop", desc := "(I)I" } : Jvm.MethodName) ∈ lwW := lw_in (List.mem_append_right _ (List.mem_of_getElem? (i := 1008) (by decide +kernel))) rfl
theorem q_1009 : Jvm.Cond.code ({ cls := "LoanLayersModel", name := "drop", desc := "(I)I" } : Jvm.MethodName) prog_12_method_58_code (3 : Nat) (Option.some Jvm.ClassFile.FieldType.int) ∈ lwW := lw_in (List.mem_append_right _ (List.mem_of_getElem? (i := 1009) (by decide +kernel))) rfl
theorem q_1010 : Jvm.Cond.methodLink "LoanLayersLaw" (61 : Nat) ({ cls := "LoanLayersModel", name := "undo", desc := "()I" } : Jvm.MethodName) ∈ lwW := lw_in (List.mem_append_right _ (List.mem_of_getElem? (i := 1010) (by decide +kernel))) rfl
theorem q_1011 : Jvm.Cond.instanceMethod ({ cls := "LoanLayersModel", name := "undo", desc := "()I" } : Jvm.MethodName) ∈ lwW := lw_in (List.mem_append_right _ (List.mem_of_getElem? (i := 1011) (by decide +kernel))) rfl
theorem q_1012 : Jvm.Cond.selects "LoanLayersModel" ({ cls := "LoanLayersModel", name := "undo", desc := "()I" } : Jvm.MethodName) ({ cls := "LoanLayersModel", name := "undo", desc := "()I" } : Jvm.MethodName) ∈ lwW := lw_in (List.mem_append_right _ (List.mem_of_getElem? (i := 1012) (by decide +kernel))) rfl
theorem q_1013 : Jvm.Cond.code ({ cls := "LoanLayersModel", name := "undo", desc := "()I" } : Jvm.MethodName) prog_12_method_59_code (1 : Nat) (Option.some Jvm.ClassFile.FieldType.int) ∈ lwW := lw_in (List.mem_append_right _ (List.mem_of_getElem? (i := 1013) (by decide +kernel))) rfl
theorem q_1014 : Jvm.Cond.methodLink "LoanLayersLaw" (65 : Nat) ({ cls := "LoanLayersModel", name := "keep", desc := "(I)I" } : Jvm.MethodName) ∈ lwW := lw_in (List.mem_append_right _ (List.mem_of_getElem? (i := 1014) (by decide +kernel))) rfl
theorem q_1015 : Jvm.Cond.instanceMethod ({ cls := "LoanLayersModel", name := "keep", desc := "(I)I" } : Jvm.MethodName) ∈ lwW := lw_in (List.mem_append_right _ (List.mem_of_getElem? (i := 1015) (by decide +kernel))) rfl
theorem q_1016 : Jvm.Cond.selects "LoanLayersModel" ({ cls := "LoanLayersModel", name := "keep", desc := "(I)I" } : Jvm.MethodName) ({ cls := "LoanLayersModel", name := "keep", desc := "(I)I" } : Jvm.MethodName) ∈ lwW := lw_in (List.mem_append_right _ (List.mem_of_getElem? (i := 1016) (by decide +kernel))) rfl
theorem q_1017 : Jvm.Cond.code ({ cls := "LoanLayersModel", name := "keep", desc := "(I)I" } : Jvm.MethodName) prog_12_method_60_code (2 : Nat) (Option.some Jvm.ClassFile.FieldType.int) ∈ lwW := lw_in (List.mem_append_right _ (List.mem_of_getElem? (i := 1017) (by decide +kernel))) rfl
theorem q_1018 : Jvm.Cond.methodLink "LoanLayersLaw" (69 : Nat) ({ cls := "LoanLayersModel", name := "back", desc := "(I)I" } : Jvm.MethodName) ∈ lwW := lw_in (List.mem_append_right _ (List.mem_of_getElem? (i := 1018) (by decide +kernel))) rfl
theorem q_1019 : Jvm.Cond.instanceMethod ({ cls := "LoanLayersModel", name := "back", desc := "(I)I" } : Jvm.MethodName) ∈ lwW := lw_in (List.mem_append_right _ (List.mem_of_getElem? (i := 1019) (by decide +kernel))) rfl
theorem q_1020 : Jvm.Cond.selects "LoanLayersModel" ({ cls := "LoanLayersModel", name := "back", desc := "(I)I" } : Jvm.MethodName) ({ cls := "LoanLayersModel", name := "back", desc := "(I)I" } : Jvm.MethodName) ∈ lwW := lw_in (List.mem_append_right _ (List.mem_of_getElem? (i := 1020) (by decide +kernel))) rfl
theorem q_1021 : Jvm.Cond.code ({ cls := "LoanLayersModel", name := "back", desc := "(I)I" } : Jvm.MethodName) prog_12_method_61_code (2 : Nat) (Option.some Jvm.ClassFile.FieldType.int) ∈ lwW := lw_in (List.mem_append_right _ (List.mem_of_getElem? (i := 1021) (by decide +kernel))) rfl
theorem q_1022 : Jvm.Cond.methodLink "LoanLayersLaw" (73 : Nat) ({ cls := "LoanLayersModel", name := "told", desc := "(II)I" } : Jvm.MethodName) ∈ lwW := lw_in (List.mem_append_right _ (List.mem_of_getElem? (i := 1022) (by decide +kernel))) rfl
theorem q_1023 : Jvm.Cond.instanceMethod ({ cls := "LoanLayersModel", name := "told", desc := "(II)I" } : Jvm.MethodName) ∈ lwW := lw_in (List.mem_append_right _ (List.mem_of_getElem? (i := 1023) (by decide +kernel))) rfl
theorem q_1024 : Jvm.Cond.selects "LoanLayersModel" ({ cls := "LoanLayersModel", name := "told", desc := "(II)I" } : Jvm.MethodName) ({ cls := "LoanLayersModel", name := "told", desc := "(II)I" } : Jvm.MethodName) ∈ lwW := lw_in (List.mem_append_right _ (List.mem_of_getElem? (i := 1024) (by decide +kernel))) rfl
theorem q_1025 : Jvm.Cond.code ({ cls := "LoanLayersModel", name := "told", desc := "(II)I" } : Jvm.MethodName) prog_12_method_62_code (3 : Nat) (Option.some Jvm.ClassFile.FieldType.int) ∈ lwW := lw_in (List.mem_append_right _ (List.mem_of_getElem? (i := 1025) (by decide +kernel))) rfl
theorem q_1026 : Jvm.Cond.constantLong "LoanLayersModel" (244 : Nat) (5 : Int64) ∈ lwW := lw_in (List.mem_append_right _ (List.mem_of_getElem? (i := 1026) (by decide +kernel))) rfl
theorem q_1027 : Jvm.Cond.methodLink "LoanLayersLaw" (78 : Nat) ({ cls := "LoanLayersModel", name := "meeting", desc := "(III)I" } : Jvm.MethodName) ∈ lwW := lw_in (List.mem_append_right _ (List.mem_of_getElem? (i := 1027) (by decide +kernel))) rfl
theorem q_1028 : Jvm.Cond.instanceMethod ({ cls := "LoanLayersModel", name := "meeting", desc := "(III)I" } : Jvm.MethodName) ∈ lwW := lw_in (List.mem_append_right _ (List.mem_of_getElem? (i := 1028) (by decide +kernel))) rfl
theorem q_1029 : Jvm.Cond.selects "LoanLayersModel" ({ cls := "LoanLayersModel", name := "meeting", desc := "(III)I" } : Jvm.MethodName) ({ cls := "LoanLayersModel", name := "meeting", desc := "(III)I" } : Jvm.MethodName) ∈ lwW := lw_in (List.mem_append_right _ (List.mem_of_getElem? (i := 1029) (by decide +kernel))) rfl
theorem q_1030 : Jvm.Cond.code ({ cls := "LoanLayersModel", name := "meeting", desc := "(III)I" } : Jvm.MethodName) prog_12_method_63_code (4 : Nat) (Option.some Jvm.ClassFile.FieldType.int) ∈ lwW := lw_in (List.mem_append_right _ (List.mem_of_getElem? (i := 1030) (by decide +kernel))) rfl
theorem q_1031 : Jvm.Cond.methodLink "LoanLayersLaw" (82 : Nat) ({ cls := "LoanLayersModel", name := "loan", desc := "(II)I" } : Jvm.MethodName) ∈ lwW := lw_in (List.mem_append_right _ (List.mem_of_getElem? (i := 1031) (by decide +kernel))) rfl
theorem q_1032 : Jvm.Cond.instanceMethod ({ cls := "LoanLayersModel", name := "loan", desc := "(II)I" } : Jvm.MethodName) ∈ lwW := lw_in (List.mem_append_right _ (List.mem_of_getElem? (i := 1032) (by decide +kernel))) rfl
theorem q_1033 : Jvm.Cond.selects "LoanLayersModel" ({ cls := "LoanLayersModel", name := "loan", desc := "(II)I" } : Jvm.MethodName) ({ cls := "LoanLayersModel", name := "loan", desc := "(II)I" } : Jvm.MethodName) ∈ lwW := lw_in (List.mem_append_right _ (List.mem_of_getElem? (i := 1033) (by decide +kernel))) rfl
theorem q_1034 : Jvm.Cond.code ({ cls := "LoanLayersModel", name := "loan", desc := "(II)I" } : Jvm.MethodName) prog_12_method_64_code (3 : Nat) (Option.some Jvm.ClassFile.FieldType.int) ∈ lwW := lw_in (List.mem_append_right _ (List.mem_of_getElem? (i := 1034) (by decide +kernel))) rfl
theorem q_1035 : Jvm.Cond.methodLink "LoanLayersModel" (246 : Nat) ({ cls := "LoanLayersModel", name := "kind", desc := "(I)I" } : Jvm.MethodName) ∈ lwW := lw_in (List.mem_append_right _ (List.mem_of_getElem? (i := 1035) (by decide +kernel))) rfl
theorem q_1037 : Jvm.Cond.instanceMethod ({ cls := "LoanLayersModel", name := "kind", desc := "(I)I" } : Jvm.MethodName) ∈ lwW := lw_in (List.mem_append_right _ (List.mem_of_getElem? (i := 1037) (by decide +kernel))) rfl
theorem q_1038 : Jvm.Cond.code ({ cls := "LoanLayersModel", name := "kind", desc := "(I)I" } : Jvm.MethodName) prog_12_method_45_code (2 : Nat) (Option.some Jvm.ClassFile.FieldType.int) ∈ lwW := lw_in (List.mem_append_right _ (List.mem_of_getElem? (i := 1038) (by decide +kernel))) rfl
theorem q_1039 : Jvm.Cond.methodLink "LoanLayersModel" (204 : Nat) ({ cls := "LoanLayersModel", name := "firstOf", desc := "(I)I" } : Jvm.MethodName) ∈ lwW := lw_in (List.mem_append_right _ (List.mem_of_getElem? (i := 1039) (by decide +kernel))) rfl
theorem q_1041 : Jvm.Cond.instanceMethod ({ cls := "LoanLayersModel", name := "firstOf", desc := "(I)I" } : Jvm.MethodName) ∈ lwW := lw_in (List.mem_append_right _ (List.mem_of_getElem? (i := 1041) (by decide +kernel))) rfl
theorem q_1042 : Jvm.Cond.code ({ cls := "LoanLayersModel", name := "firstOf", desc := "(I)I" } : Jvm.MethodName) prog_12_method_43_code (2 : Nat) (Option.some Jvm.ClassFile.FieldType.int) ∈ lwW := lw_in (List.mem_append_right _ (List.mem_of_getElem? (i := 1042) (by decide +kernel))) rfl
theorem q_1043 : Jvm.Cond.methodLink "LoanLayersModel" (200 : Nat) ({ cls := "LoanLayersModel", name := "windowOf", desc := "(IIZ)I" } : Jvm.MethodName) ∈ lwW := lw_in (List.mem_append_right _ (List.mem_of_getElem? (i := 1043) (by decide +kernel))) rfl
theorem q_1045 : Jvm.Cond.instanceMethod ({ cls := "LoanLayersModel", name := "windowOf", desc := "(IIZ)I" } : Jvm.MethodName) ∈ lwW := lw_in (List.mem_append_right _ (List.mem_of_getElem? (i := 1045) (by decide +kernel))) rfl
theorem q_1046 : Jvm.Cond.code ({ cls := "LoanLayersModel", name := "windowOf", desc := "(IIZ)I" } : Jvm.MethodName) prog_12_method_41_code (8 : Nat) (Option.some Jvm.ClassFile.FieldType.int) ∈ lwW := lw_in (List.mem_append_right _ (List.mem_of_getElem? (i := 1046) (by decide +kernel))) rfl
theorem q_1047 : Jvm.Cond.methodLink "LoanLayersModel" (197 : Nat) ({ cls := "LoanLayersModel", name := "fits", desc := "(II)Z" } : Jvm.MethodName) ∈ lwW := lw_in (List.mem_append_right _ (List.mem_of_getElem? (i := 1047) (by decide +kernel))) rfl
theorem q_1049 : Jvm.Cond.instanceMethod ({ cls := "LoanLayersModel", name := "fits", desc := "(II)Z" } : Jvm.MethodName) ∈ lwW := lw_in (List.mem_append_right _ (List.mem_of_getElem? (i := 1049) (by decide +kernel))) rfl
theorem q_1050 : Jvm.Cond.code ({ cls := "LoanLayersModel", name := "fits", desc := "(II)Z" } : Jvm.MethodName) prog_12_method_40_code (5 : Nat) (Option.some Jvm.ClassFile.FieldType.boolean) ∈ lwW := lw_in (List.mem_append_right _ (List.mem_of_getElem? (i := 1050) (by decide +kernel))) rfl
theorem q_1051 : Jvm.Cond.methodLink "LoanLayersModel" (187 : Nat) ({ cls := "LoanLayersModel", name := "isMet", desc := "(III)Z" } : Jvm.MethodName) ∈ lwW := lw_in (List.mem_append_right _ (List.mem_of_getElem? (i := 1051) (by decide +kernel))) rfl
theorem q_1053 : Jvm.Cond.instanceMethod ({ cls := "LoanLayersModel", name := "isMet", desc := "(III)Z" } : Jvm.MethodName) ∈ lwW := lw_in (List.mem_append_right _ (List.mem_of_getElem? (i := 1053) (by decide +kernel))) rfl
theorem q_1054 : Jvm.Cond.code ({ cls := "LoanLayersModel", name := "isMet", desc := "(III)Z" } : Jvm.MethodName) prog_12_method_12_code (5 : Nat) (Option.some Jvm.ClassFile.FieldType.boolean) ∈ lwW := lw_in (List.mem_append_right _ (List.mem_of_getElem? (i := 1054) (by decide +kernel))) rfl
theorem q_1055 : Jvm.Cond.methodLink "LoanLayersModel" (194 : Nat) ({ cls := "LoanLayersModel", name := "isEnd", desc := "(I)Z" } : Jvm.MethodName) ∈ lwW := lw_in (List.mem_append_right _ (List.mem_of_getElem? (i := 1055) (by decide +kernel))) rfl
theorem q_1057 : Jvm.Cond.instanceMethod ({ cls := "LoanLayersModel", name := "isEnd", desc := "(I)Z" } : Jvm.MethodName) ∈ lwW := lw_in (List.mem_append_right _ (List.mem_of_getElem? (i := 1057) (by decide +kernel))) rfl
theorem q_1058 : Jvm.Cond.code ({ cls := "LoanLayersModel", name := "isEnd", desc := "(I)Z" } : Jvm.MethodName) prog_12_method_39_code (5 : Nat) (Option.some Jvm.ClassFile.FieldType.boolean) ∈ lwW := lw_in (List.mem_append_right _ (List.mem_of_getElem? (i := 1058) (by decide +kernel))) rfl
theorem q_1059 : Jvm.Cond.methodLink "LoanLayersModel" (249 : Nat) ({ cls := "LoanLayersModel", name := "windows", desc := "(I)I" } : Jvm.MethodName) ∈ lwW := lw_in (List.mem_append_right _ (List.mem_of_getElem? (i := 1059) (by decide +kernel))) rfl
theorem q_1061 : Jvm.Cond.instanceMethod ({ cls := "LoanLayersModel", name := "windows", desc := "(I)I" } : Jvm.MethodName) ∈ lwW := lw_in (List.mem_append_right _ (List.mem_of_getElem? (i := 1061) (by decide +kernel))) rfl
theorem q_1062 : Jvm.Cond.code ({ cls := "LoanLayersModel", name := "windows", desc := "(I)I" } : Jvm.MethodName) prog_12_method_42_code (3 : Nat) (Option.some Jvm.ClassFile.FieldType.int) ∈ lwW := lw_in (List.mem_append_right _ (List.mem_of_getElem? (i := 1062) (by decide +kernel))) rfl
theorem q_1063 : Jvm.Cond.methodLink "LoanLayersModel" (207 : Nat) ({ cls := "LoanLayersModel", name := "lastOf", desc := "(I)I" } : Jvm.MethodName) ∈ lwW := lw_in (List.mem_append_right _ (List.mem_of_getElem? (i := 1063) (by decide +kernel))) rfl
theorem q_1065 : Jvm.Cond.instanceMethod ({ cls := "LoanLayersModel", name := "lastOf", desc := "(I)I" } : Jvm.MethodName) ∈ lwW := lw_in (List.mem_append_right _ (List.mem_of_getElem? (i := 1065) (by decide +kernel))) rfl
theorem q_1066 : Jvm.Cond.code ({ cls := "LoanLayersModel", name := "lastOf", desc := "(I)I" } : Jvm.MethodName) prog_12_method_44_code (3 : Nat) (Option.some Jvm.ClassFile.FieldType.int) ∈ lwW := lw_in (List.mem_append_right _ (List.mem_of_getElem? (i := 1066) (by decide +kernel))) rfl
theorem q_1067 : Jvm.Cond.methodLink "LoanLayersModel" (252 : Nat) ({ cls := "LoanLayersModel", name := "finds", desc := "()V" } : Jvm.MethodName) ∈ lwW := lw_in (List.mem_append_right _ (List.mem_of_getElem? (i := 1067) (by decide +kernel))) rfl
theorem q_1069 : Jvm.Cond.instanceMethod ({ cls := "LoanLayersModel", name := "finds", desc := "()V" } : Jvm.MethodName) ∈ lwW := lw_in (List.mem_append_right _ (List.mem_of_getElem? (i := 1069) (by decide +kernel))) rfl
theorem q_1070 : Jvm.Cond.code ({ cls := "LoanLayersModel", name := "finds", desc := "()V" } : Jvm.MethodName) prog_12_method_47_code (4 : Nat) (Option.none : Option Jvm.ClassFile.FieldType) ∈ lwW := lw_in (List.mem_append_right _ (List.mem_of_getElem? (i := 1070) (by decide +kernel))) rfl
theorem q_1071 : Jvm.Cond.methodLink "LoanLayersModel" (210 : Nat) ({ cls := "LoanLayersModel", name := "isOlder", desc := "(II)Z" } : Jvm.MethodName) ∈ lwW := lw_in (List.mem_append_right _ (List.mem_of_getElem? (i := 1071) (by decide +kernel))) rfl
theorem q_1073 : Jvm.Cond.instanceMethod ({ cls := "LoanLayersModel", name := "isOlder", desc := "(II)Z" } : Jvm.MethodName) ∈ lwW := lw_in (List.mem_append_right _ (List.mem_of_getElem? (i := 1073) (by decide +kernel))) rfl
theorem q_1074 : Jvm.Cond.code ({ cls := "LoanLayersModel", name := "isOlder", desc := "(II)Z" } : Jvm.MethodName) prog_12_method_46_code (4 : Nat) (Option.some Jvm.ClassFile.FieldType.boolean) ∈ lwW := lw_in (List.mem_append_right _ (List.mem_of_getElem? (i := 1074) (by decide +kernel))) rfl
theorem q_1075 : Jvm.Cond.methodLink "LoanLayersModel" (255 : Nat) ({ cls := "LoanLayersModel", name := "olderThan", desc := "(I)I" } : Jvm.MethodName) ∈ lwW := lw_in (List.mem_append_right _ (List.mem_of_getElem? (i := 1075) (by decide +kernel))) rfl
theorem q_1077 : Jvm.Cond.instanceMethod ({ cls := "LoanLayersModel", name := "olderThan", desc := "(I)I" } : Jvm.MethodName) ∈ lwW := lw_in (List.mem_append_right _ (List.mem_of_getElem? (i := 1077) (by decide +kernel))) rfl
theorem q_1078 : Jvm.Cond.code ({ cls := "LoanLayersModel", name := "olderThan", desc := "(I)I" } : Jvm.MethodName) prog_12_method_48_code (4 : Nat) (Option.some Jvm.ClassFile.FieldType.int) ∈ lwW := lw_in (List.mem_append_right _ (List.mem_of_getElem? (i := 1078) (by decide +kernel))) rfl
theorem q_1079 : Jvm.Cond.methodLink "LoanLayersLaw" (86 : Nat) ({ cls := "LoanLayersModel", name := "sound", desc := "(III)I" } : Jvm.MethodName) ∈ lwW := lw_in (List.mem_append_right _ (List.mem_of_getElem? (i := 1079) (by decide +kernel))) rfl
theorem q_1080 : Jvm.Cond.instanceMethod ({ cls := "LoanLayersModel", name := "sound", desc := "(III)I" } : Jvm.MethodName) ∈ lwW := lw_in (List.mem_append_right _ (List.mem_of_getElem? (i := 1080) (by decide +kernel))) rfl
theorem q_1081 : Jvm.Cond.selects "LoanLayersModel" ({ cls := "LoanLayersModel", name := "sound", desc := "(III)I" } : Jvm.MethodName) ({ cls := "LoanLayersModel", name := "sound", desc := "(III)I" } : Jvm.MethodName) ∈ lwW := lw_in (List.mem_append_right _ (List.mem_of_getElem? (i := 1081) (by decide +kernel))) rfl
theorem q_1082 : Jvm.Cond.code ({ cls := "LoanLayersModel", name := "sound", desc := "(III)I" } : Jvm.MethodName) prog_12_method_65_code (5 : Nat) (Option.some Jvm.ClassFile.FieldType.int) ∈ lwW := lw_in (List.mem_append_right _ (List.mem_of_getElem? (i := 1082) (by decide +kernel))) rfl
theorem q_1083 : Jvm.Cond.methodLink "LoanLayersLaw" (90 : Nat) ({ cls := "LoanLayersModel", name := "window", desc := "(III)I" } : Jvm.MethodName) ∈ lwW := lw_in (List.mem_append_right _ (List.mem_of_getElem? (i := 1083) (by decide +kernel))) rfl
theorem q_1084 : Jvm.Cond.instanceMethod ({ cls := "LoanLayersModel", name := "window", desc := "(III)I" } : Jvm.MethodName) ∈ lwW := lw_in (List.mem_append_right _ (List.mem_of_getElem? (i := 1084) (by decide +kernel))) rfl
theorem q_1085 : Jvm.Cond.selects "LoanLayersModel" ({ cls := "LoanLayersModel", name := "window", desc := "(III)I" } : Jvm.MethodName) ({ cls := "LoanLayersModel", name := "window", desc := "(III)I" } : Jvm.MethodName) ∈ lwW := lw_in (List.mem_append_right _ (List.mem_of_getElem? (i := 1085) (by decide +kernel))) rfl
theorem q_1086 : Jvm.Cond.code ({ cls := "LoanLayersModel", name := "window", desc := "(III)I" } : Jvm.MethodName) prog_12_method_66_code (4 : Nat) (Option.some Jvm.ClassFile.FieldType.int) ∈ lwW := lw_in (List.mem_append_right _ (List.mem_of_getElem? (i := 1086) (by decide +kernel))) rfl
theorem q_1087 : Jvm.Cond.methodLink "LoanLayersLaw" (94 : Nat) ({ cls := "LoanLayersModel", name := "taken", desc := "(III)I" } : Jvm.MethodName) ∈ lwW := lw_in (List.mem_append_right _ (List.mem_of_getElem? (i := 1087) (by decide +kernel))) rfl
theorem q_1088 : Jvm.Cond.instanceMethod ({ cls := "LoanLayersModel", name := "taken", desc := "(III)I" } : Jvm.MethodName) ∈ lwW := lw_in (List.mem_append_right _ (List.mem_of_getElem? (i := 1088) (by decide +kernel))) rfl
theorem q_1089 : Jvm.Cond.selects "LoanLayersModel" ({ cls := "LoanLayersModel", name := "taken", desc := "(III)I" } : Jvm.MethodName) ({ cls := "LoanLayersModel", name := "taken", desc := "(III)I" } : Jvm.MethodName) ∈ lwW := lw_in (List.mem_append_right _ (List.mem_of_getElem? (i := 1089) (by decide +kernel))) rfl
theorem q_1090 : Jvm.Cond.code ({ cls := "LoanLayersModel", name := "taken", desc := "(III)I" } : Jvm.MethodName) prog_12_method_68_code (4 : Nat) (Option.some Jvm.ClassFile.FieldType.int) ∈ lwW := lw_in (List.mem_append_right _ (List.mem_of_getElem? (i := 1090) (by decide +kernel))) rfl
theorem q_1091 : Jvm.Cond.methodLink "LoanLayersModel" (258 : Nat) ({ cls := "LoanLayersModel", name := "formAt", desc := "(I)I" } : Jvm.MethodName) ∈ lwW := lw_in (List.mem_append_right _ (List.mem_of_getElem? (i := 1091) (by decide +kernel))) rfl
theorem q_1093 : Jvm.Cond.instanceMethod ({ cls := "LoanLayersModel", name := "formAt", desc := "(I)I" } : Jvm.MethodName) ∈ lwW := lw_in (List.mem_append_right _ (List.mem_of_getElem? (i := 1093) (by decide +kernel))) rfl
theorem q_1094 : Jvm.Cond.code ({ cls := "LoanLayersModel", name := "formAt", desc := "(I)I" } : Jvm.MethodName) prog_12_method_67_code (2 : Nat) (Option.some Jvm.ClassFile.FieldType.int) ∈ lwW := lw_in (List.mem_append_right _ (List.mem_of_getElem? (i := 1094) (by decide +kernel))) rfl
theorem q_1095 : Jvm.Cond.methodLink "LoanLayersLaw" (99 : Nat) ({ cls := "LoanLayersModel", name := "gone", desc := "(IIIII)I" } : Jvm.MethodName) ∈ lwW := lw_in (List.mem_append_right _ (List.mem_of_getElem? (i := 1095) (by decide +kernel))) rfl
theorem q_1096 : Jvm.Cond.instanceMethod ({ cls := "LoanLayersModel", name := "gone", desc := "(IIIII)I" } : Jvm.MethodName) ∈ lwW := lw_in (List.mem_append_right _ (List.mem_of_getElem? (i := 1096) (by decide +kernel))) rfl
theorem q_1097 : Jvm.Cond.selects "LoanLayersModel" ({ cls := "LoanLayersModel", name := "gone", desc := "(IIIII)I" } : Jvm.MethodName) ({ cls := "LoanLayersModel", name := "gone", desc := "(IIIII)I" } : Jvm.MethodName) ∈ lwW := lw_in (List.mem_append_right _ (List.mem_of_getElem? (i := 1097) (by decide +kernel))) rfl
theorem q_1098 : Jvm.Cond.code ({ cls := "LoanLayersModel", name := "gone", desc := "(IIIII)I" } : Jvm.MethodName) prog_12_method_69_code (6 : Nat) (Option.some Jvm.ClassFile.FieldType.int) ∈ lwW := lw_in (List.mem_append_right _ (List.mem_of_getElem? (i := 1098) (by decide +kernel))) rfl
theorem q_1099 : Jvm.Cond.methodLink "LoanLayersLaw" (103 : Nat) ({ cls := "LoanLayersModel", name := "did", desc := "(III)I" } : Jvm.MethodName) ∈ lwW := lw_in (List.mem_append_right _ (List.mem_of_getElem? (i := 1099) (by decide +kernel))) rfl
theorem q_1100 : Jvm.Cond.instanceMethod ({ cls := "LoanLayersModel", name := "did", desc := "(III)I" } : Jvm.MethodName) ∈ lwW := lw_in (List.mem_append_right _ (List.mem_of_getElem? (i := 1100) (by decide +kernel))) rfl
theorem q_1101 : Jvm.Cond.selects "LoanLayersModel" ({ cls := "LoanLayersModel", name := "did", desc := "(III)I" } : Jvm.MethodName) ({ cls := "LoanLayersModel", name := "did", desc := "(III)I" } : Jvm.MethodName) ∈ lwW := lw_in (List.mem_append_right _ (List.mem_of_getElem? (i := 1101) (by decide +kernel))) rfl
theorem q_1102 : Jvm.Cond.code ({ cls := "LoanLayersModel", name := "did", desc := "(III)I" } : Jvm.MethodName) prog_12_method_70_code (4 : Nat) (Option.some Jvm.ClassFile.FieldType.int) ∈ lwW := lw_in (List.mem_append_right _ (List.mem_of_getElem? (i := 1102) (by decide +kernel))) rfl
theorem q_1103 : Jvm.Cond.methodLink "LoanLayersLaw" (107 : Nat) ({ cls := "LoanLayersModel", name := "older", desc := "(II)I" } : Jvm.MethodName) ∈ lwW := lw_in (List.mem_append_right _ (List.mem_of_getElem? (i := 1103) (by decide +kernel))) rfl
theorem q_1104 : Jvm.Cond.instanceMethod ({ cls := "LoanLayersModel", name := "older", desc := "(II)I" } : Jvm.MethodName) ∈ lwW := lw_in (List.mem_append_right _ (List.mem_of_getElem? (i := 1104) (by decide +kernel))) rfl
theorem q_1105 : Jvm.Cond.selects "LoanLayersModel" ({ cls := "LoanLayersModel", name := "older", desc := "(II)I" } : Jvm.MethodName) ({ cls := "LoanLayersModel", name := "older", desc := "(II)I" } : Jvm.MethodName) ∈ lwW := lw_in (List.mem_append_right _ (List.mem_of_getElem? (i := 1105) (by decide +kernel))) rfl
theorem q_1106 : Jvm.Cond.code ({ cls := "LoanLayersModel", name := "older", desc := "(II)I" } : Jvm.MethodName) prog_12_method_71_code (3 : Nat) (Option.some Jvm.ClassFile.FieldType.int) ∈ lwW := lw_in (List.mem_append_right _ (List.mem_of_getElem? (i := 1106) (by decide +kernel))) rfl
theorem q_1107 : Jvm.Cond.methodLink "LoanLayersLaw" (111 : Nat) ({ cls := "LoanLayersModel", name := "road", desc := "(IIIII)I" } : Jvm.MethodName) ∈ lwW := lw_in (List.mem_append_right _ (List.mem_of_getElem? (i := 1107) (by decide +kernel))) rfl
theorem q_1108 : Jvm.Cond.instanceMethod ({ cls := "LoanLayersModel", name := "road", desc := "(IIIII)I" } : Jvm.MethodName) ∈ lwW := lw_in (List.mem_append_right _ (List.mem_of_getElem? (i := 1108) (by decide +kernel))) rfl
theorem q_1109 : Jvm.Cond.selects "LoanLayersModel" ({ cls := "LoanLayersModel", name := "road", desc := "(IIIII)I" } : Jvm.MethodName) ({ cls := "LoanLayersModel", name := "road", desc := "(IIIII)I" } : Jvm.MethodName) ∈ lwW := lw_in (List.mem_append_right _ (List.mem_of_getElem? (i := 1109) (by decide +kernel))) rfl
theorem q_1110 : Jvm.Cond.code ({ cls := "LoanLayersModel", name := "road", desc := "(IIIII)I" } : Jvm.MethodName) prog_12_method_78_code (7 : Nat) (Option.some Jvm.ClassFile.FieldType.int) ∈ lwW := lw_in (List.mem_append_right _ (List.mem_of_getElem? (i := 1110) (by decide +kernel))) rfl
theorem q_1111 : Jvm.Cond.methodLink "LoanLayersModel" (280 : Nat) ({ cls := "LoanLayersModel", name := "roadOf", desc := "(IIII)I" } : Jvm.MethodName) ∈ lwW := lw_in (List.mem_append_right _ (List.mem_of_getElem? (i := 1111) (by decide +kernel))) rfl
theorem q_1113 : Jvm.Cond.instanceMethod ({ cls := "LoanLayersModel", name := "roadOf", desc := "(IIII)I" } : Jvm.MethodName) ∈ lwW := lw_in (List.mem_append_right _ (List.mem_of_getElem? (i := 1113) (by decide +kernel))) rfl
theorem q_1114 : Jvm.Cond.code ({ cls := "LoanLayersModel", name := "roadOf", desc := "(IIII)I" } : Jvm.MethodName) prog_12_method_76_code (9 : Nat) (Option.some Jvm.ClassFile.FieldType.int) ∈ lwW := lw_in (List.mem_append_right _ (List.mem_of_getElem? (i := 1114) (by decide +kernel))) rfl
theorem q_1115 : Jvm.Cond.methodLink "LoanLayersModel" (267 : Nat) ({ cls := "LoanLayersModel", name := "findsDates", desc := "()V" } : Jvm.MethodName) ∈ lwW := lw_in (List.mem_append_right _ (List.mem_of_getElem? (i := 1115) (by decide +kernel))) rfl
theorem q_1117 : Jvm.Cond.instanceMethod ({ cls := "LoanLayersModel", name := "findsDates", desc := "()V" } : Jvm.MethodName) ∈ lwW := lw_in (List.mem_append_right _ (List.mem_of_getElem? (i := 1117) (by decide +kernel))) rfl
theorem q_1118 : Jvm.Cond.code ({ cls := "LoanLayersModel", name := "findsDates", desc := "()V" } : Jvm.MethodName) prog_12_method_74_code (2 : Nat) (Option.none : Option Jvm.ClassFile.FieldType) ∈ lwW := lw_in (List.mem_append_right _ (List.mem_of_getElem? (i := 1118) (by decide +kernel))) rfl
theorem q_1119 : Jvm.Cond.methodLink "LoanLayersModel" (264 : Nat) ({ cls := "LoanLayersModel", name := "isBeginning", desc := "(I)Z" } : Jvm.MethodName) ∈ lwW := lw_in (List.mem_append_right _ (List.mem_of_getElem? (i := 1119) (by decide +kernel))) rfl
theorem q_1121 : Jvm.Cond.instanceMethod ({ cls := "LoanLayersModel", name := "isBeginning", desc := "(I)Z" } : Jvm.MethodName) ∈ lwW := lw_in (List.mem_append_right _ (List.mem_of_getElem? (i := 1121) (by decide +kernel))) rfl
theorem q_1122 : Jvm.Cond.code ({ cls := "LoanLayersModel", name := "isBeginning", desc := "(I)Z" } : Jvm.MethodName) prog_12_method_72_code (4 : Nat) (Option.some Jvm.ClassFile.FieldType.boolean) ∈ lwW := lw_in (List.mem_append_right _ (List.mem_of_getElem? (i := 1122) (by decide +kernel))) rfl
theorem q_1123 : Jvm.Cond.methodLink "LoanLayersModel" (270 : Nat) ({ cls := "LoanLayersModel", name := "arrives", desc := "(IIIII)Z" } : Jvm.MethodName) ∈ lwW := lw_in (List.mem_append_right _ (List.mem_of_getElem? (i := 1123) (by decide +kernel))) rfl
theorem q_1125 : Jvm.Cond.instanceMethod ({ cls := "LoanLayersModel", name := "arrives", desc := "(IIIII)Z" } : Jvm.MethodName) ∈ lwW := lw_in (List.mem_append_right _ (List.mem_of_getElem? (i := 1125) (by decide +kernel))) rfl
theorem q_1126 : Jvm.Cond.code ({ cls := "LoanLayersModel", name := "arrives", desc := "(IIIII)Z" } : Jvm.MethodName) prog_12_method_73_code (10 : Nat) (Option.some Jvm.ClassFile.FieldType.boolean) ∈ lwW := lw_in (List.mem_append_right _ (List.mem_of_getElem? (i := 1126) (by decide +kernel))) rfl
theorem q_1127 : Jvm.Cond.methodLink "LoanLayersModel" (274 : Nat) ({ cls := "LoanLayersModel", name := "steps", desc := "(II)V" } : Jvm.MethodName) ∈ lwW := lw_in (List.mem_append_right _ (List.mem_of_getElem? (i := 1127) (by decide +kernel))) rfl
theorem q_1129 : Jvm.Cond.instanceMethod ({ cls := "LoanLayersModel", name := "steps", desc := "(II)V" } : Jvm.MethodName) ∈ lwW := lw_in (List.mem_append_right _ (List.mem_of_getElem? (i := 1129) (by decide +kernel))) rfl
theorem q_1130 : Jvm.Cond.code ({ cls := "LoanLayersModel", name := "steps", desc := "(II)V" } : Jvm.MethodName) prog_12_method_75_code (3 : Nat) (Option.none : Option Jvm.ClassFile.FieldType) ∈ lwW := lw_in (List.mem_append_right _ (List.mem_of_getElem? (i := 1130) (by decide +kernel))) rfl
theorem q_1131 : Jvm.Cond.methodLink "LoanLayersModel" (276 : Nat) ({ cls := "LoanLayersModel", name := "isThird", desc := "(IIIIII)Z" } : Jvm.MethodName) ∈ lwW := lw_in (List.mem_append_right _ (List.mem_of_getElem? (i := 1131) (by decide +kernel))) rfl
theorem q_1133 : Jvm.Cond.instanceMethod ({ cls := "LoanLayersModel", name := "isThird", desc := "(IIIIII)Z" } : Jvm.MethodName) ∈ lwW := lw_in (List.mem_append_right _ (List.mem_of_getElem? (i := 1133) (by decide +kernel))) rfl
theorem q_1134 : Jvm.Cond.code ({ cls := "LoanLayersModel", name := "isThird", desc := "(IIIIII)Z" } : Jvm.MethodName) prog_12_method_77_code (8 : Nat) (Option.some Jvm.ClassFile.FieldType.boolean) ∈ lwW := lw_in (List.mem_append_right _ (List.mem_of_getElem? (i := 1134) (by decide +kernel))) rfl
theorem q_1135 : Jvm.Cond.methodLink "LoanLayersLaw" (115 : Nat) ({ cls := "LoanLayersModel", name := "count", desc := "(I)I" } : Jvm.MethodName) ∈ lwW := lw_in (List.mem_append_right _ (List.mem_of_getElem? (i := 1135) (by decide +kernel))) rfl
theorem q_1136 : Jvm.Cond.instanceMethod ({ cls := "LoanLayersModel", name := "count", desc := "(I)I" } : Jvm.MethodName) ∈ lwW := lw_in (List.mem_append_right _ (List.mem_of_getElem? (i := 1136) (by decide +kernel))) rfl
theorem q_1137 : Jvm.Cond.selects "LoanLayersModel" ({ cls := "LoanLayersModel", name := "count", desc := "(I)I" } : Jvm.MethodName) ({ cls := "LoanLayersModel", name := "count", desc := "(I)I" } : Jvm.MethodName) ∈ lwW := lw_in (List.mem_append_right _ (List.mem_of_getElem? (i := 1137) (by decide +kernel))) rfl
theorem q_1138 : Jvm.Cond.code ({ cls := "LoanLayersModel", name := "count", desc := "(I)I" } : Jvm.MethodName) prog_12_method_82_code (2 : Nat) (Option.some Jvm.ClassFile.FieldType.int) ∈ lwW := lw_in (List.mem_append_right _ (List.mem_of_getElem? (i := 1138) (by decide +kernel))) rfl
theorem q_1139 : Jvm.Cond.methodLink "LoanLayersModel" (284 : Nat) ({ cls := "LoanLayersModel", name := "ofKind", desc := "(I)I" } : Jvm.MethodName) ∈ lwW := lw_in (List.mem_append_right _ (List.mem_of_getElem? (i := 1139) (by decide +kernel))) rfl
theorem q_1141 : Jvm.Cond.instanceMethod ({ cls := "LoanLayersModel", name := "ofKind", desc := "(I)I" } : Jvm.MethodName) ∈ lwW := lw_in (List.mem_append_right _ (List.mem_of_getElem? (i := 1141) (by decide +kernel))) rfl
theorem q_1142 : Jvm.Cond.code ({ cls := "LoanLayersModel", name := "ofKind", desc := "(I)I" } : Jvm.MethodName) prog_12_method_79_code (4 : Nat) (Option.some Jvm.ClassFile.FieldType.int) ∈ lwW := lw_in (List.mem_append_right _ (List.mem_of_getElem? (i := 1142) (by decide +kernel))) rfl
theorem q_1143 : Jvm.Cond.methodLink "LoanLayersModel" (287 : Nat) ({ cls := "LoanLayersModel", name := "greatestLayer", desc := "()I" } : Jvm.MethodName) ∈ lwW := lw_in (List.mem_append_right _ (List.mem_of_getElem? (i := 1143) (by decide +kernel))) rfl
theorem q_1145 : Jvm.Cond.instanceMethod ({ cls := "LoanLayersModel", name := "greatestLayer", desc := "()I" } : Jvm.MethodName) ∈ lwW := lw_in (List.mem_append_right _ (List.mem_of_getElem? (i := 1145) (by decide +kernel))) rfl
theorem q_1146 : Jvm.Cond.code ({ cls := "LoanLayersModel", name := "greatestLayer", desc := "()I" } : Jvm.MethodName) prog_12_method_80_code (3 : Nat) (Option.some Jvm.ClassFile.FieldType.int) ∈ lwW := lw_in (List.mem_append_right _ (List.mem_of_getElem? (i := 1146) (by decide +kernel))) rfl
theorem q_1147 : Jvm.Cond.methodLink "LoanLayersModel" (290 : Nat) ({ cls := "LoanLayersModel", name := "lawsOf", desc := "(I)I" } : Jvm.MethodName) ∈ lwW := lw_in (List.mem_append_right _ (List.mem_of_getElem? (i := 1147) (by decide +kernel))) rfl
theorem q_1149 : Jvm.Cond.instanceMethod ({ cls := "LoanLayersModel", name := "lawsOf", desc := "(I)I" } : Jvm.MethodName) ∈ lwW := lw_in (List.mem_append_right _ (List.mem_of_getElem? (i := 1149) (by decide +kernel))) rfl
theorem q_1150 : Jvm.Cond.code ({ cls := "LoanLayersModel", name := "lawsOf", desc := "(I)I" } : Jvm.MethodName) prog_12_method_81_code (4 : Nat) (Option.some Jvm.ClassFile.FieldType.int) ∈ lwW := lw_in (List.mem_append_right _ (List.mem_of_getElem? (i := 1150) (by decide +kernel))) rfl
theorem q_1151 : Jvm.Cond.fieldLink "java/lang/String" (9 : Nat) "java/lang/String" "value" "[B" ∈ lwW := lw_in (List.mem_append_right _ (List.mem_of_getElem? (i := 1151) (by decide +kernel))) rfl
theorem q_1152 : Jvm.Cond.fieldLink "java/lang/String" (15 : Nat) "java/lang/String" "coder" "B" ∈ lwW := lw_in (List.mem_append_right _ (List.mem_of_getElem? (i := 1152) (by decide +kernel))) rfl
theorem qs_0 : Cond.selects "LoanLayers$Text" ⟨"LoanLayers$Text", "advance", "()V"⟩ ⟨"LoanLayers$Text", "advance", "()V"⟩ ∈ lwW := lw_in (List.mem_append_left _ (List.mem_of_getElem? (i := 0) (by decide +kernel))) rfl
theorem qs_1 : Cond.selects "LoanLayers$Text" ⟨"LoanLayers$Text", "byteAt", "(I)I"⟩ ⟨"LoanLayers$Text", "byteAt", "(I)I"⟩ ∈ lwW := lw_in (List.mem_append_left _ (List.mem_of_getElem? (i := 1) (by decide +kernel))) rfl
theorem qs_2 : Cond.selects "LoanLayers$Text" ⟨"LoanLayers$Text", "readClause", "(LLoanLayers$World;)Z"⟩ ⟨"LoanLayers$Text", "readClause", "(LLoanLayers$World;)Z"⟩ ∈ lwW := lw_in (List.mem_append_left _ (List.mem_of_getElem? (i := 2) (by decide +kernel))) rfl
theorem qs_3 : Cond.selects "LoanLayers$Text" ⟨"LoanLayers$Text", "isWord", "(Ljava/lang/String;)Z"⟩ ⟨"LoanLayers$Text", "isWord", "(Ljava/lang/String;)Z"⟩ ∈ lwW := lw_in (List.mem_append_left _ (List.mem_of_getElem? (i := 3) (by decide +kernel))) rfl
theorem qs_4 : Cond.selects "LoanLayers$Text" ⟨"LoanLayers$Text", "readLaw", "(LLoanLayers$World;)Z"⟩ ⟨"LoanLayers$Text", "readLaw", "(LLoanLayers$World;)Z"⟩ ∈ lwW := lw_in (List.mem_append_left _ (List.mem_of_getElem? (i := 4) (by decide +kernel))) rfl
theorem qs_5 : Cond.selects "LoanLayers$Text" ⟨"LoanLayers$Text", "number", "(II)I"⟩ ⟨"LoanLayers$Text", "number", "(II)I"⟩ ∈ lwW := lw_in (List.mem_append_left _ (List.mem_of_getElem? (i := 5) (by decide +kernel))) rfl
theorem qs_6 : Cond.selects "LoanLayers$Text" ⟨"LoanLayers$Text", "letter", "()I"⟩ ⟨"LoanLayers$Text", "letter", "()I"⟩ ∈ lwW := lw_in (List.mem_append_left _ (List.mem_of_getElem? (i := 6) (by decide +kernel))) rfl
theorem qs_7 : Cond.selects "LoanLayers$Text" ⟨"LoanLayers$Text", "isSign", "(I)Z"⟩ ⟨"LoanLayers$Text", "isSign", "(I)Z"⟩ ∈ lwW := lw_in (List.mem_append_left _ (List.mem_of_getElem? (i := 7) (by decide +kernel))) rfl
theorem qs_8 : Cond.selects "LoanLayers$Text" ⟨"LoanLayers$Text", "environment", "()I"⟩ ⟨"LoanLayers$Text", "environment", "()I"⟩ ∈ lwW := lw_in (List.mem_append_left _ (List.mem_of_getElem? (i := 8) (by decide +kernel))) rfl
theorem qs_9 : Cond.selects "LoanLayers$Text" ⟨"LoanLayers$Text", "readMeeting", "(LLoanLayers$World;)Z"⟩ ⟨"LoanLayers$Text", "readMeeting", "(LLoanLayers$World;)Z"⟩ ∈ lwW := lw_in (List.mem_append_left _ (List.mem_of_getElem? (i := 9) (by decide +kernel))) rfl
theorem qs_10 : Cond.selects "LoanLayers$Text" ⟨"LoanLayers$Text", "readPair", "()I"⟩ ⟨"LoanLayers$Text", "readPair", "()I"⟩ ∈ lwW := lw_in (List.mem_append_left _ (List.mem_of_getElem? (i := 10) (by decide +kernel))) rfl
theorem qs_11 : Cond.selects "LoanLayers$Text" ⟨"LoanLayers$Text", "readLoan", "(LLoanLayers$World;)Z"⟩ ⟨"LoanLayers$Text", "readLoan", "(LLoanLayers$World;)Z"⟩ ∈ lwW := lw_in (List.mem_append_left _ (List.mem_of_getElem? (i := 11) (by decide +kernel))) rfl
theorem qs_12 : Cond.selects "LoanLayers$Text" ⟨"LoanLayers$Text", "form", "(I)J"⟩ ⟨"LoanLayers$Text", "form", "(I)J"⟩ ∈ lwW := lw_in (List.mem_append_left _ (List.mem_of_getElem? (i := 12) (by decide +kernel))) rfl
theorem qs_13 : Cond.selects "LoanLayers" ⟨"LoanLayers", "act", "(LLoanLayers$World;)V"⟩ ⟨"LoanLayers", "act", "(LLoanLayers$World;)V"⟩ ∈ lwW := lw_in (List.mem_append_left _ (List.mem_of_getElem? (i := 13) (by decide +kernel))) rfl
theorem qs_14 : Cond.selects "LoanLayers$Windows" ⟨"LoanLayers$Windows", "add", "(II)V"⟩ ⟨"LoanLayers$Windows", "add", "(II)V"⟩ ∈ lwW := lw_in (List.mem_append_left _ (List.mem_of_getElem? (i := 14) (by decide +kernel))) rfl
theorem qs_15 : Cond.selects "LoanLayers$Layers" ⟨"LoanLayers$Layers", "layByFirstDate", "()V"⟩ ⟨"LoanLayers$Layers", "layByFirstDate", "()V"⟩ ∈ lwW := lw_in (List.mem_append_left _ (List.mem_of_getElem? (i := 15) (by decide +kernel))) rfl
theorem qs_16 : Cond.selects "LoanLayers$Layers" ⟨"LoanLayers$Layers", "greatestBefore", "(I)I"⟩ ⟨"LoanLayers$Layers", "greatestBefore", "(I)I"⟩ ∈ lwW := lw_in (List.mem_append_left _ (List.mem_of_getElem? (i := 16) (by decide +kernel))) rfl
theorem qs_17 : Cond.selects "LoanLayers$Way" ⟨"LoanLayers$Way", "prepare", "(LLoanLayers$World;)V"⟩ ⟨"LoanLayers$Way", "prepare", "(LLoanLayers$World;)V"⟩ ∈ lwW := lw_in (List.mem_append_left _ (List.mem_of_getElem? (i := 17) (by decide +kernel))) rfl
theorem qs_18 : Cond.selects "LoanLayers$Way" ⟨"LoanLayers$Way", "leads", "(LLoanLayers$World;IIIJ)Z"⟩ ⟨"LoanLayers$Way", "leads", "(LLoanLayers$World;IIIJ)Z"⟩ ∈ lwW := lw_in (List.mem_append_left _ (List.mem_of_getElem? (i := 18) (by decide +kernel))) rfl
theorem qs_19 : Cond.selects "LoanLayers$Way" ⟨"LoanLayers$Way", "branches", "(LLoanLayers$World;IIIJ)Z"⟩ ⟨"LoanLayers$Way", "branches", "(LLoanLayers$World;IIIJ)Z"⟩ ∈ lwW := lw_in (List.mem_append_left _ (List.mem_of_getElem? (i := 19) (by decide +kernel))) rfl
theorem qs_20 : Cond.selects "LoanLayers$Way" ⟨"LoanLayers$Way", "isBusy", "(I)Z"⟩ ⟨"LoanLayers$Way", "isBusy", "(I)Z"⟩ ∈ lwW := lw_in (List.mem_append_left _ (List.mem_of_getElem? (i := 20) (by decide +kernel))) rfl
theorem qs_21 : Cond.selects "LoanLayers$Way" ⟨"LoanLayers$Way", "changed", "(JII)J"⟩ ⟨"LoanLayers$Way", "changed", "(JII)J"⟩ ∈ lwW := lw_in (List.mem_append_left _ (List.mem_of_getElem? (i := 21) (by decide +kernel))) rfl
theorem qs_22 : Cond.selects "LoanLayers$Way" ⟨"LoanLayers$Way", "ageTried", "(II)V"⟩ ⟨"LoanLayers$Way", "ageTried", "(II)V"⟩ ∈ lwW := lw_in (List.mem_append_left _ (List.mem_of_getElem? (i := 22) (by decide +kernel))) rfl
theorem qs_23 : Cond.selects "LoanLayers" ⟨"LoanLayers", "loansOfKind", "(I)I"⟩ ⟨"LoanLayers", "loansOfKind", "(I)I"⟩ ∈ lwW := lw_in (List.mem_append_left _ (List.mem_of_getElem? (i := 23) (by decide +kernel))) rfl
theorem qs_24 : Cond.selects "LoanLayersModel" ⟨"LoanLayersModel", "reads", "(Z)Z"⟩ ⟨"LoanLayersModel", "reads", "(Z)Z"⟩ ∈ lwW := lw_in (List.mem_append_left _ (List.mem_of_getElem? (i := 24) (by decide +kernel))) rfl
theorem qs_25 : Cond.selects "LoanLayersModel" ⟨"LoanLayersModel", "readsAll", "()Z"⟩ ⟨"LoanLayersModel", "readsAll", "()Z"⟩ ∈ lwW := lw_in (List.mem_append_left _ (List.mem_of_getElem? (i := 25) (by decide +kernel))) rfl
theorem qs_26 : Cond.selects "LoanLayersModel" ⟨"LoanLayersModel", "lawOf", "(II)I"⟩ ⟨"LoanLayersModel", "lawOf", "(II)I"⟩ ∈ lwW := lw_in (List.mem_append_left _ (List.mem_of_getElem? (i := 26) (by decide +kernel))) rfl
theorem qs_27 : Cond.selects "LoanLayersModel" ⟨"LoanLayersModel", "nextToken", "()V"⟩ ⟨"LoanLayersModel", "nextToken", "()V"⟩ ∈ lwW := lw_in (List.mem_append_left _ (List.mem_of_getElem? (i := 27) (by decide +kernel))) rfl
theorem qs_28 : Cond.selects "LoanLayersModel" ⟨"LoanLayersModel", "readsClause", "()Z"⟩ ⟨"LoanLayersModel", "readsClause", "()Z"⟩ ∈ lwW := lw_in (List.mem_append_left _ (List.mem_of_getElem? (i := 28) (by decide +kernel))) rfl
theorem qs_29 : Cond.selects "LoanLayersModel" ⟨"LoanLayersModel", "wordHere", "()I"⟩ ⟨"LoanLayersModel", "wordHere", "()I"⟩ ∈ lwW := lw_in (List.mem_append_left _ (List.mem_of_getElem? (i := 29) (by decide +kernel))) rfl
theorem qs_30 : Cond.selects "LoanLayersModel" ⟨"LoanLayersModel", "readsLaw", "()Z"⟩ ⟨"LoanLayersModel", "readsLaw", "()Z"⟩ ∈ lwW := lw_in (List.mem_append_left _ (List.mem_of_getElem? (i := 30) (by decide +kernel))) rfl
theorem qs_31 : Cond.selects "LoanLayersModel" ⟨"LoanLayersModel", "number", "(IIII)Z"⟩ ⟨"LoanLayersModel", "number", "(IIII)Z"⟩ ∈ lwW := lw_in (List.mem_append_left _ (List.mem_of_getElem? (i := 31) (by decide +kernel))) rfl
theorem qs_32 : Cond.selects "LoanLayersModel" ⟨"LoanLayersModel", "numberHere", "()I"⟩ ⟨"LoanLayersModel", "numberHere", "()I"⟩ ∈ lwW := lw_in (List.mem_append_left _ (List.mem_of_getElem? (i := 32) (by decide +kernel))) rfl
theorem qs_33 : Cond.selects "LoanLayersModel" ⟨"LoanLayersModel", "readsSound", "(II)Z"⟩ ⟨"LoanLayersModel", "readsSound", "(II)Z"⟩ ∈ lwW := lw_in (List.mem_append_left _ (List.mem_of_getElem? (i := 33) (by decide +kernel))) rfl
theorem qs_34 : Cond.selects "LoanLayersModel" ⟨"LoanLayersModel", "lostOrSound", "(II)Z"⟩ ⟨"LoanLayersModel", "lostOrSound", "(II)Z"⟩ ∈ lwW := lw_in (List.mem_append_left _ (List.mem_of_getElem? (i := 34) (by decide +kernel))) rfl
theorem qs_35 : Cond.selects "LoanLayersModel" ⟨"LoanLayersModel", "isSign", "(I)Z"⟩ ⟨"LoanLayersModel", "isSign", "(I)Z"⟩ ∈ lwW := lw_in (List.mem_append_left _ (List.mem_of_getElem? (i := 35) (by decide +kernel))) rfl
theorem qs_36 : Cond.selects "LoanLayersModel" ⟨"LoanLayersModel", "where", "()Z"⟩ ⟨"LoanLayersModel", "where", "()Z"⟩ ∈ lwW := lw_in (List.mem_append_left _ (List.mem_of_getElem? (i := 36) (by decide +kernel))) rfl
theorem qs_37 : Cond.selects "LoanLayersModel" ⟨"LoanLayersModel", "puts", "(IIIIII)I"⟩ ⟨"LoanLayersModel", "puts", "(IIIIII)I"⟩ ∈ lwW := lw_in (List.mem_append_left _ (List.mem_of_getElem? (i := 37) (by decide +kernel))) rfl
theorem qs_38 : Cond.selects "LoanLayersModel" ⟨"LoanLayersModel", "readsMeet", "()Z"⟩ ⟨"LoanLayersModel", "readsMeet", "()Z"⟩ ∈ lwW := lw_in (List.mem_append_left _ (List.mem_of_getElem? (i := 38) (by decide +kernel))) rfl
theorem qs_39 : Cond.selects "LoanLayersModel" ⟨"LoanLayersModel", "readsLoan", "()Z"⟩ ⟨"LoanLayersModel", "readsLoan", "()Z"⟩ ∈ lwW := lw_in (List.mem_append_left _ (List.mem_of_getElem? (i := 39) (by decide +kernel))) rfl
theorem qs_40 : Cond.selects "LoanLayersModel" ⟨"LoanLayersModel", "rowOf", "(II)I"⟩ ⟨"LoanLayersModel", "rowOf", "(II)I"⟩ ∈ lwW := lw_in (List.mem_append_left _ (List.mem_of_getElem? (i := 40) (by decide +kernel))) rfl
theorem qs_41 : Cond.selects "LoanLayersModel" ⟨"LoanLayersModel", "hasLaw", "(II)Z"⟩ ⟨"LoanLayersModel", "hasLaw", "(II)Z"⟩ ∈ lwW := lw_in (List.mem_append_left _ (List.mem_of_getElem? (i := 41) (by decide +kernel))) rfl
theorem qs_42 : Cond.selects "LoanLayersModel" ⟨"LoanLayersModel", "keepPast", "()V"⟩ ⟨"LoanLayersModel", "keepPast", "()V"⟩ ∈ lwW := lw_in (List.mem_append_left _ (List.mem_of_getElem? (i := 42) (by decide +kernel))) rfl
theorem qs_43 : Cond.selects "LoanLayersModel" ⟨"LoanLayersModel", "copyRow", "(II)V"⟩ ⟨"LoanLayersModel", "copyRow", "(II)V"⟩ ∈ lwW := lw_in (List.mem_append_left _ (List.mem_of_getElem? (i := 43) (by decide +kernel))) rfl
theorem qs_44 : Cond.selects "LoanLayersModel" ⟨"LoanLayersModel", "isLaw", "(I)Z"⟩ ⟨"LoanLayersModel", "isLaw", "(I)Z"⟩ ∈ lwW := lw_in (List.mem_append_left _ (List.mem_of_getElem? (i := 44) (by decide +kernel))) rfl
theorem qs_45 : Cond.selects "LoanLayersModel" ⟨"LoanLayersModel", "meetings", "()I"⟩ ⟨"LoanLayersModel", "meetings", "()I"⟩ ∈ lwW := lw_in (List.mem_append_left _ (List.mem_of_getElem? (i := 45) (by decide +kernel))) rfl
theorem qs_46 : Cond.selects "LoanLayersModel" ⟨"LoanLayersModel", "isLoan", "(I)Z"⟩ ⟨"LoanLayersModel", "isLoan", "(I)Z"⟩ ∈ lwW := lw_in (List.mem_append_left _ (List.mem_of_getElem? (i := 46) (by decide +kernel))) rfl
theorem qs_47 : Cond.selects "LoanLayersModel" ⟨"LoanLayersModel", "takes", "(IIII)V"⟩ ⟨"LoanLayersModel", "takes", "(IIII)V"⟩ ∈ lwW := lw_in (List.mem_append_left _ (List.mem_of_getElem? (i := 47) (by decide +kernel))) rfl
theorem qs_48 : Cond.selects "LoanLayersModel" ⟨"LoanLayersModel", "takesWord", "(I)V"⟩ ⟨"LoanLayersModel", "takesWord", "(I)V"⟩ ∈ lwW := lw_in (List.mem_append_left _ (List.mem_of_getElem? (i := 48) (by decide +kernel))) rfl
theorem qs_49 : Cond.selects "LoanLayersModel" ⟨"LoanLayersModel", "goes", "(III)V"⟩ ⟨"LoanLayersModel", "goes", "(III)V"⟩ ∈ lwW := lw_in (List.mem_append_left _ (List.mem_of_getElem? (i := 49) (by decide +kernel))) rfl
theorem qs_50 : Cond.selects "LoanLayersModel" ⟨"LoanLayersModel", "hits", "(I)Z"⟩ ⟨"LoanLayersModel", "hits", "(I)Z"⟩ ∈ lwW := lw_in (List.mem_append_left _ (List.mem_of_getElem? (i := 50) (by decide +kernel))) rfl
theorem qs_51 : Cond.selects "LoanLayersModel" ⟨"LoanLayersModel", "isWhere", "(III)Z"⟩ ⟨"LoanLayersModel", "isWhere", "(III)Z"⟩ ∈ lwW := lw_in (List.mem_append_left _ (List.mem_of_getElem? (i := 51) (by decide +kernel))) rfl
theorem qs_52 : Cond.selects "LoanLayersModel" ⟨"LoanLayersModel", "kind", "(I)I"⟩ ⟨"LoanLayersModel", "kind", "(I)I"⟩ ∈ lwW := lw_in (List.mem_append_left _ (List.mem_of_getElem? (i := 52) (by decide +kernel))) rfl
theorem qs_53 : Cond.selects "LoanLayersModel" ⟨"LoanLayersModel", "firstOf", "(I)I"⟩ ⟨"LoanLayersModel", "firstOf", "(I)I"⟩ ∈ lwW := lw_in (List.mem_append_left _ (List.mem_of_getElem? (i := 53) (by decide +kernel))) rfl
theorem qs_54 : Cond.selects "LoanLayersModel" ⟨"LoanLayersModel", "windowOf", "(IIZ)I"⟩ ⟨"LoanLayersModel", "windowOf", "(IIZ)I"⟩ ∈ lwW := lw_in (List.mem_append_left _ (List.mem_of_getElem? (i := 54) (by decide +kernel))) rfl
theorem qs_55 : Cond.selects "LoanLayersModel" ⟨"LoanLayersModel", "fits", "(II)Z"⟩ ⟨"LoanLayersModel", "fits", "(II)Z"⟩ ∈ lwW := lw_in (List.mem_append_left _ (List.mem_of_getElem? (i := 55) (by decide +kernel))) rfl
theorem qs_56 : Cond.selects "LoanLayersModel" ⟨"LoanLayersModel", "isMet", "(III)Z"⟩ ⟨"LoanLayersModel", "isMet", "(III)Z"⟩ ∈ lwW := lw_in (List.mem_append_left _ (List.mem_of_getElem? (i := 56) (by decide +kernel))) rfl
theorem qs_57 : Cond.selects "LoanLayersModel" ⟨"LoanLayersModel", "isEnd", "(I)Z"⟩ ⟨"LoanLayersModel", "isEnd", "(I)Z"⟩ ∈ lwW := lw_in (List.mem_append_left _ (List.mem_of_getElem? (i := 57) (by decide +kernel))) rfl
theorem qs_58 : Cond.selects "LoanLayersModel" ⟨"LoanLayersModel", "windows", "(I)I"⟩ ⟨"LoanLayersModel", "windows", "(I)I"⟩ ∈ lwW := lw_in (List.mem_append_left _ (List.mem_of_getElem? (i := 58) (by decide +kernel))) rfl
theorem qs_59 : Cond.selects "LoanLayersModel" ⟨"LoanLayersModel", "lastOf", "(I)I"⟩ ⟨"LoanLayersModel", "lastOf", "(I)I"⟩ ∈ lwW := lw_in (List.mem_append_left _ (List.mem_of_getElem? (i := 59) (by decide +kernel))) rfl
theorem qs_60 : Cond.selects "LoanLayersModel" ⟨"LoanLayersModel", "finds", "()V"⟩ ⟨"LoanLayersModel", "finds", "()V"⟩ ∈ lwW := lw_in (List.mem_append_left _ (List.mem_of_getElem? (i := 60) (by decide +kernel))) rfl
theorem qs_61 : Cond.selects "LoanLayersModel" ⟨"LoanLayersModel", "isOlder", "(II)Z"⟩ ⟨"LoanLayersModel", "isOlder", "(II)Z"⟩ ∈ lwW := lw_in (List.mem_append_left _ (List.mem_of_getElem? (i := 61) (by decide +kernel))) rfl
theorem qs_62 : Cond.selects "LoanLayersModel" ⟨"LoanLayersModel", "olderThan", "(I)I"⟩ ⟨"LoanLayersModel", "olderThan", "(I)I"⟩ ∈ lwW := lw_in (List.mem_append_left _ (List.mem_of_getElem? (i := 62) (by decide +kernel))) rfl
theorem qs_63 : Cond.selects "LoanLayersModel" ⟨"LoanLayersModel", "formAt", "(I)I"⟩ ⟨"LoanLayersModel", "formAt", "(I)I"⟩ ∈ lwW := lw_in (List.mem_append_left _ (List.mem_of_getElem? (i := 63) (by decide +kernel))) rfl
theorem qs_64 : Cond.selects "LoanLayersModel" ⟨"LoanLayersModel", "roadOf", "(IIII)I"⟩ ⟨"LoanLayersModel", "roadOf", "(IIII)I"⟩ ∈ lwW := lw_in (List.mem_append_left _ (List.mem_of_getElem? (i := 64) (by decide +kernel))) rfl
theorem qs_65 : Cond.selects "LoanLayersModel" ⟨"LoanLayersModel", "findsDates", "()V"⟩ ⟨"LoanLayersModel", "findsDates", "()V"⟩ ∈ lwW := lw_in (List.mem_append_left _ (List.mem_of_getElem? (i := 65) (by decide +kernel))) rfl
theorem qs_66 : Cond.selects "LoanLayersModel" ⟨"LoanLayersModel", "isBeginning", "(I)Z"⟩ ⟨"LoanLayersModel", "isBeginning", "(I)Z"⟩ ∈ lwW := lw_in (List.mem_append_left _ (List.mem_of_getElem? (i := 66) (by decide +kernel))) rfl
theorem qs_67 : Cond.selects "LoanLayersModel" ⟨"LoanLayersModel", "arrives", "(IIIII)Z"⟩ ⟨"LoanLayersModel", "arrives", "(IIIII)Z"⟩ ∈ lwW := lw_in (List.mem_append_left _ (List.mem_of_getElem? (i := 67) (by decide +kernel))) rfl
theorem qs_68 : Cond.selects "LoanLayersModel" ⟨"LoanLayersModel", "steps", "(II)V"⟩ ⟨"LoanLayersModel", "steps", "(II)V"⟩ ∈ lwW := lw_in (List.mem_append_left _ (List.mem_of_getElem? (i := 68) (by decide +kernel))) rfl
theorem qs_69 : Cond.selects "LoanLayersModel" ⟨"LoanLayersModel", "isThird", "(IIIIII)Z"⟩ ⟨"LoanLayersModel", "isThird", "(IIIIII)Z"⟩ ∈ lwW := lw_in (List.mem_append_left _ (List.mem_of_getElem? (i := 69) (by decide +kernel))) rfl
theorem qs_70 : Cond.selects "LoanLayersModel" ⟨"LoanLayersModel", "ofKind", "(I)I"⟩ ⟨"LoanLayersModel", "ofKind", "(I)I"⟩ ∈ lwW := lw_in (List.mem_append_left _ (List.mem_of_getElem? (i := 70) (by decide +kernel))) rfl
theorem qs_71 : Cond.selects "LoanLayersModel" ⟨"LoanLayersModel", "greatestLayer", "()I"⟩ ⟨"LoanLayersModel", "greatestLayer", "()I"⟩ ∈ lwW := lw_in (List.mem_append_left _ (List.mem_of_getElem? (i := 71) (by decide +kernel))) rfl
theorem qs_72 : Cond.selects "LoanLayersModel" ⟨"LoanLayersModel", "lawsOf", "(I)I"⟩ ⟨"LoanLayersModel", "lawsOf", "(I)I"⟩ ∈ lwW := lw_in (List.mem_append_left _ (List.mem_of_getElem? (i := 72) (by decide +kernel))) rfl
theorem uw_X1 : ∀ w ∈ u_ws RX1 TX1 6, w ∈ lwW := by
  intro w hw
  obtain ⟨k, hk, rfl⟩ := List.mem_map.mp hw
  have hk := List.mem_range.mp hk
  match k, hk with
    | 0, _ => exact q_349
    | 1, _ => exact q_351
    | 2, _ => exact q_353
    | 3, _ => exact q_355
    | 4, _ => exact q_357
    | 5, _ => exact q_359
    | n + 6, z => exact absurd z (by omega)
theorem cf_X1 : ClF 0 RX1 TX1 6 tyX1 := ⟨rfl, uw_X1, tyX1_ok, nmX1⟩
theorem uw_X2 : ∀ w ∈ u_ws RX2 TX2 4, w ∈ lwW := by
  intro w hw
  obtain ⟨k, hk, rfl⟩ := List.mem_map.mp hw
  have hk := List.mem_range.mp hk
  match k, hk with
    | 0, _ => exact q_129
    | 1, _ => exact q_131
    | 2, _ => exact q_133
    | 3, _ => exact q_135
    | n + 4, z => exact absurd z (by omega)
theorem cf_X2 : ClF 1 RX2 TX2 4 tyX2 := ⟨rfl, uw_X2, tyX2_ok, nmX2⟩
theorem uw_X3 : ∀ w ∈ u_ws RX3 TX3 4, w ∈ lwW := by
  intro w hw
  obtain ⟨k, hk, rfl⟩ := List.mem_map.mp hw
  have hk := List.mem_range.mp hk
  match k, hk with
    | 0, _ => exact q_419
    | 1, _ => exact q_421
    | 2, _ => exact q_423
    | 3, _ => exact q_425
    | n + 4, z => exact absurd z (by omega)
theorem cf_X3 : ClF 2 RX3 TX3 4 tyX3 := ⟨rfl, uw_X3, tyX3_ok, nmX3⟩
theorem uw_X4 : ∀ w ∈ u_ws RX4 TX4 2, w ∈ lwW := by
  intro w hw
  obtain ⟨k, hk, rfl⟩ := List.mem_map.mp hw
  have hk := List.mem_range.mp hk
  match k, hk with
    | 0, _ => exact q_70
    | 1, _ => exact q_72
    | n + 2, z => exact absurd z (by omega)
theorem cf_X4 : ClF 3 RX4 TX4 2 tyX4 := ⟨rfl, uw_X4, tyX4_ok, nmX4⟩
theorem uw_X5 : ∀ w ∈ u_ws RX5 TX5 6, w ∈ lwW := by
  intro w hw
  obtain ⟨k, hk, rfl⟩ := List.mem_map.mp hw
  have hk := List.mem_range.mp hk
  match k, hk with
    | 0, _ => exact q_89
    | 1, _ => exact q_91
    | 2, _ => exact q_93
    | 3, _ => exact q_95
    | 4, _ => exact q_97
    | 5, _ => exact q_99
    | n + 6, z => exact absurd z (by omega)
theorem cf_X5 : ClF 4 RX5 TX5 6 tyX5 := ⟨rfl, uw_X5, tyX5_ok, nmX5⟩
theorem uw_X6 : ∀ w ∈ u_ws RX6 TX6 7, w ∈ lwW := by
  intro w hw
  obtain ⟨k, hk, rfl⟩ := List.mem_map.mp hw
  have hk := List.mem_range.mp hk
  match k, hk with
    | 0, _ => exact q_153
    | 1, _ => exact q_155
    | 2, _ => exact q_157
    | 3, _ => exact q_159
    | 4, _ => exact q_161
    | 5, _ => exact q_163
    | 6, _ => exact q_165
    | n + 7, z => exact absurd z (by omega)
theorem cf_X6 : ClF 5 RX6 TX6 7 tyX6 := ⟨rfl, uw_X6, tyX6_ok, nmX6⟩
theorem uw_X7 : ∀ w ∈ u_ws RX7 TX7 3, w ∈ lwW := by
  intro w hw
  obtain ⟨k, hk, rfl⟩ := List.mem_map.mp hw
  have hk := List.mem_range.mp hk
  match k, hk with
    | 0, _ => exact q_112
    | 1, _ => exact q_114
    | 2, _ => exact q_116
    | n + 3, z => exact absurd z (by omega)
theorem cf_X7 : ClF 6 RX7 TX7 3 tyX7 := ⟨rfl, uw_X7, tyX7_ok, nmX7⟩
theorem uw_X8 : ∀ w ∈ u_ws RX8 TX8 6, w ∈ lwW := by
  intro w hw
  obtain ⟨k, hk, rfl⟩ := List.mem_map.mp hw
  have hk := List.mem_range.mp hk
  match k, hk with
    | 0, _ => exact q_45
    | 1, _ => exact q_47
    | 2, _ => exact q_49
    | 3, _ => exact q_51
    | 4, _ => exact q_53
    | 5, _ => exact q_55
    | n + 6, z => exact absurd z (by omega)
theorem cf_X8 : ClF 7 RX8 TX8 6 tyX8 := ⟨rfl, uw_X8, tyX8_ok, nmX8⟩
theorem uw_X9 : ∀ w ∈ u_ws RX9 TX9 7, w ∈ lwW := by
  intro w hw
  obtain ⟨k, hk, rfl⟩ := List.mem_map.mp hw
  have hk := List.mem_range.mp hk
  match k, hk with
    | 0, _ => exact q_177
    | 1, _ => exact q_179
    | 2, _ => exact q_181
    | 3, _ => exact q_183
    | 4, _ => exact q_185
    | 5, _ => exact q_187
    | 6, _ => exact q_189
    | n + 7, z => exact absurd z (by omega)
theorem cf_X9 : ClF 8 RX9 TX9 7 tyX9 := ⟨rfl, uw_X9, tyX9_ok, nmX9⟩
theorem uw_X10 : ∀ w ∈ u_ws RX10 TX10 23, w ∈ lwW := by
  intro w hw
  obtain ⟨k, hk, rfl⟩ := List.mem_map.mp hw
  have hk := List.mem_range.mp hk
  match k, hk with
    | 0, _ => exact q_777
    | 1, _ => exact q_779
    | 2, _ => exact q_781
    | 3, _ => exact q_783
    | 4, _ => exact q_785
    | 5, _ => exact q_787
    | 6, _ => exact q_789
    | 7, _ => exact q_791
    | 8, _ => exact q_793
    | 9, _ => exact q_795
    | 10, _ => exact q_797
    | 11, _ => exact q_799
    | 12, _ => exact q_801
    | 13, _ => exact q_803
    | 14, _ => exact q_805
    | 15, _ => exact q_807
    | 16, _ => exact q_809
    | 17, _ => exact q_811
    | 18, _ => exact q_813
    | 19, _ => exact q_815
    | 20, _ => exact q_817
    | 21, _ => exact q_819
    | 22, _ => exact q_821
    | n + 23, z => exact absurd z (by omega)
theorem cf_X10 : ClF 9 RX10 TX10 23 tyX10 := ⟨rfl, uw_X10, tyX10_ok, nmX10⟩
theorem qn_0 : ("LoanLayers", 18, (⟨"LoanLayers$Past", "<init>", "()V"⟩ : MethodName), "LoanLayers") ∈ ab_nest := List.mem_of_getElem? (i := 0) rfl
theorem qn_1 : ("LoanLayers", 29, (⟨"LoanLayers$Text", "<init>", "()V"⟩ : MethodName), "LoanLayers") ∈ ab_nest := List.mem_of_getElem? (i := 1) rfl
theorem qn_2 : ("LoanLayers", 36, (⟨"LoanLayers$Windows", "<init>", "()V"⟩ : MethodName), "LoanLayers") ∈ ab_nest := List.mem_of_getElem? (i := 2) rfl
theorem qn_3 : ("LoanLayers", 43, (⟨"LoanLayers$Layers", "<init>", "()V"⟩ : MethodName), "LoanLayers") ∈ ab_nest := List.mem_of_getElem? (i := 3) rfl
theorem qn_4 : ("LoanLayers", 50, (⟨"LoanLayers$Way", "<init>", "()V"⟩ : MethodName), "LoanLayers") ∈ ab_nest := List.mem_of_getElem? (i := 4) rfl
theorem qn_5 : ("LoanLayers$Text", 31, (⟨"LoanLayers", "within", "(III)Z"⟩ : MethodName), "LoanLayers") ∈ ab_nest := List.mem_of_getElem? (i := 5) rfl
theorem qn_6 : ("LoanLayers$World", 42, (⟨"LoanLayers", "within", "(III)Z"⟩ : MethodName), "LoanLayers") ∈ ab_nest := List.mem_of_getElem? (i := 6) rfl
theorem qn_7 : ("LoanLayers$Text", 126, (⟨"LoanLayers", "pairOf", "(II)I"⟩ : MethodName), "LoanLayers") ∈ ab_nest := List.mem_of_getElem? (i := 7) rfl
theorem qn_8 : ("LoanLayers$Past", 21, (⟨"LoanLayers", "within", "(III)Z"⟩ : MethodName), "LoanLayers") ∈ ab_nest := List.mem_of_getElem? (i := 8) rfl
theorem qn_9 : ("LoanLayers$Windows", 30, (⟨"LoanLayers", "pairOf", "(II)I"⟩ : MethodName), "LoanLayers") ∈ ab_nest := List.mem_of_getElem? (i := 9) rfl
theorem qn_10 : ("LoanLayers$Windows", 73, (⟨"LoanLayers", "within", "(III)Z"⟩ : MethodName), "LoanLayers") ∈ ab_nest := List.mem_of_getElem? (i := 10) rfl
theorem qn_11 : ("LoanLayers$Layers", 66, (⟨"LoanLayers", "within", "(III)Z"⟩ : MethodName), "LoanLayers") ∈ ab_nest := List.mem_of_getElem? (i := 11) rfl
theorem qn_12 : ("LoanLayers$Way", 63, (⟨"LoanLayers", "isDate", "(I)Z"⟩ : MethodName), "LoanLayers") ∈ ab_nest := List.mem_of_getElem? (i := 12) rfl
theorem qn_13 : ("LoanLayers$Way", 70, (⟨"LoanLayers", "isTongue", "(I)Z"⟩ : MethodName), "LoanLayers") ∈ ab_nest := List.mem_of_getElem? (i := 13) rfl
theorem qn_14 : ("LoanLayers$Way", 50, (⟨"LoanLayers", "within", "(III)Z"⟩ : MethodName), "LoanLayers") ∈ ab_nest := List.mem_of_getElem? (i := 14) rfl
theorem qn_15 : ("LoanLayers$Way", 103, (⟨"LoanLayers", "pairOf", "(II)I"⟩ : MethodName), "LoanLayers") ∈ ab_nest := List.mem_of_getElem? (i := 15) rfl
end
section
theorem Vx.pad {d : Nat} {md : AbM} {bc bs pc : Nat} {ls : List (Option AbV)} {st : List AbV} {h : AbH} {K : Option AbV → AbH → Prop} (n : Nat) (ls' : List (Option AbV)) (hs : ls ++ List.replicate n none = ls') (k : Vx d md bc bs pc ls' st h K) : Vx d md bc bs pc ls st h K := by
  subst hs
  intro l G p e R s m args below meth c H locs cells slots lsr C hL hst hls hR hlo hbc hbs
  have key : ∀ (i : Nat) (v : AbV), (ls ++ List.replicate n none)[i]? = some (some v) → ls[i]? = some (some v) := by
    intro i v hi
    by_cases hl : i < ls.length
    · rwa [List.getElem?_append_left hl] at hi
    · rw [List.getElem?_append_right (by omega)] at hi
      have := List.eq_of_mem_replicate (List.mem_of_getElem? hi)
      cases this
  refine k l G p e R s m args below meth c H locs cells slots lsr C (hL.to fun i v hi => hL.get (key i v hi)) hst (fun v hv => ?_) hR hlo hbc hbs
  obtain ⟨i, hi⟩ := List.getElem?_of_mem hv
  exact hls v (List.mem_of_getElem? (key i v hi))
def wpCV (h : AbH) (q : Option Nat) (ci : Nat) (f : Nat → Prop) : Prop := ∃ (b : Nat) (fs : List AbV), q = some b ∧ hpO h b = some (ci, fs) ∧ f b
def wpCT (h : AbH) (q : Option Nat) (f : Nat → Prop) : Prop := ∃ b j : Nat, q = some b ∧ hpS h b j ∧ f b
theorem rr_callW {d : Nat} {md : AbM} {bc bs pc pc' : Nat} {ls : List (Option AbV)} {st : List AbV} {h : AbH} {K : Option AbV → AbH → Prop} {md' : AbM} {av : List AbV} {bc' bs' i n : Nat} {K0 : Option AbV → AbH → Prop} {q : Option Nat} {ci : Nat} (mf : MdF md' n) (hd : decode (mC md) pc = .ok (.invokevirtual i, 3)) (hp : pc + 3 = pc') (hw : Cond.methodLink (mY md).cls i (mY md') ∈ lwW) (hin : Cond.instanceMethod (mY md') ∈ lwW) (hse : Cond.selects (mY md').cls (mY md') (mY md') ∈ lwW) (hci : ∃ T N, vwCl[ci]? = some ((mY md').cls, T, N)) (hlen : av.length = n) (hcs : ab_cs st ≤ 8) (hbc1 : bc' + mN md' ≤ bc) (hbs1 : bs' + mS md' ≤ bs) (hh : wpCV h q ci (fun b => Vm d md' (vR (some b) :: av) h K0)) (hK : ∀ r h', K0 r h' → Vx (d + 1) md bc' bs' pc' ls (r.toList ++ st) h' K) : Vx (d + 1) md bc bs pc ls (av.reverse ++ vR q :: st) h K := by
  obtain ⟨b, fs, rfl, hob, hh⟩ := hh
  exact rr_callV mf hd hp hw hin hse hci hob hlen hcs hbc1 hbs1 hh hK
theorem rr_callT {d : Nat} {md : AbM} {bc bs pc pc' : Nat} {ls : List (Option AbV)} {st : List AbV} {h : AbH} {K : Option AbV → AbH → Prop} {md' : AbM} {av : List AbV} {bc' bs' i n : Nat} {K0 : Option AbV → AbH → Prop} {q : Option Nat} (mf : MdF md' n) (hd : decode (mC md) pc = .ok (.invokevirtual i, 3)) (hp : pc + 3 = pc') (hw : Cond.methodLink (mY md).cls i (mY md') ∈ lwW) (hin : Cond.instanceMethod (mY md') ∈ lwW) (hse : Cond.selects (mY md').cls (mY md') (mY md') ∈ lwW) (hci : (mY md').cls = "java/lang/String") (hlen : av.length = n) (hcs : ab_cs st ≤ 8) (hbc1 : bc' + mN md' ≤ bc) (hbs1 : bs' + mS md' ≤ bs) (hh : wpCT h q (fun b => Vm d md' (vR (some b) :: av) h K0)) (hK : ∀ r h', K0 r h' → Vx (d + 1) md bc' bs' pc' ls (r.toList ++ st) h' K) : Vx (d + 1) md bc bs pc ls (av.reverse ++ vR q :: st) h K := by
  obtain ⟨b, j, rfl, hob, hh⟩ := hh
  exact rr_callVS mf hd hp hw hin hse hci hob hlen hcs hbc1 hbs1 hh hK
theorem cs_le (st : List AbV) (h : 2 * st.length ≤ 8) : ab_cs st ≤ 8 := by
  have key : ∀ l : List AbV, ab_cs l ≤ 2 * l.length := by
    intro l
    induction l with
    | nil => exact Nat.le_refl _
    | cons x t ih =>
      have h1 : ab_cs (x :: t) = (ab_cv x).category + ab_cs t := rfl
      have h2 : (ab_cv x).category ≤ 2 := by
        rcases lv_cat (ab_cv x) with e | e <;> omega
      rw [h1, List.length_cons]
      omega
  exact Nat.le_trans (key st) h
theorem rn_r (fty : FieldType) (r : Option Nat) (h : (∃ n, fty = .object n) ∨ ∃ t, fty = .array t) : narrow fty (ab_cv (vR r)) = ab_cv (vR r) := by
  rcases h with ⟨n, rfl⟩ | ⟨t, rfl⟩ <;> cases r <;> rfl
theorem rf_r (fty : FieldType) (r : Option Nat) (h : (∃ n, fty = .object n) ∨ ∃ t, fty = .array t) : fits fty (ab_cv (vR r)) = true := by
  rcases h with ⟨n, rfl⟩ | ⟨t, rfl⟩ <;> cases r <;> rfl
theorem zf_b {a : Int} (h : a = 0 ∨ a = 1) : fits .boolean (.int (Int32.ofInt a)) = true := by
  rcases h with rfl | rfl <;> rfl
theorem zn_c {a : Int} (h : 0 ≤ a ∧ a < 65536) : narrow .char (.int (Int32.ofInt a)) = .int (Int32.ofInt a) := by
  show Value.int ((Int32.ofInt a).toUInt32 % 65536).toInt32 = _
  rw [i32_c h.1 h.2]
theorem zn_y {a : Int} (h : a = 0) : narrow .byte (.int (Int32.ofInt a)) = .int (Int32.ofInt a) := by
  subst h; rfl
def m_X0_soundAt : AbM := (yX0_soundAt, cX0_soundAt, 3, (some (.int)), 0, 0)
theorem mf_X0_soundAt : MdF m_X0_soundAt 2 := ⟨q_521, q_15, ⟨by decide, by decide, by decide +kernel⟩, by decide⟩
def m_X0_length : AbM := (yX0_length, cX0_length, 3, (some (.int)), 0, 0)
theorem mf_X0_length : MdF m_X0_length 1 := ⟨q_574, q_15, ⟨by decide, by decide, by decide +kernel⟩, by decide⟩
def m_X0_longer : AbM := (yX0_longer, cX0_longer, 4, (some (.long)), 0, 0)
theorem mf_X0_longer : MdF m_X0_longer 3 := ⟨q_399, q_15, ⟨by decide, by decide, by decide +kernel⟩, by decide⟩
def m_X1_init : AbM := (yX1_init, cX1_init, 7, none, 0, 0)
theorem mf_X1_init : MdF m_X1_init 6 := ⟨q_330, q_14, ⟨by decide, by decide, by decide +kernel⟩, by decide⟩
def m_X1_isBefore : AbM := (yX1_isBefore, cX1_isBefore, 2, (some (.boolean)), 0, 0)
theorem mf_X1_isBefore : MdF m_X1_isBefore 1 := ⟨q_370, q_14, ⟨by decide, by decide, by decide +kernel⟩, by decide⟩
def m_X1_affects : AbM := (yX1_affects, cX1_affects, 3, (some (.boolean)), 0, 0)
theorem mf_X1_affects : MdF m_X1_affects 1 := ⟨q_673, q_14, ⟨by decide, by decide, by decide +kernel⟩, by decide⟩
def m_X1_applied : AbM := (yX1_applied, cX1_applied, 10, (some (.long)), 0, 0)
theorem mf_X1_applied : MdF m_X1_applied 1 := ⟨q_518, q_14, ⟨by decide, by decide, by decide +kernel⟩, by decide⟩
def m_X2_init : AbM := (yX2_init, cX2_init, 1, none, 4, 48)
theorem mf_X2_init : MdF m_X2_init 0 := ⟨q_123, q_6, ⟨by decide, by decide, by decide +kernel⟩, by decide⟩
def m_X2_of : AbM := (yX2_of, cX2_of, 5, (some (.object "LoanLayers$Layers")), 0, 0)
theorem mf_X2_of : MdF m_X2_of 2 := ⟨q_614, q_6, ⟨by decide, by decide, by decide +kernel⟩, by decide⟩
def m_X2_layByFirstDate : AbM := (yX2_layByFirstDate, cX2_layByFirstDate, 3, none, 0, 0)
theorem mf_X2_layByFirstDate : MdF m_X2_layByFirstDate 0 := ⟨q_622, q_6, ⟨by decide, by decide, by decide +kernel⟩, by decide⟩
def m_X2_greatestBefore : AbM := (yX2_greatestBefore, cX2_greatestBefore, 4, (some (.int)), 0, 0)
theorem mf_X2_greatestBefore : MdF m_X2_greatestBefore 1 := ⟨q_626, q_6, ⟨by decide, by decide, by decide +kernel⟩, by decide⟩
def m_X2_isOlder : AbM := (yX2_isOlder, cX2_isOlder, 3, (some (.boolean)), 0, 0)
theorem mf_X2_isOlder : MdF m_X2_isOlder 2 := ⟨q_630, q_6, ⟨by decide, by decide, by decide +kernel⟩, by decide⟩
def m_X2_layerOf : AbM := (yX2_layerOf, cX2_layerOf, 2, (some (.int)), 0, 0)
theorem mf_X2_layerOf : MdF m_X2_layerOf 1 := ⟨q_638, q_6, ⟨by decide, by decide, by decide +kernel⟩, by decide⟩
def m_X2_olderThan : AbM := (yX2_olderThan, cX2_olderThan, 4, (some (.int)), 0, 0)
theorem mf_X2_olderThan : MdF m_X2_olderThan 1 := ⟨q_642, q_6, ⟨by decide, by decide, by decide +kernel⟩, by decide⟩
def m_X2_greatest : AbM := (yX2_greatest, cX2_greatest, 6, (some (.int)), 0, 0)
theorem mf_X2_greatest : MdF m_X2_greatest 0 := ⟨q_743, q_6, ⟨by decide, by decide, by decide +kernel⟩, by decide⟩
def m_X3_init : AbM := (yX3_init, cX3_init, 7, none, 0, 0)
theorem mf_X3_init : MdF m_X3_init 4 := ⟨q_404, q_16, ⟨by decide, by decide, by decide +kernel⟩, by decide⟩
def m_X4_init : AbM := (yX4_init, cX4_init, 1, none, 1, 8)
theorem mf_X4_init : MdF m_X4_init 0 := ⟨q_63, q_3, ⟨by decide, by decide, by decide +kernel⟩, by decide⟩
def m_X4_add : AbM := (yX4_add, cX4_add, 3, none, 0, 0)
theorem mf_X4_add : MdF m_X4_add 1 := ⟨q_463, q_3, ⟨by decide, by decide, by decide +kernel⟩, by decide⟩
def m_X4_latest : AbM := (yX4_latest, cX4_latest, 1, (some (.object "LoanLayers$World")), 0, 0)
theorem mf_X4_latest : MdF m_X4_latest 0 := ⟨q_542, q_3, ⟨by decide, by decide, by decide +kernel⟩, by decide⟩
def m_X4_forgetLatest : AbM := (yX4_forgetLatest, cX4_forgetLatest, 1, none, 0, 0)
theorem mf_X4_forgetLatest : MdF m_X4_forgetLatest 0 := ⟨q_547, q_3, ⟨by decide, by decide, by decide +kernel⟩, by decide⟩
def m_X4_clear : AbM := (yX4_clear, cX4_clear, 1, none, 0, 0)
theorem mf_X4_clear : MdF m_X4_clear 0 := ⟨q_444, q_3, ⟨by decide, by decide, by decide +kernel⟩, by decide⟩
def m_X5_init : AbM := (yX5_init, cX5_init, 1, none, 1, 200)
theorem mf_X5_init : MdF m_X5_init 0 := ⟨q_79, q_4, ⟨by decide, by decide, by decide +kernel⟩, by decide⟩
def m_X5_append : AbM := (yX5_append, cX5_append, 2, none, 0, 0)
theorem mf_X5_append : MdF m_X5_append 1 := ⟨q_202, q_4, ⟨by decide, by decide, by decide +kernel⟩, by decide⟩
def m_X5_clear : AbM := (yX5_clear, cX5_clear, 1, none, 0, 0)
theorem mf_X5_clear : MdF m_X5_clear 0 := ⟨q_211, q_4, ⟨by decide, by decide, by decide +kernel⟩, by decide⟩
def m_X5_read : AbM := (yX5_read, cX5_read, 3, (some (.int)), 24, 144)
theorem mf_X5_read : MdF m_X5_read 1 := ⟨q_230, q_4, ⟨by decide, by decide, by decide +kernel⟩, by decide⟩
def m_X5_readClause : AbM := (yX5_readClause, cX5_readClause, 2, (some (.boolean)), 1, 6)
theorem mf_X5_readClause : MdF m_X5_readClause 1 := ⟨q_248, q_4, ⟨by decide, by decide, by decide +kernel⟩, by decide⟩
def m_X5_readLaw : AbM := (yX5_readLaw, cX5_readLaw, 8, (some (.boolean)), 1, 6)
theorem mf_X5_readLaw : MdF m_X5_readLaw 1 := ⟨q_305, q_4, ⟨by decide, by decide, by decide +kernel⟩, by decide⟩
def m_X5_readMeeting : AbM := (yX5_readMeeting, cX5_readMeeting, 5, (some (.boolean)), 0, 0)
theorem mf_X5_readMeeting : MdF m_X5_readMeeting 1 := ⟨q_375, q_4, ⟨by decide, by decide, by decide +kernel⟩, by decide⟩
def m_X5_readLoan : AbM := (yX5_readLoan, cX5_readLoan, 7, (some (.boolean)), 1, 4)
theorem mf_X5_readLoan : MdF m_X5_readLoan 1 := ⟨q_391, q_4, ⟨by decide, by decide, by decide +kernel⟩, by decide⟩
def m_X5_readPair : AbM := (yX5_readPair, cX5_readPair, 3, (some (.int)), 0, 0)
theorem mf_X5_readPair : MdF m_X5_readPair 0 := ⟨q_379, q_4, ⟨by decide, by decide, by decide +kernel⟩, by decide⟩
def m_X5_number : AbM := (yX5_number, cX5_number, 5, (some (.int)), 0, 0)
theorem mf_X5_number : MdF m_X5_number 2 := ⟨q_309, q_4, ⟨by decide, by decide, by decide +kernel⟩, by decide⟩
def m_X5_letter : AbM := (yX5_letter, cX5_letter, 1, (some (.int)), 0, 0)
theorem mf_X5_letter : MdF m_X5_letter 0 := ⟨q_317, q_4, ⟨by decide, by decide, by decide +kernel⟩, by decide⟩
def m_X5_form : AbM := (yX5_form, cX5_form, 5, (some (.long)), 0, 0)
theorem mf_X5_form : MdF m_X5_form 1 := ⟨q_395, q_4, ⟨by decide, by decide, by decide +kernel⟩, by decide⟩
def m_X5_environment : AbM := (yX5_environment, cX5_environment, 1, (some (.int)), 0, 0)
theorem mf_X5_environment : MdF m_X5_environment 0 := ⟨q_325, q_4, ⟨by decide, by decide, by decide +kernel⟩, by decide⟩
def m_X5_isSign : AbM := (yX5_isSign, cX5_isSign, 2, (some (.boolean)), 0, 0)
theorem mf_X5_isSign : MdF m_X5_isSign 1 := ⟨q_321, q_4, ⟨by decide, by decide, by decide +kernel⟩, by decide⟩
def m_X5_isWord : AbM := (yX5_isWord, cX5_isWord, 3, (some (.boolean)), 0, 0)
theorem mf_X5_isWord : MdF m_X5_isWord 1 := ⟨q_253, q_4, ⟨by decide, by decide, by decide +kernel⟩, by decide⟩
def m_X5_advance : AbM := (yX5_advance, cX5_advance, 1, none, 0, 0)
theorem mf_X5_advance : MdF m_X5_advance 0 := ⟨q_234, q_4, ⟨by decide, by decide, by decide +kernel⟩, by decide⟩
def m_X5_kindOf : AbM := (yX5_kindOf, cX5_kindOf, 1, (some (.int)), 0, 0)
theorem mf_X5_kindOf : MdF m_X5_kindOf 1 := ⟨q_244, q_4, ⟨by decide, by decide, by decide +kernel⟩, by decide⟩
def m_X5_byteAt : AbM := (yX5_byteAt, cX5_byteAt, 2, (some (.int)), 0, 0)
theorem mf_X5_byteAt : MdF m_X5_byteAt 1 := ⟨q_238, q_4, ⟨by decide, by decide, by decide +kernel⟩, by decide⟩
def m_X6_init : AbM := (yX6_init, cX6_init, 1, none, 4, 515)
theorem mf_X6_init : MdF m_X6_init 0 := ⟨q_142, q_7, ⟨by decide, by decide, by decide +kernel⟩, by decide⟩
def m_X6_find : AbM := (yX6_find, cX6_find, 9, none, 0, 0)
theorem mf_X6_find : MdF m_X6_find 5 := ⟨q_687, q_7, ⟨by decide, by decide, by decide +kernel⟩, by decide⟩
def m_X6_stepAt : AbM := (yX6_stepAt, cX6_stepAt, 2, (some (.int)), 0, 0)
theorem mf_X6_stepAt : MdF m_X6_stepAt 1 := ⟨q_731, q_7, ⟨by decide, by decide, by decide +kernel⟩, by decide⟩
def m_X6_prepare : AbM := (yX6_prepare, cX6_prepare, 4, none, 0, 0)
theorem mf_X6_prepare : MdF m_X6_prepare 1 := ⟨q_691, q_7, ⟨by decide, by decide, by decide +kernel⟩, by decide⟩
def m_X6_leads : AbM := (yX6_leads, cX6_leads, 10, (some (.boolean)), 0, 0)
theorem mf_X6_leads : MdF m_X6_leads 5 := ⟨q_699, q_7, ⟨by decide, by decide, by decide +kernel⟩, by decide⟩
def m_X6_branches : AbM := (yX6_branches, cX6_branches, 9, (some (.boolean)), 0, 0)
theorem mf_X6_branches : MdF m_X6_branches 5 := ⟨q_707, q_7, ⟨by decide, by decide, by decide +kernel⟩, by decide⟩
def m_X6_ageTried : AbM := (yX6_ageTried, cX6_ageTried, 5, none, 0, 0)
theorem mf_X6_ageTried : MdF m_X6_ageTried 2 := ⟨q_727, q_7, ⟨by decide, by decide, by decide +kernel⟩, by decide⟩
def m_X6_isBusy : AbM := (yX6_isBusy, cX6_isBusy, 2, (some (.boolean)), 0, 0)
theorem mf_X6_isBusy : MdF m_X6_isBusy 1 := ⟨q_718, q_7, ⟨by decide, by decide, by decide +kernel⟩, by decide⟩
def m_X6_changed : AbM := (yX6_changed, cX6_changed, 6, (some (.long)), 0, 0)
theorem mf_X6_changed : MdF m_X6_changed 3 := ⟨q_722, q_7, ⟨by decide, by decide, by decide +kernel⟩, by decide⟩
def m_X7_init : AbM := (yX7_init, cX7_init, 1, none, 2, 34)
theorem mf_X7_init : MdF m_X7_init 0 := ⟨q_106, q_5, ⟨by decide, by decide, by decide +kernel⟩, by decide⟩
def m_X7_of : AbM := (yX7_of, cX7_of, 9, (some (.object "LoanLayers$Windows")), 0, 0)
theorem mf_X7_of : MdF m_X7_of 2 := ⟨q_579, q_5, ⟨by decide, by decide, by decide +kernel⟩, by decide⟩
def m_X7_add : AbM := (yX7_add, cX7_add, 3, none, 0, 0)
theorem mf_X7_add : MdF m_X7_add 2 := ⟨q_589, q_5, ⟨by decide, by decide, by decide +kernel⟩, by decide⟩
def m_X7_firstOf : AbM := (yX7_firstOf, cX7_firstOf, 2, (some (.int)), 0, 0)
theorem mf_X7_firstOf : MdF m_X7_firstOf 1 := ⟨q_606, q_5, ⟨by decide, by decide, by decide +kernel⟩, by decide⟩
def m_X7_lastOf : AbM := (yX7_lastOf, cX7_lastOf, 2, (some (.int)), 0, 0)
theorem mf_X7_lastOf : MdF m_X7_lastOf 1 := ⟨q_593, q_5, ⟨by decide, by decide, by decide +kernel⟩, by decide⟩
def m_X7_earliest : AbM := (yX7_earliest, cX7_earliest, 1, (some (.int)), 0, 0)
theorem mf_X7_earliest : MdF m_X7_earliest 0 := ⟨q_602, q_5, ⟨by decide, by decide, by decide +kernel⟩, by decide⟩
def m_X7_latest : AbM := (yX7_latest, cX7_latest, 1, (some (.int)), 0, 0)
theorem mf_X7_latest : MdF m_X7_latest 0 := ⟨q_610, q_5, ⟨by decide, by decide, by decide +kernel⟩, by decide⟩
def m_X7_kind : AbM := (yX7_kind, cX7_kind, 1, (some (.int)), 0, 0)
theorem mf_X7_kind : MdF m_X7_kind 0 := ⟨q_598, q_5, ⟨by decide, by decide, by decide +kernel⟩, by decide⟩
def m_X8_init : AbM := (yX8_init, cX8_init, 2, none, 4, 60)
theorem mf_X8_init : MdF m_X8_init 0 := ⟨q_29, q_2, ⟨by decide, by decide, by decide +kernel⟩, by decide⟩
def m_X8_copy : AbM := (yX8_copy, cX8_copy, 3, (some (.object "LoanLayers$World")), 5, 66)
theorem mf_X8_copy : MdF m_X8_copy 0 := ⟨q_219, q_2, ⟨by decide, by decide, by decide +kernel⟩, by decide⟩
def m_X8_clear : AbM := (yX8_clear, cX8_clear, 2, none, 0, 0)
theorem mf_X8_clear : MdF m_X8_clear 0 := ⟨q_436, q_2, ⟨by decide, by decide, by decide +kernel⟩, by decide⟩
def m_X8_lawAt : AbM := (yX8_lawAt, cX8_lawAt, 2, (some (.object "LoanLayers$Law")), 0, 0)
theorem mf_X8_lawAt : MdF m_X8_lawAt 1 := ⟨q_471, q_2, ⟨by decide, by decide, by decide +kernel⟩, by decide⟩
def m_X8_hasLaw : AbM := (yX8_hasLaw, cX8_hasLaw, 7, (some (.boolean)), 0, 0)
theorem mf_X8_hasLaw : MdF m_X8_hasLaw 2 := ⟨q_313, q_2, ⟨by decide, by decide, by decide +kernel⟩, by decide⟩
def m_X8_lawsOf : AbM := (yX8_lawsOf, cX8_lawsOf, 7, (some (.int)), 0, 0)
theorem mf_X8_lawsOf : MdF m_X8_lawsOf 1 := ⟨q_747, q_2, ⟨by decide, by decide, by decide +kernel⟩, by decide⟩
def m_X8_addLaw : AbM := (yX8_addLaw, cX8_addLaw, 3, (some (.int)), 0, 0)
theorem mf_X8_addLaw : MdF m_X8_addLaw 1 := ⟨q_366, q_2, ⟨by decide, by decide, by decide +kernel⟩, by decide⟩
def m_X8_removeLaw : AbM := (yX8_removeLaw, cX8_removeLaw, 3, none, 0, 0)
theorem mf_X8_removeLaw : MdF m_X8_removeLaw 1 := ⟨q_475, q_2, ⟨by decide, by decide, by decide +kernel⟩, by decide⟩
def m_X8_firstOf : AbM := (yX8_firstOf, cX8_firstOf, 2, (some (.int)), 0, 0)
theorem mf_X8_firstOf : MdF m_X8_firstOf 1 := ⟨q_497, q_2, ⟨by decide, by decide, by decide +kernel⟩, by decide⟩
def m_X8_lastOf : AbM := (yX8_lastOf, cX8_lastOf, 2, (some (.int)), 0, 0)
theorem mf_X8_lastOf : MdF m_X8_lastOf 1 := ⟨q_567, q_2, ⟨by decide, by decide, by decide +kernel⟩, by decide⟩
def m_X8_setMeeting : AbM := (yX8_setMeeting, cX8_setMeeting, 4, none, 0, 0)
theorem mf_X8_setMeeting : MdF m_X8_setMeeting 3 := ⟨q_225, q_2, ⟨by decide, by decide, by decide +kernel⟩, by decide⟩
def m_X8_meetings : AbM := (yX8_meetings, cX8_meetings, 6, (some (.int)), 0, 0)
theorem mf_X8_meetings : MdF m_X8_meetings 0 := ⟨q_489, q_2, ⟨by decide, by decide, by decide +kernel⟩, by decide⟩
def m_X8_isMeeting : AbM := (yX8_isMeeting, cX8_isMeeting, 3, (some (.boolean)), 0, 0)
theorem mf_X8_isMeeting : MdF m_X8_isMeeting 2 := ⟨q_712, q_2, ⟨by decide, by decide, by decide +kernel⟩, by decide⟩
def m_X8_loanAt : AbM := (yX8_loanAt, cX8_loanAt, 2, (some (.object "LoanLayers$Loan")), 0, 0)
theorem mf_X8_loanAt : MdF m_X8_loanAt 1 := ⟨q_505, q_2, ⟨by decide, by decide, by decide +kernel⟩, by decide⟩
def m_X8_addLoan : AbM := (yX8_addLoan, cX8_addLoan, 2, none, 0, 0)
theorem mf_X8_addLoan : MdF m_X8_addLoan 1 := ⟨q_431, q_2, ⟨by decide, by decide, by decide +kernel⟩, by decide⟩
def m_X8_removeLoan : AbM := (yX8_removeLoan, cX8_removeLoan, 3, none, 0, 0)
theorem mf_X8_removeLoan : MdF m_X8_removeLoan 1 := ⟨q_533, q_2, ⟨by decide, by decide, by decide +kernel⟩, by decide⟩
def m_X8_developed : AbM := (yX8_developed, cX8_developed, 12, (some (.long)), 0, 0)
theorem mf_X8_developed : MdF m_X8_developed 4 := ⟨q_514, q_2, ⟨by decide, by decide, by decide +kernel⟩, by decide⟩
def m_X8_borrowed : AbM := (yX8_borrowed, cX8_borrowed, 6, (some (.long)), 0, 0)
theorem mf_X8_borrowed : MdF m_X8_borrowed 4 := ⟨q_510, q_2, ⟨by decide, by decide, by decide +kernel⟩, by decide⟩
def m_X9_init : AbM := (yX9_init, cX9_init, 1, none, 23, 895)
theorem mf_X9_init : MdF m_X9_init 0 := ⟨q_21, q_1, ⟨by decide, by decide, by decide +kernel⟩, by decide⟩
def m_X9_type : AbM := (yX9_type, cX9_type, 2, (some (.int)), 0, 0)
theorem mf_X9_type : MdF m_X9_type 1 := ⟨q_195, q_1, ⟨by decide, by decide, by decide +kernel⟩, by decide⟩
def m_X9_erase : AbM := (yX9_erase, cX9_erase, 2, (some (.int)), 0, 0)
theorem mf_X9_erase : MdF m_X9_erase 0 := ⟨q_207, q_1, ⟨by decide, by decide, by decide +kernel⟩, by decide⟩
def m_X9_fault : AbM := (yX9_fault, cX9_fault, 1, (some (.int)), 29, 210)
theorem mf_X9_fault : MdF m_X9_fault 0 := ⟨q_215, q_1, ⟨by decide, by decide, by decide +kernel⟩, by decide⟩
def m_X9_tell : AbM := (yX9_tell, cX9_tell, 2, (some (.int)), 29, 210)
theorem mf_X9_tell : MdF m_X9_tell 0 := ⟨q_440, q_1, ⟨by decide, by decide, by decide +kernel⟩, by decide⟩
def m_X9_law : AbM := (yX9_law, cX9_law, 9, (some (.int)), 6, 72)
theorem mf_X9_law : MdF m_X9_law 6 := ⟨q_448, q_1, ⟨by decide, by decide, by decide +kernel⟩, by decide⟩
def m_X9_repeal : AbM := (yX9_repeal, cX9_repeal, 3, (some (.int)), 5, 66)
theorem mf_X9_repeal : MdF m_X9_repeal 1 := ⟨q_467, q_1, ⟨by decide, by decide, by decide +kernel⟩, by decide⟩
def m_X9_meet : AbM := (yX9_meet, cX9_meet, 7, (some (.int)), 5, 66)
theorem mf_X9_meet : MdF m_X9_meet 4 := ⟨q_480, q_1, ⟨by decide, by decide, by decide +kernel⟩, by decide⟩
def m_X9_part : AbM := (yX9_part, cX9_part, 5, (some (.int)), 5, 66)
theorem mf_X9_part : MdF m_X9_part 2 := ⟨q_493, q_1, ⟨by decide, by decide, by decide +kernel⟩, by decide⟩
def m_X9_lend : AbM := (yX9_lend, cX9_lend, 7, (some (.int)), 6, 70)
theorem mf_X9_lend : MdF m_X9_lend 4 := ⟨q_501, q_1, ⟨by decide, by decide, by decide +kernel⟩, by decide⟩
def m_X9_drop : AbM := (yX9_drop, cX9_drop, 3, (some (.int)), 5, 66)
theorem mf_X9_drop : MdF m_X9_drop 1 := ⟨q_529, q_1, ⟨by decide, by decide, by decide +kernel⟩, by decide⟩
def m_X9_undo : AbM := (yX9_undo, cX9_undo, 2, (some (.int)), 0, 0)
theorem mf_X9_undo : MdF m_X9_undo 0 := ⟨q_538, q_1, ⟨by decide, by decide, by decide +kernel⟩, by decide⟩
def m_X9_keep : AbM := (yX9_keep, cX9_keep, 2, (some (.int)), 0, 0)
theorem mf_X9_keep : MdF m_X9_keep 1 := ⟨q_551, q_1, ⟨by decide, by decide, by decide +kernel⟩, by decide⟩
def m_X9_back : AbM := (yX9_back, cX9_back, 3, (some (.int)), 0, 0)
theorem mf_X9_back : MdF m_X9_back 1 := ⟨q_555, q_1, ⟨by decide, by decide, by decide +kernel⟩, by decide⟩
def m_X9_act : AbM := (yX9_act, cX9_act, 2, none, 0, 0)
theorem mf_X9_act : MdF m_X9_act 1 := ⟨q_459, q_1, ⟨by decide, by decide, by decide +kernel⟩, by decide⟩
def m_X9_told : AbM := (yX9_told, cX9_told, 4, (some (.int)), 0, 0)
theorem mf_X9_told : MdF m_X9_told 2 := ⟨q_559, q_1, ⟨by decide, by decide, by decide +kernel⟩, by decide⟩
def m_X9_meeting : AbM := (yX9_meeting, cX9_meeting, 5, (some (.int)), 0, 0)
theorem mf_X9_meeting : MdF m_X9_meeting 3 := ⟨q_563, q_1, ⟨by decide, by decide, by decide +kernel⟩, by decide⟩
def m_X9_loan : AbM := (yX9_loan, cX9_loan, 4, (some (.int)), 0, 0)
theorem mf_X9_loan : MdF m_X9_loan 2 := ⟨q_571, q_1, ⟨by decide, by decide, by decide +kernel⟩, by decide⟩
def m_X9_sound : AbM := (yX9_sound, cX9_sound, 6, (some (.int)), 0, 0)
theorem mf_X9_sound : MdF m_X9_sound 3 := ⟨q_646, q_1, ⟨by decide, by decide, by decide +kernel⟩, by decide⟩
def m_X9_window : AbM := (yX9_window, cX9_window, 6, (some (.int)), 0, 0)
theorem mf_X9_window : MdF m_X9_window 3 := ⟨q_651, q_1, ⟨by decide, by decide, by decide +kernel⟩, by decide⟩
def m_X9_taken : AbM := (yX9_taken, cX9_taken, 5, (some (.int)), 0, 0)
theorem mf_X9_taken : MdF m_X9_taken 3 := ⟨q_657, q_1, ⟨by decide, by decide, by decide +kernel⟩, by decide⟩
def m_X9_gone : AbM := (yX9_gone, cX9_gone, 7, (some (.int)), 0, 0)
theorem mf_X9_gone : MdF m_X9_gone 5 := ⟨q_664, q_1, ⟨by decide, by decide, by decide +kernel⟩, by decide⟩
def m_X9_did : AbM := (yX9_did, cX9_did, 8, (some (.int)), 0, 0)
theorem mf_X9_did : MdF m_X9_did 3 := ⟨q_669, q_1, ⟨by decide, by decide, by decide +kernel⟩, by decide⟩
def m_X9_older : AbM := (yX9_older, cX9_older, 3, (some (.int)), 0, 0)
theorem mf_X9_older : MdF m_X9_older 2 := ⟨q_678, q_1, ⟨by decide, by decide, by decide +kernel⟩, by decide⟩
def m_X9_road : AbM := (yX9_road, cX9_road, 8, (some (.int)), 0, 0)
theorem mf_X9_road : MdF m_X9_road 5 := ⟨q_683, q_1, ⟨by decide, by decide, by decide +kernel⟩, by decide⟩
def m_X9_count : AbM := (yX9_count, cX9_count, 2, (some (.int)), 0, 0)
theorem mf_X9_count : MdF m_X9_count 1 := ⟨q_735, q_1, ⟨by decide, by decide, by decide +kernel⟩, by decide⟩
def m_X9_loansOfKind : AbM := (yX9_loansOfKind, cX9_loansOfKind, 5, (some (.int)), 0, 0)
theorem mf_X9_loansOfKind : MdF m_X9_loansOfKind 1 := ⟨q_739, q_1, ⟨by decide, by decide, by decide +kernel⟩, by decide⟩
def m_X9_soundOrNumber : AbM := (yX9_soundOrNumber, cX9_soundOrNumber, 4, (some (.int)), 0, 0)
theorem mf_X9_soundOrNumber : MdF m_X9_soundOrNumber 2 := ⟨q_660, q_1, ⟨by decide, by decide, by decide +kernel⟩, by decide⟩
def m_X9_within : AbM := (yX9_within, cX9_within, 3, (some (.boolean)), 0, 0)
theorem mf_X9_within : MdF m_X9_within 3 := ⟨q_198, q_1, ⟨by decide, by decide, by decide +kernel⟩, by decide⟩
def m_X9_isTongue : AbM := (yX9_isTongue, cX9_isTongue, 1, (some (.boolean)), 0, 0)
theorem mf_X9_isTongue : MdF m_X9_isTongue 1 := ⟨q_385, q_1, ⟨by decide, by decide, by decide +kernel⟩, by decide⟩
def m_X9_isDate : AbM := (yX9_isDate, cX9_isDate, 1, (some (.boolean)), 0, 0)
theorem mf_X9_isDate : MdF m_X9_isDate 1 := ⟨q_484, q_1, ⟨by decide, by decide, by decide +kernel⟩, by decide⟩
def m_X9_isSound : AbM := (yX9_isSound, cX9_isSound, 1, (some (.boolean)), 0, 0)
theorem mf_X9_isSound : MdF m_X9_isSound 1 := ⟨q_451, q_1, ⟨by decide, by decide, by decide +kernel⟩, by decide⟩
def m_X9_pairOf : AbM := (yX9_pairOf, cX9_pairOf, 2, (some (.int)), 0, 0)
theorem mf_X9_pairOf : MdF m_X9_pairOf 2 := ⟨q_382, q_1, ⟨by decide, by decide, by decide +kernel⟩, by decide⟩
def m_X10_init : AbM := (yX10_init, cX10_init, 1, none, 13, 5057)
theorem mf_X10_init : MdF m_X10_init 0 := ⟨q_752, q_8, ⟨by decide, by decide, by decide +kernel⟩, by decide⟩
def m_X10_in : AbM := (yX10_in, cX10_in, 6, (some (.boolean)), 0, 0)
theorem mf_X10_in : MdF m_X10_in 3 := ⟨q_831, q_8, ⟨by decide, by decide, by decide +kernel⟩, by decide⟩
def m_X10_isTongue : AbM := (yX10_isTongue, cX10_isTongue, 1, (some (.boolean)), 0, 0)
theorem mf_X10_isTongue : MdF m_X10_isTongue 1 := ⟨q_935, q_8, ⟨by decide, by decide, by decide +kernel⟩, by decide⟩
def m_X10_areTongues : AbM := (yX10_areTongues, cX10_areTongues, 2, (some (.boolean)), 0, 0)
theorem mf_X10_areTongues : MdF m_X10_areTongues 2 := ⟨q_966, q_8, ⟨by decide, by decide, by decide +kernel⟩, by decide⟩
def m_X10_isLaw : AbM := (yX10_isLaw, cX10_isLaw, 2, (some (.boolean)), 0, 0)
theorem mf_X10_isLaw : MdF m_X10_isLaw 1 := ⟨q_959, q_8, ⟨by decide, by decide, by decide +kernel⟩, by decide⟩
def m_X10_isLoan : AbM := (yX10_isLoan, cX10_isLoan, 2, (some (.boolean)), 0, 0)
theorem mf_X10_isLoan : MdF m_X10_isLoan 1 := ⟨q_985, q_8, ⟨by decide, by decide, by decide +kernel⟩, by decide⟩
def m_X10_isDate : AbM := (yX10_isDate, cX10_isDate, 1, (some (.boolean)), 0, 0)
theorem mf_X10_isDate : MdF m_X10_isDate 1 := ⟨q_969, q_8, ⟨by decide, by decide, by decide +kernel⟩, by decide⟩
def m_X10_lawOf : AbM := (yX10_lawOf, cX10_lawOf, 3, (some (.int)), 0, 0)
theorem mf_X10_lawOf : MdF m_X10_lawOf 2 := ⟨q_851, q_8, ⟨by decide, by decide, by decide +kernel⟩, by decide⟩
def m_X10_loanAt : AbM := (yX10_loanAt, cX10_loanAt, 1, (some (.int)), 0, 0)
theorem mf_X10_loanAt : MdF m_X10_loanAt 1 := ⟨q_920, q_8, ⟨by decide, by decide, by decide +kernel⟩, by decide⟩
def m_X10_meetAt : AbM := (yX10_meetAt, cX10_meetAt, 2, (some (.int)), 0, 0)
theorem mf_X10_meetAt : MdF m_X10_meetAt 2 := ⟨q_913, q_8, ⟨by decide, by decide, by decide +kernel⟩, by decide⟩
def m_X10_meetings : AbM := (yX10_meetings, cX10_meetings, 3, (some (.int)), 0, 0)
theorem mf_X10_meetings : MdF m_X10_meetings 0 := ⟨q_973, q_8, ⟨by decide, by decide, by decide +kernel⟩, by decide⟩
def m_X10_isMet : AbM := (yX10_isMet, cX10_isMet, 5, (some (.boolean)), 0, 0)
theorem mf_X10_isMet : MdF m_X10_isMet 3 := ⟨q_1054, q_8, ⟨by decide, by decide, by decide +kernel⟩, by decide⟩
def m_X10_type : AbM := (yX10_type, cX10_type, 2, (some (.int)), 0, 0)
theorem mf_X10_type : MdF m_X10_type 1 := ⟨q_827, q_8, ⟨by decide, by decide, by decide +kernel⟩, by decide⟩
def m_X10_erase : AbM := (yX10_erase, cX10_erase, 2, (some (.int)), 0, 0)
theorem mf_X10_erase : MdF m_X10_erase 0 := ⟨q_835, q_8, ⟨by decide, by decide, by decide +kernel⟩, by decide⟩
def m_X10_isSmall : AbM := (yX10_isSmall, cX10_isSmall, 1, (some (.boolean)), 0, 0)
theorem mf_X10_isSmall : MdF m_X10_isSmall 1 := ⟨q_858, q_8, ⟨by decide, by decide, by decide +kernel⟩, by decide⟩
def m_X10_isDigit : AbM := (yX10_isDigit, cX10_isDigit, 1, (some (.boolean)), 0, 0)
theorem mf_X10_isDigit : MdF m_X10_isDigit 1 := ⟨q_863, q_8, ⟨by decide, by decide, by decide +kernel⟩, by decide⟩
def m_X10_nextToken : AbM := (yX10_nextToken, cX10_nextToken, 1, none, 0, 0)
theorem mf_X10_nextToken : MdF m_X10_nextToken 0 := ⟨q_855, q_8, ⟨by decide, by decide, by decide +kernel⟩, by decide⟩
def m_X10_wordHere : AbM := (yX10_wordHere, cX10_wordHere, 4, (some (.int)), 0, 0)
theorem mf_X10_wordHere : MdF m_X10_wordHere 0 := ⟨q_873, q_8, ⟨by decide, by decide, by decide +kernel⟩, by decide⟩
def m_X10_numberHere : AbM := (yX10_numberHere, cX10_numberHere, 3, (some (.int)), 0, 0)
theorem mf_X10_numberHere : MdF m_X10_numberHere 0 := ⟨q_885, q_8, ⟨by decide, by decide, by decide +kernel⟩, by decide⟩
def m_X10_number : AbM := (yX10_number, cX10_number, 6, (some (.boolean)), 0, 0)
theorem mf_X10_number : MdF m_X10_number 4 := ⟨q_881, q_8, ⟨by decide, by decide, by decide +kernel⟩, by decide⟩
def m_X10_isSign : AbM := (yX10_isSign, cX10_isSign, 2, (some (.boolean)), 0, 0)
theorem mf_X10_isSign : MdF m_X10_isSign 1 := ⟨q_898, q_8, ⟨by decide, by decide, by decide +kernel⟩, by decide⟩
def m_X10_readsSound : AbM := (yX10_readsSound, cX10_readsSound, 3, (some (.boolean)), 0, 0)
theorem mf_X10_readsSound : MdF m_X10_readsSound 2 := ⟨q_890, q_8, ⟨by decide, by decide, by decide +kernel⟩, by decide⟩
def m_X10_lostOrSound : AbM := (yX10_lostOrSound, cX10_lostOrSound, 3, (some (.boolean)), 0, 0)
theorem mf_X10_lostOrSound : MdF m_X10_lostOrSound 2 := ⟨q_894, q_8, ⟨by decide, by decide, by decide +kernel⟩, by decide⟩
def m_X10_where : AbM := (yX10_where, cX10_where, 1, (some (.boolean)), 0, 0)
theorem mf_X10_where : MdF m_X10_where 0 := ⟨q_902, q_8, ⟨by decide, by decide, by decide +kernel⟩, by decide⟩
def m_X10_readsLaw : AbM := (yX10_readsLaw, cX10_readsLaw, 2, (some (.boolean)), 0, 0)
theorem mf_X10_readsLaw : MdF m_X10_readsLaw 0 := ⟨q_877, q_8, ⟨by decide, by decide, by decide +kernel⟩, by decide⟩
def m_X10_readsMeet : AbM := (yX10_readsMeet, cX10_readsMeet, 1, (some (.boolean)), 0, 0)
theorem mf_X10_readsMeet : MdF m_X10_readsMeet 0 := ⟨q_910, q_8, ⟨by decide, by decide, by decide +kernel⟩, by decide⟩
def m_X10_rowOf : AbM := (yX10_rowOf, cX10_rowOf, 5, (some (.int)), 0, 0)
theorem mf_X10_rowOf : MdF m_X10_rowOf 2 := ⟨q_924, q_8, ⟨by decide, by decide, by decide +kernel⟩, by decide⟩
def m_X10_readsLoan : AbM := (yX10_readsLoan, cX10_readsLoan, 4, (some (.boolean)), 0, 0)
theorem mf_X10_readsLoan : MdF m_X10_readsLoan 0 := ⟨q_917, q_8, ⟨by decide, by decide, by decide +kernel⟩, by decide⟩
def m_X10_readsAll : AbM := (yX10_readsAll, cX10_readsAll, 2, (some (.boolean)), 0, 0)
theorem mf_X10_readsAll : MdF m_X10_readsAll 0 := ⟨q_847, q_8, ⟨by decide, by decide, by decide +kernel⟩, by decide⟩
def m_X10_readsClause : AbM := (yX10_readsClause, cX10_readsClause, 2, (some (.boolean)), 0, 0)
theorem mf_X10_readsClause : MdF m_X10_readsClause 0 := ⟨q_869, q_8, ⟨by decide, by decide, by decide +kernel⟩, by decide⟩
def m_X10_reads : AbM := (yX10_reads, cX10_reads, 3, (some (.boolean)), 0, 0)
theorem mf_X10_reads : MdF m_X10_reads 1 := ⟨q_843, q_8, ⟨by decide, by decide, by decide +kernel⟩, by decide⟩
def m_X10_fault : AbM := (yX10_fault, cX10_fault, 1, (some (.int)), 0, 0)
theorem mf_X10_fault : MdF m_X10_fault 0 := ⟨q_839, q_8, ⟨by decide, by decide, by decide +kernel⟩, by decide⟩
def m_X10_tell : AbM := (yX10_tell, cX10_tell, 1, (some (.int)), 0, 0)
theorem mf_X10_tell : MdF m_X10_tell 0 := ⟨q_928, q_8, ⟨by decide, by decide, by decide +kernel⟩, by decide⟩
def m_X10_takesWord : AbM := (yX10_takesWord, cX10_takesWord, 3, none, 0, 0)
theorem mf_X10_takesWord : MdF m_X10_takesWord 1 := ⟨q_993, q_8, ⟨by decide, by decide, by decide +kernel⟩, by decide⟩
def m_X10_isWhere : AbM := (yX10_isWhere, cX10_isWhere, 5, (some (.boolean)), 0, 0)
theorem mf_X10_isWhere : MdF m_X10_isWhere 3 := ⟨q_1005, q_8, ⟨by decide, by decide, by decide +kernel⟩, by decide⟩
def m_X10_hits : AbM := (yX10_hits, cX10_hits, 7, (some (.boolean)), 0, 0)
theorem mf_X10_hits : MdF m_X10_hits 1 := ⟨q_1001, q_8, ⟨by decide, by decide, by decide +kernel⟩, by decide⟩
def m_X10_goes : AbM := (yX10_goes, cX10_goes, 5, none, 0, 0)
theorem mf_X10_goes : MdF m_X10_goes 3 := ⟨q_997, q_8, ⟨by decide, by decide, by decide +kernel⟩, by decide⟩
def m_X10_takes : AbM := (yX10_takes, cX10_takes, 5, none, 0, 0)
theorem mf_X10_takes : MdF m_X10_takes 4 := ⟨q_989, q_8, ⟨by decide, by decide, by decide +kernel⟩, by decide⟩
def m_X10_isEnd : AbM := (yX10_isEnd, cX10_isEnd, 5, (some (.boolean)), 0, 0)
theorem mf_X10_isEnd : MdF m_X10_isEnd 1 := ⟨q_1058, q_8, ⟨by decide, by decide, by decide +kernel⟩, by decide⟩
def m_X10_fits : AbM := (yX10_fits, cX10_fits, 5, (some (.boolean)), 0, 0)
theorem mf_X10_fits : MdF m_X10_fits 2 := ⟨q_1050, q_8, ⟨by decide, by decide, by decide +kernel⟩, by decide⟩
def m_X10_windowOf : AbM := (yX10_windowOf, cX10_windowOf, 8, (some (.int)), 0, 0)
theorem mf_X10_windowOf : MdF m_X10_windowOf 3 := ⟨q_1046, q_8, ⟨by decide, by decide, by decide +kernel⟩, by decide⟩
def m_X10_windows : AbM := (yX10_windows, cX10_windows, 3, (some (.int)), 0, 0)
theorem mf_X10_windows : MdF m_X10_windows 1 := ⟨q_1062, q_8, ⟨by decide, by decide, by decide +kernel⟩, by decide⟩
def m_X10_firstOf : AbM := (yX10_firstOf, cX10_firstOf, 2, (some (.int)), 0, 0)
theorem mf_X10_firstOf : MdF m_X10_firstOf 1 := ⟨q_1042, q_8, ⟨by decide, by decide, by decide +kernel⟩, by decide⟩
def m_X10_lastOf : AbM := (yX10_lastOf, cX10_lastOf, 3, (some (.int)), 0, 0)
theorem mf_X10_lastOf : MdF m_X10_lastOf 1 := ⟨q_1066, q_8, ⟨by decide, by decide, by decide +kernel⟩, by decide⟩
def m_X10_kind : AbM := (yX10_kind, cX10_kind, 2, (some (.int)), 0, 0)
theorem mf_X10_kind : MdF m_X10_kind 1 := ⟨q_1038, q_8, ⟨by decide, by decide, by decide +kernel⟩, by decide⟩
def m_X10_isOlder : AbM := (yX10_isOlder, cX10_isOlder, 4, (some (.boolean)), 0, 0)
theorem mf_X10_isOlder : MdF m_X10_isOlder 2 := ⟨q_1074, q_8, ⟨by decide, by decide, by decide +kernel⟩, by decide⟩
def m_X10_finds : AbM := (yX10_finds, cX10_finds, 4, none, 0, 0)
theorem mf_X10_finds : MdF m_X10_finds 0 := ⟨q_1070, q_8, ⟨by decide, by decide, by decide +kernel⟩, by decide⟩
def m_X10_olderThan : AbM := (yX10_olderThan, cX10_olderThan, 4, (some (.int)), 0, 0)
theorem mf_X10_olderThan : MdF m_X10_olderThan 1 := ⟨q_1078, q_8, ⟨by decide, by decide, by decide +kernel⟩, by decide⟩
def m_X10_copyRow : AbM := (yX10_copyRow, cX10_copyRow, 4, none, 0, 0)
theorem mf_X10_copyRow : MdF m_X10_copyRow 2 := ⟨q_951, q_8, ⟨by decide, by decide, by decide +kernel⟩, by decide⟩
def m_X10_keepPast : AbM := (yX10_keepPast, cX10_keepPast, 2, none, 0, 0)
theorem mf_X10_keepPast : MdF m_X10_keepPast 0 := ⟨q_947, q_8, ⟨by decide, by decide, by decide +kernel⟩, by decide⟩
def m_X10_puts : AbM := (yX10_puts, cX10_puts, 9, (some (.int)), 0, 0)
theorem mf_X10_puts : MdF m_X10_puts 6 := ⟨q_906, q_8, ⟨by decide, by decide, by decide +kernel⟩, by decide⟩
def m_X10_hasLaw : AbM := (yX10_hasLaw, cX10_hasLaw, 5, (some (.boolean)), 0, 0)
theorem mf_X10_hasLaw : MdF m_X10_hasLaw 2 := ⟨q_943, q_8, ⟨by decide, by decide, by decide +kernel⟩, by decide⟩
def m_X10_law : AbM := (yX10_law, cX10_law, 7, (some (.int)), 0, 0)
theorem mf_X10_law : MdF m_X10_law 6 := ⟨q_932, q_8, ⟨by decide, by decide, by decide +kernel⟩, by decide⟩
def m_X10_repeal : AbM := (yX10_repeal, cX10_repeal, 3, (some (.int)), 0, 0)
theorem mf_X10_repeal : MdF m_X10_repeal 1 := ⟨q_955, q_8, ⟨by decide, by decide, by decide +kernel⟩, by decide⟩
def m_X10_meet : AbM := (yX10_meet, cX10_meet, 5, (some (.int)), 0, 0)
theorem mf_X10_meet : MdF m_X10_meet 4 := ⟨q_963, q_8, ⟨by decide, by decide, by decide +kernel⟩, by decide⟩
def m_X10_part : AbM := (yX10_part, cX10_part, 3, (some (.int)), 0, 0)
theorem mf_X10_part : MdF m_X10_part 2 := ⟨q_977, q_8, ⟨by decide, by decide, by decide +kernel⟩, by decide⟩
def m_X10_lend : AbM := (yX10_lend, cX10_lend, 7, (some (.int)), 0, 0)
theorem mf_X10_lend : MdF m_X10_lend 4 := ⟨q_981, q_8, ⟨by decide, by decide, by decide +kernel⟩, by decide⟩
def m_X10_drop : AbM := (yX10_drop, cX10_drop, 3, (some (.int)), 0, 0)
theorem mf_X10_drop : MdF m_X10_drop 1 := ⟨q_1009, q_8, ⟨by decide, by decide, by decide +kernel⟩, by decide⟩
def m_X10_undo : AbM := (yX10_undo, cX10_undo, 1, (some (.int)), 0, 0)
theorem mf_X10_undo : MdF m_X10_undo 0 := ⟨q_1013, q_8, ⟨by decide, by decide, by decide +kernel⟩, by decide⟩
def m_X10_keep : AbM := (yX10_keep, cX10_keep, 2, (some (.int)), 0, 0)
theorem mf_X10_keep : MdF m_X10_keep 1 := ⟨q_1017, q_8, ⟨by decide, by decide, by decide +kernel⟩, by decide⟩
def m_X10_back : AbM := (yX10_back, cX10_back, 2, (some (.int)), 0, 0)
theorem mf_X10_back : MdF m_X10_back 1 := ⟨q_1021, q_8, ⟨by decide, by decide, by decide +kernel⟩, by decide⟩
def m_X10_told : AbM := (yX10_told, cX10_told, 3, (some (.int)), 0, 0)
theorem mf_X10_told : MdF m_X10_told 2 := ⟨q_1025, q_8, ⟨by decide, by decide, by decide +kernel⟩, by decide⟩
def m_X10_meeting : AbM := (yX10_meeting, cX10_meeting, 4, (some (.int)), 0, 0)
theorem mf_X10_meeting : MdF m_X10_meeting 3 := ⟨q_1030, q_8, ⟨by decide, by decide, by decide +kernel⟩, by decide⟩
def m_X10_loan : AbM := (yX10_loan, cX10_loan, 3, (some (.int)), 0, 0)
theorem mf_X10_loan : MdF m_X10_loan 2 := ⟨q_1034, q_8, ⟨by decide, by decide, by decide +kernel⟩, by decide⟩
def m_X10_sound : AbM := (yX10_sound, cX10_sound, 5, (some (.int)), 0, 0)
theorem mf_X10_sound : MdF m_X10_sound 3 := ⟨q_1082, q_8, ⟨by decide, by decide, by decide +kernel⟩, by decide⟩
def m_X10_window : AbM := (yX10_window, cX10_window, 4, (some (.int)), 0, 0)
theorem mf_X10_window : MdF m_X10_window 3 := ⟨q_1086, q_8, ⟨by decide, by decide, by decide +kernel⟩, by decide⟩
def m_X10_formAt : AbM := (yX10_formAt, cX10_formAt, 2, (some (.int)), 0, 0)
theorem mf_X10_formAt : MdF m_X10_formAt 1 := ⟨q_1094, q_8, ⟨by decide, by decide, by decide +kernel⟩, by decide⟩
def m_X10_taken : AbM := (yX10_taken, cX10_taken, 4, (some (.int)), 0, 0)
theorem mf_X10_taken : MdF m_X10_taken 3 := ⟨q_1090, q_8, ⟨by decide, by decide, by decide +kernel⟩, by decide⟩
def m_X10_gone : AbM := (yX10_gone, cX10_gone, 6, (some (.int)), 0, 0)
theorem mf_X10_gone : MdF m_X10_gone 5 := ⟨q_1098, q_8, ⟨by decide, by decide, by decide +kernel⟩, by decide⟩
def m_X10_did : AbM := (yX10_did, cX10_did, 4, (some (.int)), 0, 0)
theorem mf_X10_did : MdF m_X10_did 3 := ⟨q_1102, q_8, ⟨by decide, by decide, by decide +kernel⟩, by decide⟩
def m_X10_older : AbM := (yX10_older, cX10_older, 3, (some (.int)), 0, 0)
theorem mf_X10_older : MdF m_X10_older 2 := ⟨q_1106, q_8, ⟨by decide, by decide, by decide +kernel⟩, by decide⟩
def m_X10_isBeginning : AbM := (yX10_isBeginning, cX10_isBeginning, 4, (some (.boolean)), 0, 0)
theorem mf_X10_isBeginning : MdF m_X10_isBeginning 1 := ⟨q_1122, q_8, ⟨by decide, by decide, by decide +kernel⟩, by decide⟩
def m_X10_arrives : AbM := (yX10_arrives, cX10_arrives, 10, (some (.boolean)), 0, 0)
theorem mf_X10_arrives : MdF m_X10_arrives 5 := ⟨q_1126, q_8, ⟨by decide, by decide, by decide +kernel⟩, by decide⟩
def m_X10_findsDates : AbM := (yX10_findsDates, cX10_findsDates, 2, none, 0, 0)
theorem mf_X10_findsDates : MdF m_X10_findsDates 0 := ⟨q_1118, q_8, ⟨by decide, by decide, by decide +kernel⟩, by decide⟩
def m_X10_steps : AbM := (yX10_steps, cX10_steps, 3, none, 0, 0)
theorem mf_X10_steps : MdF m_X10_steps 2 := ⟨q_1130, q_8, ⟨by decide, by decide, by decide +kernel⟩, by decide⟩
def m_X10_roadOf : AbM := (yX10_roadOf, cX10_roadOf, 9, (some (.int)), 0, 0)
theorem mf_X10_roadOf : MdF m_X10_roadOf 4 := ⟨q_1114, q_8, ⟨by decide, by decide, by decide +kernel⟩, by decide⟩
def m_X10_isThird : AbM := (yX10_isThird, cX10_isThird, 8, (some (.boolean)), 0, 0)
theorem mf_X10_isThird : MdF m_X10_isThird 6 := ⟨q_1134, q_8, ⟨by decide, by decide, by decide +kernel⟩, by decide⟩
def m_X10_road : AbM := (yX10_road, cX10_road, 7, (some (.int)), 0, 0)
theorem mf_X10_road : MdF m_X10_road 5 := ⟨q_1110, q_8, ⟨by decide, by decide, by decide +kernel⟩, by decide⟩
def m_X10_ofKind : AbM := (yX10_ofKind, cX10_ofKind, 4, (some (.int)), 0, 0)
theorem mf_X10_ofKind : MdF m_X10_ofKind 1 := ⟨q_1142, q_8, ⟨by decide, by decide, by decide +kernel⟩, by decide⟩
def m_X10_greatestLayer : AbM := (yX10_greatestLayer, cX10_greatestLayer, 3, (some (.int)), 0, 0)
theorem mf_X10_greatestLayer : MdF m_X10_greatestLayer 0 := ⟨q_1146, q_8, ⟨by decide, by decide, by decide +kernel⟩, by decide⟩
def m_X10_lawsOf : AbM := (yX10_lawsOf, cX10_lawsOf, 4, (some (.int)), 0, 0)
theorem mf_X10_lawsOf : MdF m_X10_lawsOf 1 := ⟨q_1150, q_8, ⟨by decide, by decide, by decide +kernel⟩, by decide⟩
def m_X10_count : AbM := (yX10_count, cX10_count, 2, (some (.int)), 0, 0)
theorem mf_X10_count : MdF m_X10_count 1 := ⟨q_1138, q_8, ⟨by decide, by decide, by decide +kernel⟩, by decide⟩
def m_J0_length_8abf5 : AbM := (yJ0_length_8abf5, cJ0_length_8abf5, 1, (some (.int)), 0, 0)
theorem mf_J0_length_8abf5 : MdF m_J0_length_8abf5 0 := ⟨q_257, q_10, ⟨by decide, by decide, by decide +kernel⟩, by decide⟩
def m_J0_charAt_5068e : AbM := (yJ0_charAt_5068e, cJ0_charAt_5068e, 2, (some (.char)), 0, 0)
theorem mf_J0_charAt_5068e : MdF m_J0_charAt_5068e 1 := ⟨q_267, q_10, ⟨by decide, by decide, by decide +kernel⟩, by decide⟩
def m_J0_coder_7d493 : AbM := (yJ0_coder_7d493, cJ0_coder_7d493, 1, (some (.byte)), 0, 0)
theorem mf_J0_coder_7d493 : MdF m_J0_coder_7d493 0 := ⟨q_261, q_10, ⟨by decide, by decide, by decide +kernel⟩, by decide⟩
def m_J0_isLatin1_aae02 : AbM := (yJ0_isLatin1_aae02, cJ0_isLatin1_aae02, 1, (some (.boolean)), 0, 0)
theorem mf_J0_isLatin1_aae02 : MdF m_J0_isLatin1_aae02 0 := ⟨q_271, q_10, ⟨by decide, by decide, by decide +kernel⟩, by decide⟩
def m_J0_checkIndex_df160 : AbM := (yJ0_checkIndex_df160, cJ0_checkIndex_df160, 2, none, 0, 0)
theorem mf_J0_checkIndex_df160 : MdF m_J0_checkIndex_df160 2 := ⟨q_277, q_10, ⟨by decide, by decide, by decide +kernel⟩, by decide⟩
def m_J1_charAt_3b067 : AbM := (yJ1_charAt_3b067, cJ1_charAt_3b067, 2, (some (.char)), 0, 0)
theorem mf_J1_charAt_3b067 : MdF m_J1_charAt_3b067 2 := ⟨q_274, q_11, ⟨by decide, by decide, by decide +kernel⟩, by decide⟩
def m_J2_getChar_3b067 : AbM := (yJ2_getChar_3b067, cJ2_getChar_3b067, 2, (some (.char)), 0, 0)
theorem mf_J2_getChar_3b067 : MdF m_J2_getChar_3b067 2 := ⟨q_295, q_13, ⟨by decide, by decide, by decide +kernel⟩, by decide⟩
def m_J2_length_9d52b : AbM := (yJ2_length_9d52b, cJ2_length_9d52b, 1, (some (.int)), 0, 0)
theorem mf_J2_length_9d52b : MdF m_J2_length_9d52b 1 := ⟨q_291, q_13, ⟨by decide, by decide, by decide +kernel⟩, by decide⟩
def m_J2_charAt_3b067 : AbM := (yJ2_charAt_3b067, cJ2_charAt_3b067, 2, (some (.char)), 0, 0)
theorem mf_J2_charAt_3b067 : MdF m_J2_charAt_3b067 2 := ⟨q_285, q_13, ⟨by decide, by decide, by decide +kernel⟩, by decide⟩
def m_J2_checkIndex_2214a : AbM := (yJ2_checkIndex_2214a, cJ2_checkIndex_2214a, 2, none, 0, 0)
theorem mf_J2_checkIndex_2214a : MdF m_J2_checkIndex_2214a 2 := ⟨q_288, q_13, ⟨by decide, by decide, by decide +kernel⟩, by decide⟩
def m_J3_checkIndex_8e157 : AbM := (yJ3_checkIndex_8e157, cJ3_checkIndex_8e157, 3, (some (.int)), 0, 0)
theorem mf_J3_checkIndex_8e157 : MdF m_J3_checkIndex_8e157 3 := ⟨q_282, q_12, ⟨by decide, by decide, by decide +kernel⟩, by decide⟩
def m_L_law : AbM := (yL_law, cL_law, 4, (some (.boolean)), 600000, 7302250)
end
