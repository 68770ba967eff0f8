-- ===== PART A: goes FIRST, ahead of the names: the tables' words, and 'selects' of the private methods out of them =====
/-- a private method of a class that the tables say can be made, by its rows of tables_1 -/
def lw_okq (q : MethodName × Nat) : Prop := (q.1.cls ≠ "java/lang/invoke/MethodHandle" ∧ q.1.cls ≠ "java/lang/invoke/VarHandle") ∧ Cond.instantiable q.1.cls q.2 ∈ tables_1 ∧ Cond.privateMethod q.1 ∈ tables_1 ∧ Cond.instanceMethod q.1 ∈ tables_1
theorem lw_p0 : lw_okq (⟨"LoanLayers$Text", "advance", "()V"⟩, 6) := ⟨⟨by decide +kernel, by decide +kernel⟩, List.mem_of_getElem? (i := 76) (by decide +kernel), List.mem_of_getElem? (i := 232) (by decide +kernel), List.mem_of_getElem? (i := 233) (by decide +kernel)⟩
theorem lw_p1 : lw_okq (⟨"LoanLayers$Text", "byteAt", "(I)I"⟩, 6) := ⟨⟨by decide +kernel, by decide +kernel⟩, List.mem_of_getElem? (i := 76) (by decide +kernel), List.mem_of_getElem? (i := 236) (by decide +kernel), List.mem_of_getElem? (i := 237) (by decide +kernel)⟩
theorem lw_p2 : lw_okq (⟨"LoanLayers$Text", "readClause", "(LLoanLayers$World;)Z"⟩, 6) := ⟨⟨by decide +kernel, by decide +kernel⟩, List.mem_of_getElem? (i := 76) (by decide +kernel), List.mem_of_getElem? (i := 246) (by decide +kernel), List.mem_of_getElem? (i := 247) (by decide +kernel)⟩
theorem lw_p3 : lw_okq (⟨"LoanLayers$Text", "isWord", "(Ljava/lang/String;)Z"⟩, 6) := ⟨⟨by decide +kernel, by decide +kernel⟩, List.mem_of_getElem? (i := 76) (by decide +kernel), List.mem_of_getElem? (i := 251) (by decide +kernel), List.mem_of_getElem? (i := 252) (by decide +kernel)⟩
theorem lw_p4 : lw_okq (⟨"LoanLayers$Text", "readLaw", "(LLoanLayers$World;)Z"⟩, 6) := ⟨⟨by decide +kernel, by decide +kernel⟩, List.mem_of_getElem? (i := 76) (by decide +kernel), List.mem_of_getElem? (i := 303) (by decide +kernel), List.mem_of_getElem? (i := 304) (by decide +kernel)⟩
theorem lw_p5 : lw_okq (⟨"LoanLayers$Text", "number", "(II)I"⟩, 6) := ⟨⟨by decide +kernel, by decide +kernel⟩, List.mem_of_getElem? (i := 76) (by decide +kernel), List.mem_of_getElem? (i := 307) (by decide +kernel), List.mem_of_getElem? (i := 308) (by decide +kernel)⟩
theorem lw_p6 : lw_okq (⟨"LoanLayers$Text", "letter", "()I"⟩, 6) := ⟨⟨by decide +kernel, by decide +kernel⟩, List.mem_of_getElem? (i := 76) (by decide +kernel), List.mem_of_getElem? (i := 315) (by decide +kernel), List.mem_of_getElem? (i := 316) (by decide +kernel)⟩
theorem lw_p7 : lw_okq (⟨"LoanLayers$Text", "isSign", "(I)Z"⟩, 6) := ⟨⟨by decide +kernel, by decide +kernel⟩, List.mem_of_getElem? (i := 76) (by decide +kernel), List.mem_of_getElem? (i := 319) (by decide +kernel), List.mem_of_getElem? (i := 320) (by decide +kernel)⟩
theorem lw_p8 : lw_okq (⟨"LoanLayers$Text", "environment", "()I"⟩, 6) := ⟨⟨by decide +kernel, by decide +kernel⟩, List.mem_of_getElem? (i := 76) (by decide +kernel), List.mem_of_getElem? (i := 323) (by decide +kernel), List.mem_of_getElem? (i := 324) (by decide +kernel)⟩
theorem lw_p9 : lw_okq (⟨"LoanLayers$Text", "readMeeting", "(LLoanLayers$World;)Z"⟩, 6) := ⟨⟨by decide +kernel, by decide +kernel⟩, List.mem_of_getElem? (i := 76) (by decide +kernel), List.mem_of_getElem? (i := 373) (by decide +kernel), List.mem_of_getElem? (i := 374) (by decide +kernel)⟩
theorem lw_p10 : lw_okq (⟨"LoanLayers$Text", "readPair", "()I"⟩, 6) := ⟨⟨by decide +kernel, by decide +kernel⟩, List.mem_of_getElem? (i := 76) (by decide +kernel), List.mem_of_getElem? (i := 377) (by decide +kernel), List.mem_of_getElem? (i := 378) (by decide +kernel)⟩
theorem lw_p11 : lw_okq (⟨"LoanLayers$Text", "readLoan", "(LLoanLayers$World;)Z"⟩, 6) := ⟨⟨by decide +kernel, by decide +kernel⟩, List.mem_of_getElem? (i := 76) (by decide +kernel), List.mem_of_getElem? (i := 389) (by decide +kernel), List.mem_of_getElem? (i := 390) (by decide +kernel)⟩
theorem lw_p12 : lw_okq (⟨"LoanLayers$Text", "form", "(I)J"⟩, 6) := ⟨⟨by decide +kernel, by decide +kernel⟩, List.mem_of_getElem? (i := 76) (by decide +kernel), List.mem_of_getElem? (i := 393) (by decide +kernel), List.mem_of_getElem? (i := 394) (by decide +kernel)⟩
theorem lw_p13 : lw_okq (⟨"LoanLayers", "act", "(LLoanLayers$World;)V"⟩, 7) := ⟨⟨by decide +kernel, by decide +kernel⟩, List.mem_of_getElem? (i := 18) (by decide +kernel), List.mem_of_getElem? (i := 457) (by decide +kernel), List.mem_of_getElem? (i := 458) (by decide +kernel)⟩
theorem lw_p14 : lw_okq (⟨"LoanLayers$Windows", "add", "(II)V"⟩, 3) := ⟨⟨by decide +kernel, by decide +kernel⟩, List.mem_of_getElem? (i := 103) (by decide +kernel), List.mem_of_getElem? (i := 587) (by decide +kernel), List.mem_of_getElem? (i := 588) (by decide +kernel)⟩
theorem lw_p15 : lw_okq (⟨"LoanLayers$Layers", "layByFirstDate", "()V"⟩, 4) := ⟨⟨by decide +kernel, by decide +kernel⟩, List.mem_of_getElem? (i := 120) (by decide +kernel), List.mem_of_getElem? (i := 620) (by decide +kernel), List.mem_of_getElem? (i := 621) (by decide +kernel)⟩
def lw_privs_1 : List (MethodName × Nat) := [(⟨"LoanLayers$Text", "advance", "()V"⟩, 6), (⟨"LoanLayers$Text", "byteAt", "(I)I"⟩, 6), (⟨"LoanLayers$Text", "readClause", "(LLoanLayers$World;)Z"⟩, 6), (⟨"LoanLayers$Text", "isWord", "(Ljava/lang/String;)Z"⟩, 6), (⟨"LoanLayers$Text", "readLaw", "(LLoanLayers$World;)Z"⟩, 6), (⟨"LoanLayers$Text", "number", "(II)I"⟩, 6), (⟨"LoanLayers$Text", "letter", "()I"⟩, 6), (⟨"LoanLayers$Text", "isSign", "(I)Z"⟩, 6), (⟨"LoanLayers$Text", "environment", "()I"⟩, 6), (⟨"LoanLayers$Text", "readMeeting", "(LLoanLayers$World;)Z"⟩, 6), (⟨"LoanLayers$Text", "readPair", "()I"⟩, 6), (⟨"LoanLayers$Text", "readLoan", "(LLoanLayers$World;)Z"⟩, 6), (⟨"LoanLayers$Text", "form", "(I)J"⟩, 6), (⟨"LoanLayers", "act", "(LLoanLayers$World;)V"⟩, 7), (⟨"LoanLayers$Windows", "add", "(II)V"⟩, 3), (⟨"LoanLayers$Layers", "layByFirstDate", "()V"⟩, 4)]
theorem lw_r1 : ∀ q ∈ lw_privs_1, lw_okq q := List.forall_mem_cons.mpr ⟨lw_p0, List.forall_mem_cons.mpr ⟨lw_p1, List.forall_mem_cons.mpr ⟨lw_p2, List.forall_mem_cons.mpr ⟨lw_p3, List.forall_mem_cons.mpr ⟨lw_p4, List.forall_mem_cons.mpr ⟨lw_p5, List.forall_mem_cons.mpr ⟨lw_p6, List.forall_mem_cons.mpr ⟨lw_p7, List.forall_mem_cons.mpr ⟨lw_p8, List.forall_mem_cons.mpr ⟨lw_p9, List.forall_mem_cons.mpr ⟨lw_p10, List.forall_mem_cons.mpr ⟨lw_p11, List.forall_mem_cons.mpr ⟨lw_p12, List.forall_mem_cons.mpr ⟨lw_p13, List.forall_mem_cons.mpr ⟨lw_p14, List.forall_mem_cons.mpr ⟨lw_p15, fun _ h => absurd h List.not_mem_nil⟩⟩⟩⟩⟩⟩⟩⟩⟩⟩⟩⟩⟩⟩⟩⟩
theorem lw_p16 : lw_okq (⟨"LoanLayers$Layers", "greatestBefore", "(I)I"⟩, 4) := ⟨⟨by decide +kernel, by decide +kernel⟩, List.mem_of_getElem? (i := 120) (by decide +kernel), List.mem_of_getElem? (i := 624) (by decide +kernel), List.mem_of_getElem? (i := 625) (by decide +kernel)⟩
theorem lw_p17 : lw_okq (⟨"LoanLayers$Way", "prepare", "(LLoanLayers$World;)V"⟩, 7) := ⟨⟨by decide +kernel, by decide +kernel⟩, List.mem_of_getElem? (i := 139) (by decide +kernel), List.mem_of_getElem? (i := 689) (by decide +kernel), List.mem_of_getElem? (i := 690) (by decide +kernel)⟩
theorem lw_p18 : lw_okq (⟨"LoanLayers$Way", "leads", "(LLoanLayers$World;IIIJ)Z"⟩, 7) := ⟨⟨by decide +kernel, by decide +kernel⟩, List.mem_of_getElem? (i := 139) (by decide +kernel), List.mem_of_getElem? (i := 697) (by decide +kernel), List.mem_of_getElem? (i := 698) (by decide +kernel)⟩
theorem lw_p19 : lw_okq (⟨"LoanLayers$Way", "branches", "(LLoanLayers$World;IIIJ)Z"⟩, 7) := ⟨⟨by decide +kernel, by decide +kernel⟩, List.mem_of_getElem? (i := 139) (by decide +kernel), List.mem_of_getElem? (i := 705) (by decide +kernel), List.mem_of_getElem? (i := 706) (by decide +kernel)⟩
theorem lw_p20 : lw_okq (⟨"LoanLayers$Way", "isBusy", "(I)Z"⟩, 7) := ⟨⟨by decide +kernel, by decide +kernel⟩, List.mem_of_getElem? (i := 139) (by decide +kernel), List.mem_of_getElem? (i := 716) (by decide +kernel), List.mem_of_getElem? (i := 717) (by decide +kernel)⟩
theorem lw_p21 : lw_okq (⟨"LoanLayers$Way", "changed", "(JII)J"⟩, 7) := ⟨⟨by decide +kernel, by decide +kernel⟩, List.mem_of_getElem? (i := 139) (by decide +kernel), List.mem_of_getElem? (i := 720) (by decide +kernel), List.mem_of_getElem? (i := 721) (by decide +kernel)⟩
theorem lw_p22 : lw_okq (⟨"LoanLayers$Way", "ageTried", "(II)V"⟩, 7) := ⟨⟨by decide +kernel, by decide +kernel⟩, List.mem_of_getElem? (i := 139) (by decide +kernel), List.mem_of_getElem? (i := 725) (by decide +kernel), List.mem_of_getElem? (i := 726) (by decide +kernel)⟩
theorem lw_p23 : lw_okq (⟨"LoanLayers", "loansOfKind", "(I)I"⟩, 7) := ⟨⟨by decide +kernel, by decide +kernel⟩, List.mem_of_getElem? (i := 18) (by decide +kernel), List.mem_of_getElem? (i := 737) (by decide +kernel), List.mem_of_getElem? (i := 738) (by decide +kernel)⟩
theorem lw_p24 : lw_okq (⟨"LoanLayersModel", "reads", "(Z)Z"⟩, 23) := ⟨⟨by decide +kernel, by decide +kernel⟩, List.mem_of_getElem? (i := 749) (by decide +kernel), List.mem_of_getElem? (i := 841) (by decide +kernel), List.mem_of_getElem? (i := 842) (by decide +kernel)⟩
theorem lw_p25 : lw_okq (⟨"LoanLayersModel", "readsAll", "()Z"⟩, 23) := ⟨⟨by decide +kernel, by decide +kernel⟩, List.mem_of_getElem? (i := 749) (by decide +kernel), List.mem_of_getElem? (i := 845) (by decide +kernel), List.mem_of_getElem? (i := 846) (by decide +kernel)⟩
theorem lw_p26 : lw_okq (⟨"LoanLayersModel", "lawOf", "(II)I"⟩, 23) := ⟨⟨by decide +kernel, by decide +kernel⟩, List.mem_of_getElem? (i := 749) (by decide +kernel), List.mem_of_getElem? (i := 849) (by decide +kernel), List.mem_of_getElem? (i := 850) (by decide +kernel)⟩
theorem lw_p27 : lw_okq (⟨"LoanLayersModel", "nextToken", "()V"⟩, 23) := ⟨⟨by decide +kernel, by decide +kernel⟩, List.mem_of_getElem? (i := 749) (by decide +kernel), List.mem_of_getElem? (i := 853) (by decide +kernel), List.mem_of_getElem? (i := 854) (by decide +kernel)⟩
theorem lw_p28 : lw_okq (⟨"LoanLayersModel", "readsClause", "()Z"⟩, 23) := ⟨⟨by decide +kernel, by decide +kernel⟩, List.mem_of_getElem? (i := 749) (by decide +kernel), List.mem_of_getElem? (i := 867) (by decide +kernel), List.mem_of_getElem? (i := 868) (by decide +kernel)⟩
theorem lw_p29 : lw_okq (⟨"LoanLayersModel", "wordHere", "()I"⟩, 23) := ⟨⟨by decide +kernel, by decide +kernel⟩, List.mem_of_getElem? (i := 749) (by decide +kernel), List.mem_of_getElem? (i := 871) (by decide +kernel), List.mem_of_getElem? (i := 872) (by decide +kernel)⟩
theorem lw_p30 : lw_okq (⟨"LoanLayersModel", "readsLaw", "()Z"⟩, 23) := ⟨⟨by decide +kernel, by decide +kernel⟩, List.mem_of_getElem? (i := 749) (by decide +kernel), List.mem_of_getElem? (i := 875) (by decide +kernel), List.mem_of_getElem? (i := 876) (by decide +kernel)⟩
theorem lw_p31 : lw_okq (⟨"LoanLayersModel", "number", "(IIII)Z"⟩, 23) := ⟨⟨by decide +kernel, by decide +kernel⟩, List.mem_of_getElem? (i := 749) (by decide +kernel), List.mem_of_getElem? (i := 879) (by decide +kernel), List.mem_of_getElem? (i := 880) (by decide +kernel)⟩
def lw_privs_2 : List (MethodName × Nat) := [(⟨"LoanLayers$Layers", "greatestBefore", "(I)I"⟩, 4), (⟨"LoanLayers$Way", "prepare", "(LLoanLayers$World;)V"⟩, 7), (⟨"LoanLayers$Way", "leads", "(LLoanLayers$World;IIIJ)Z"⟩, 7), (⟨"LoanLayers$Way", "branches", "(LLoanLayers$World;IIIJ)Z"⟩, 7), (⟨"LoanLayers$Way", "isBusy", "(I)Z"⟩, 7), (⟨"LoanLayers$Way", "changed", "(JII)J"⟩, 7), (⟨"LoanLayers$Way", "ageTried", "(II)V"⟩, 7), (⟨"LoanLayers", "loansOfKind", "(I)I"⟩, 7), (⟨"LoanLayersModel", "reads", "(Z)Z"⟩, 23), (⟨"LoanLayersModel", "readsAll", "()Z"⟩, 23), (⟨"LoanLayersModel", "lawOf", "(II)I"⟩, 23), (⟨"LoanLayersModel", "nextToken", "()V"⟩, 23), (⟨"LoanLayersModel", "readsClause", "()Z"⟩, 23), (⟨"LoanLayersModel", "wordHere", "()I"⟩, 23), (⟨"LoanLayersModel", "readsLaw", "()Z"⟩, 23), (⟨"LoanLayersModel", "number", "(IIII)Z"⟩, 23)]
theorem lw_r2 : ∀ q ∈ lw_privs_2, lw_okq q := List.forall_mem_cons.mpr ⟨lw_p16, List.forall_mem_cons.mpr ⟨lw_p17, List.forall_mem_cons.mpr ⟨lw_p18, List.forall_mem_cons.mpr ⟨lw_p19, List.forall_mem_cons.mpr ⟨lw_p20, List.forall_mem_cons.mpr ⟨lw_p21, List.forall_mem_cons.mpr ⟨lw_p22, List.forall_mem_cons.mpr ⟨lw_p23, List.forall_mem_cons.mpr ⟨lw_p24, List.forall_mem_cons.mpr ⟨lw_p25, List.forall_mem_cons.mpr ⟨lw_p26, List.forall_mem_cons.mpr ⟨lw_p27, List.forall_mem_cons.mpr ⟨lw_p28, List.forall_mem_cons.mpr ⟨lw_p29, List.forall_mem_cons.mpr ⟨lw_p30, List.forall_mem_cons.mpr ⟨lw_p31, fun _ h => absurd h List.not_mem_nil⟩⟩⟩⟩⟩⟩⟩⟩⟩⟩⟩⟩⟩⟩⟩⟩
theorem lw_p32 : lw_okq (⟨"LoanLayersModel", "numberHere", "()I"⟩, 23) := ⟨⟨by decide +kernel, by decide +kernel⟩, List.mem_of_getElem? (i := 749) (by decide +kernel), List.mem_of_getElem? (i := 883) (by decide +kernel), List.mem_of_getElem? (i := 884) (by decide +kernel)⟩
theorem lw_p33 : lw_okq (⟨"LoanLayersModel", "readsSound", "(II)Z"⟩, 23) := ⟨⟨by decide +kernel, by decide +kernel⟩, List.mem_of_getElem? (i := 749) (by decide +kernel), List.mem_of_getElem? (i := 888) (by decide +kernel), List.mem_of_getElem? (i := 889) (by decide +kernel)⟩
theorem lw_p34 : lw_okq (⟨"LoanLayersModel", "lostOrSound", "(II)Z"⟩, 23) := ⟨⟨by decide +kernel, by decide +kernel⟩, List.mem_of_getElem? (i := 749) (by decide +kernel), List.mem_of_getElem? (i := 892) (by decide +kernel), List.mem_of_getElem? (i := 893) (by decide +kernel)⟩
theorem lw_p35 : lw_okq (⟨"LoanLayersModel", "isSign", "(I)Z"⟩, 23) := ⟨⟨by decide +kernel, by decide +kernel⟩, List.mem_of_getElem? (i := 749) (by decide +kernel), List.mem_of_getElem? (i := 896) (by decide +kernel), List.mem_of_getElem? (i := 897) (by decide +kernel)⟩
theorem lw_p36 : lw_okq (⟨"LoanLayersModel", "where", "()Z"⟩, 23) := ⟨⟨by decide +kernel, by decide +kernel⟩, List.mem_of_getElem? (i := 749) (by decide +kernel), List.mem_of_getElem? (i := 900) (by decide +kernel), List.mem_of_getElem? (i := 901) (by decide +kernel)⟩
theorem lw_p37 : lw_okq (⟨"LoanLayersModel", "puts", "(IIIIII)I"⟩, 23) := ⟨⟨by decide +kernel, by decide +kernel⟩, List.mem_of_getElem? (i := 749) (by decide +kernel), List.mem_of_getElem? (i := 904) (by decide +kernel), List.mem_of_getElem? (i := 905) (by decide +kernel)⟩
theorem lw_p38 : lw_okq (⟨"LoanLayersModel", "readsMeet", "()Z"⟩, 23) := ⟨⟨by decide +kernel, by decide +kernel⟩, List.mem_of_getElem? (i := 749) (by decide +kernel), List.mem_of_getElem? (i := 908) (by decide +kernel), List.mem_of_getElem? (i := 909) (by decide +kernel)⟩
theorem lw_p39 : lw_okq (⟨"LoanLayersModel", "readsLoan", "()Z"⟩, 23) := ⟨⟨by decide +kernel, by decide +kernel⟩, List.mem_of_getElem? (i := 749) (by decide +kernel), List.mem_of_getElem? (i := 915) (by decide +kernel), List.mem_of_getElem? (i := 916) (by decide +kernel)⟩
theorem lw_p40 : lw_okq (⟨"LoanLayersModel", "rowOf", "(II)I"⟩, 23) := ⟨⟨by decide +kernel, by decide +kernel⟩, List.mem_of_getElem? (i := 749) (by decide +kernel), List.mem_of_getElem? (i := 922) (by decide +kernel), List.mem_of_getElem? (i := 923) (by decide +kernel)⟩
theorem lw_p41 : lw_okq (⟨"LoanLayersModel", "hasLaw", "(II)Z"⟩, 23) := ⟨⟨by decide +kernel, by decide +kernel⟩, List.mem_of_getElem? (i := 749) (by decide +kernel), List.mem_of_getElem? (i := 941) (by decide +kernel), List.mem_of_getElem? (i := 942) (by decide +kernel)⟩
theorem lw_p42 : lw_okq (⟨"LoanLayersModel", "keepPast", "()V"⟩, 23) := ⟨⟨by decide +kernel, by decide +kernel⟩, List.mem_of_getElem? (i := 749) (by decide +kernel), List.mem_of_getElem? (i := 945) (by decide +kernel), List.mem_of_getElem? (i := 946) (by decide +kernel)⟩
theorem lw_p43 : lw_okq (⟨"LoanLayersModel", "copyRow", "(II)V"⟩, 23) := ⟨⟨by decide +kernel, by decide +kernel⟩, List.mem_of_getElem? (i := 749) (by decide +kernel), List.mem_of_getElem? (i := 949) (by decide +kernel), List.mem_of_getElem? (i := 950) (by decide +kernel)⟩
theorem lw_p44 : lw_okq (⟨"LoanLayersModel", "isLaw", "(I)Z"⟩, 23) := ⟨⟨by decide +kernel, by decide +kernel⟩, List.mem_of_getElem? (i := 749) (by decide +kernel), List.mem_of_getElem? (i := 957) (by decide +kernel), List.mem_of_getElem? (i := 958) (by decide +kernel)⟩
theorem lw_p45 : lw_okq (⟨"LoanLayersModel", "meetings", "()I"⟩, 23) := ⟨⟨by decide +kernel, by decide +kernel⟩, List.mem_of_getElem? (i := 749) (by decide +kernel), List.mem_of_getElem? (i := 971) (by decide +kernel), List.mem_of_getElem? (i := 972) (by decide +kernel)⟩
theorem lw_p46 : lw_okq (⟨"LoanLayersModel", "isLoan", "(I)Z"⟩, 23) := ⟨⟨by decide +kernel, by decide +kernel⟩, List.mem_of_getElem? (i := 749) (by decide +kernel), List.mem_of_getElem? (i := 983) (by decide +kernel), List.mem_of_getElem? (i := 984) (by decide +kernel)⟩
theorem lw_p47 : lw_okq (⟨"LoanLayersModel", "takes", "(IIII)V"⟩, 23) := ⟨⟨by decide +kernel, by decide +kernel⟩, List.mem_of_getElem? (i := 749) (by decide +kernel), List.mem_of_getElem? (i := 987) (by decide +kernel), List.mem_of_getElem? (i := 988) (by decide +kernel)⟩
def lw_privs_3 : List (MethodName × Nat) := [(⟨"LoanLayersModel", "numberHere", "()I"⟩, 23), (⟨"LoanLayersModel", "readsSound", "(II)Z"⟩, 23), (⟨"LoanLayersModel", "lostOrSound", "(II)Z"⟩, 23), (⟨"LoanLayersModel", "isSign", "(I)Z"⟩, 23), (⟨"LoanLayersModel", "where", "()Z"⟩, 23), (⟨"LoanLayersModel", "puts", "(IIIIII)I"⟩, 23), (⟨"LoanLayersModel", "readsMeet", "()Z"⟩, 23), (⟨"LoanLayersModel", "readsLoan", "()Z"⟩, 23), (⟨"LoanLayersModel", "rowOf", "(II)I"⟩, 23), (⟨"LoanLayersModel", "hasLaw", "(II)Z"⟩, 23), (⟨"LoanLayersModel", "keepPast", "()V"⟩, 23), (⟨"LoanLayersModel", "copyRow", "(II)V"⟩, 23), (⟨"LoanLayersModel", "isLaw", "(I)Z"⟩, 23), (⟨"LoanLayersModel", "meetings", "()I"⟩, 23), (⟨"LoanLayersModel", "isLoan", "(I)Z"⟩, 23), (⟨"LoanLayersModel", "takes", "(IIII)V"⟩, 23)]
theorem lw_r3 : ∀ q ∈ lw_privs_3, lw_okq q := List.forall_mem_cons.mpr ⟨lw_p32, List.forall_mem_cons.mpr ⟨lw_p33, List.forall_mem_cons.mpr ⟨lw_p34, List.forall_mem_cons.mpr ⟨lw_p35, List.forall_mem_cons.mpr ⟨lw_p36, List.forall_mem_cons.mpr ⟨lw_p37, List.forall_mem_cons.mpr ⟨lw_p38, List.forall_mem_cons.mpr ⟨lw_p39, List.forall_mem_cons.mpr ⟨lw_p40, List.forall_mem_cons.mpr ⟨lw_p41, List.forall_mem_cons.mpr ⟨lw_p42, List.forall_mem_cons.mpr ⟨lw_p43, List.forall_mem_cons.mpr ⟨lw_p44, List.forall_mem_cons.mpr ⟨lw_p45, List.forall_mem_cons.mpr ⟨lw_p46, List.forall_mem_cons.mpr ⟨lw_p47, fun _ h => absurd h List.not_mem_nil⟩⟩⟩⟩⟩⟩⟩⟩⟩⟩⟩⟩⟩⟩⟩⟩
theorem lw_p48 : lw_okq (⟨"LoanLayersModel", "takesWord", "(I)V"⟩, 23) := ⟨⟨by decide +kernel, by decide +kernel⟩, List.mem_of_getElem? (i := 749) (by decide +kernel), List.mem_of_getElem? (i := 991) (by decide +kernel), List.mem_of_getElem? (i := 992) (by decide +kernel)⟩
theorem lw_p49 : lw_okq (⟨"LoanLayersModel", "goes", "(III)V"⟩, 23) := ⟨⟨by decide +kernel, by decide +kernel⟩, List.mem_of_getElem? (i := 749) (by decide +kernel), List.mem_of_getElem? (i := 995) (by decide +kernel), List.mem_of_getElem? (i := 996) (by decide +kernel)⟩
theorem lw_p50 : lw_okq (⟨"LoanLayersModel", "hits", "(I)Z"⟩, 23) := ⟨⟨by decide +kernel, by decide +kernel⟩, List.mem_of_getElem? (i := 749) (by decide +kernel), List.mem_of_getElem? (i := 999) (by decide +kernel), List.mem_of_getElem? (i := 1000) (by decide +kernel)⟩
theorem lw_p51 : lw_okq (⟨"LoanLayersModel", "isWhere", "(III)Z"⟩, 23) := ⟨⟨by decide +kernel, by decide +kernel⟩, List.mem_of_getElem? (i := 749) (by decide +kernel), List.mem_of_getElem? (i := 1003) (by decide +kernel), List.mem_of_getElem? (i := 1004) (by decide +kernel)⟩
theorem lw_p52 : lw_okq (⟨"LoanLayersModel", "kind", "(I)I"⟩, 23) := ⟨⟨by decide +kernel, by decide +kernel⟩, List.mem_of_getElem? (i := 749) (by decide +kernel), List.mem_of_getElem? (i := 1036) (by decide +kernel), List.mem_of_getElem? (i := 1037) (by decide +kernel)⟩
theorem lw_p53 : lw_okq (⟨"LoanLayersModel", "firstOf", "(I)I"⟩, 23) := ⟨⟨by decide +kernel, by decide +kernel⟩, List.mem_of_getElem? (i := 749) (by decide +kernel), List.mem_of_getElem? (i := 1040) (by decide +kernel), List.mem_of_getElem? (i := 1041) (by decide +kernel)⟩
theorem lw_p54 : lw_okq (⟨"LoanLayersModel", "windowOf", "(IIZ)I"⟩, 23) := ⟨⟨by decide +kernel, by decide +kernel⟩, List.mem_of_getElem? (i := 749) (by decide +kernel), List.mem_of_getElem? (i := 1044) (by decide +kernel), List.mem_of_getElem? (i := 1045) (by decide +kernel)⟩
theorem lw_p55 : lw_okq (⟨"LoanLayersModel", "fits", "(II)Z"⟩, 23) := ⟨⟨by decide +kernel, by decide +kernel⟩, List.mem_of_getElem? (i := 749) (by decide +kernel), List.mem_of_getElem? (i := 1048) (by decide +kernel), List.mem_of_getElem? (i := 1049) (by decide +kernel)⟩
theorem lw_p56 : lw_okq (⟨"LoanLayersModel", "isMet", "(III)Z"⟩, 23) := ⟨⟨by decide +kernel, by decide +kernel⟩, List.mem_of_getElem? (i := 749) (by decide +kernel), List.mem_of_getElem? (i := 1052) (by decide +kernel), List.mem_of_getElem? (i := 1053) (by decide +kernel)⟩
theorem lw_p57 : lw_okq (⟨"LoanLayersModel", "isEnd", "(I)Z"⟩, 23) := ⟨⟨by decide +kernel, by decide +kernel⟩, List.mem_of_getElem? (i := 749) (by decide +kernel), List.mem_of_getElem? (i := 1056) (by decide +kernel), List.mem_of_getElem? (i := 1057) (by decide +kernel)⟩
theorem lw_p58 : lw_okq (⟨"LoanLayersModel", "windows", "(I)I"⟩, 23) := ⟨⟨by decide +kernel, by decide +kernel⟩, List.mem_of_getElem? (i := 749) (by decide +kernel), List.mem_of_getElem? (i := 1060) (by decide +kernel), List.mem_of_getElem? (i := 1061) (by decide +kernel)⟩
theorem lw_p59 : lw_okq (⟨"LoanLayersModel", "lastOf", "(I)I"⟩, 23) := ⟨⟨by decide +kernel, by decide +kernel⟩, List.mem_of_getElem? (i := 749) (by decide +kernel), List.mem_of_getElem? (i := 1064) (by decide +kernel), List.mem_of_getElem? (i := 1065) (by decide +kernel)⟩
theorem lw_p60 : lw_okq (⟨"LoanLayersModel", "finds", "()V"⟩, 23) := ⟨⟨by decide +kernel, by decide +kernel⟩, List.mem_of_getElem? (i := 749) (by decide +kernel), List.mem_of_getElem? (i := 1068) (by decide +kernel), List.mem_of_getElem? (i := 1069) (by decide +kernel)⟩
theorem lw_p61 : lw_okq (⟨"LoanLayersModel", "isOlder", "(II)Z"⟩, 23) := ⟨⟨by decide +kernel, by decide +kernel⟩, List.mem_of_getElem? (i := 749) (by decide +kernel), List.mem_of_getElem? (i := 1072) (by decide +kernel), List.mem_of_getElem? (i := 1073) (by decide +kernel)⟩
theorem lw_p62 : lw_okq (⟨"LoanLayersModel", "olderThan", "(I)I"⟩, 23) := ⟨⟨by decide +kernel, by decide +kernel⟩, List.mem_of_getElem? (i := 749) (by decide +kernel), List.mem_of_getElem? (i := 1076) (by decide +kernel), List.mem_of_getElem? (i := 1077) (by decide +kernel)⟩
theorem lw_p63 : lw_okq (⟨"LoanLayersModel", "formAt", "(I)I"⟩, 23) := ⟨⟨by decide +kernel, by decide +kernel⟩, List.mem_of_getElem? (i := 749) (by decide +kernel), List.mem_of_getElem? (i := 1092) (by decide +kernel), List.mem_of_getElem? (i := 1093) (by decide +kernel)⟩
def lw_privs_4 : List (MethodName × Nat) := [(⟨"LoanLayersModel", "takesWord", "(I)V"⟩, 23), (⟨"LoanLayersModel", "goes", "(III)V"⟩, 23), (⟨"LoanLayersModel", "hits", "(I)Z"⟩, 23), (⟨"LoanLayersModel", "isWhere", "(III)Z"⟩, 23), (⟨"LoanLayersModel", "kind", "(I)I"⟩, 23), (⟨"LoanLayersModel", "firstOf", "(I)I"⟩, 23), (⟨"LoanLayersModel", "windowOf", "(IIZ)I"⟩, 23), (⟨"LoanLayersModel", "fits", "(II)Z"⟩, 23), (⟨"LoanLayersModel", "isMet", "(III)Z"⟩, 23), (⟨"LoanLayersModel", "isEnd", "(I)Z"⟩, 23), (⟨"LoanLayersModel", "windows", "(I)I"⟩, 23), (⟨"LoanLayersModel", "lastOf", "(I)I"⟩, 23), (⟨"LoanLayersModel", "finds", "()V"⟩, 23), (⟨"LoanLayersModel", "isOlder", "(II)Z"⟩, 23), (⟨"LoanLayersModel", "olderThan", "(I)I"⟩, 23), (⟨"LoanLayersModel", "formAt", "(I)I"⟩, 23)]
theorem lw_r4 : ∀ q ∈ lw_privs_4, lw_okq q := List.forall_mem_cons.mpr ⟨lw_p48, List.forall_mem_cons.mpr ⟨lw_p49, List.forall_mem_cons.mpr ⟨lw_p50, List.forall_mem_cons.mpr ⟨lw_p51, List.forall_mem_cons.mpr ⟨lw_p52, List.forall_mem_cons.mpr ⟨lw_p53, List.forall_mem_cons.mpr ⟨lw_p54, List.forall_mem_cons.mpr ⟨lw_p55, List.forall_mem_cons.mpr ⟨lw_p56, List.forall_mem_cons.mpr ⟨lw_p57, List.forall_mem_cons.mpr ⟨lw_p58, List.forall_mem_cons.mpr ⟨lw_p59, List.forall_mem_cons.mpr ⟨lw_p60, List.forall_mem_cons.mpr ⟨lw_p61, List.forall_mem_cons.mpr ⟨lw_p62, List.forall_mem_cons.mpr ⟨lw_p63, fun _ h => absurd h List.not_mem_nil⟩⟩⟩⟩⟩⟩⟩⟩⟩⟩⟩⟩⟩⟩⟩⟩
theorem lw_p64 : lw_okq (⟨"LoanLayersModel", "roadOf", "(IIII)I"⟩, 23) := ⟨⟨by decide +kernel, by decide +kernel⟩, List.mem_of_getElem? (i := 749) (by decide +kernel), List.mem_of_getElem? (i := 1112) (by decide +kernel), List.mem_of_getElem? (i := 1113) (by decide +kernel)⟩
theorem lw_p65 : lw_okq (⟨"LoanLayersModel", "findsDates", "()V"⟩, 23) := ⟨⟨by decide +kernel, by decide +kernel⟩, List.mem_of_getElem? (i := 749) (by decide +kernel), List.mem_of_getElem? (i := 1116) (by decide +kernel), List.mem_of_getElem? (i := 1117) (by decide +kernel)⟩
theorem lw_p66 : lw_okq (⟨"LoanLayersModel", "isBeginning", "(I)Z"⟩, 23) := ⟨⟨by decide +kernel, by decide +kernel⟩, List.mem_of_getElem? (i := 749) (by decide +kernel), List.mem_of_getElem? (i := 1120) (by decide +kernel), List.mem_of_getElem? (i := 1121) (by decide +kernel)⟩
theorem lw_p67 : lw_okq (⟨"LoanLayersModel", "arrives", "(IIIII)Z"⟩, 23) := ⟨⟨by decide +kernel, by decide +kernel⟩, List.mem_of_getElem? (i := 749) (by decide +kernel), List.mem_of_getElem? (i := 1124) (by decide +kernel), List.mem_of_getElem? (i := 1125) (by decide +kernel)⟩
theorem lw_p68 : lw_okq (⟨"LoanLayersModel", "steps", "(II)V"⟩, 23) := ⟨⟨by decide +kernel, by decide +kernel⟩, List.mem_of_getElem? (i := 749) (by decide +kernel), List.mem_of_getElem? (i := 1128) (by decide +kernel), List.mem_of_getElem? (i := 1129) (by decide +kernel)⟩
theorem lw_p69 : lw_okq (⟨"LoanLayersModel", "isThird", "(IIIIII)Z"⟩, 23) := ⟨⟨by decide +kernel, by decide +kernel⟩, List.mem_of_getElem? (i := 749) (by decide +kernel), List.mem_of_getElem? (i := 1132) (by decide +kernel), List.mem_of_getElem? (i := 1133) (by decide +kernel)⟩
theorem lw_p70 : lw_okq (⟨"LoanLayersModel", "ofKind", "(I)I"⟩, 23) := ⟨⟨by decide +kernel, by decide +kernel⟩, List.mem_of_getElem? (i := 749) (by decide +kernel), List.mem_of_getElem? (i := 1140) (by decide +kernel), List.mem_of_getElem? (i := 1141) (by decide +kernel)⟩
theorem lw_p71 : lw_okq (⟨"LoanLayersModel", "greatestLayer", "()I"⟩, 23) := ⟨⟨by decide +kernel, by decide +kernel⟩, List.mem_of_getElem? (i := 749) (by decide +kernel), List.mem_of_getElem? (i := 1144) (by decide +kernel), List.mem_of_getElem? (i := 1145) (by decide +kernel)⟩
theorem lw_p72 : lw_okq (⟨"LoanLayersModel", "lawsOf", "(I)I"⟩, 23) := ⟨⟨by decide +kernel, by decide +kernel⟩, List.mem_of_getElem? (i := 749) (by decide +kernel), List.mem_of_getElem? (i := 1148) (by decide +kernel), List.mem_of_getElem? (i := 1149) (by decide +kernel)⟩
def lw_privs_5 : List (MethodName × Nat) := [(⟨"LoanLayersModel", "roadOf", "(IIII)I"⟩, 23), (⟨"LoanLayersModel", "findsDates", "()V"⟩, 23), (⟨"LoanLayersModel", "isBeginning", "(I)Z"⟩, 23), (⟨"LoanLayersModel", "arrives", "(IIIII)Z"⟩, 23), (⟨"LoanLayersModel", "steps", "(II)V"⟩, 23), (⟨"LoanLayersModel", "isThird", "(IIIIII)Z"⟩, 23), (⟨"LoanLayersModel", "ofKind", "(I)I"⟩, 23), (⟨"LoanLayersModel", "greatestLayer", "()I"⟩, 23), (⟨"LoanLayersModel", "lawsOf", "(I)I"⟩, 23)]
theorem lw_r5 : ∀ q ∈ lw_privs_5, lw_okq q := List.forall_mem_cons.mpr ⟨lw_p64, List.forall_mem_cons.mpr ⟨lw_p65, List.forall_mem_cons.mpr ⟨lw_p66, List.forall_mem_cons.mpr ⟨lw_p67, List.forall_mem_cons.mpr ⟨lw_p68, List.forall_mem_cons.mpr ⟨lw_p69, List.forall_mem_cons.mpr ⟨lw_p70, List.forall_mem_cons.mpr ⟨lw_p71, List.forall_mem_cons.mpr ⟨lw_p72, fun _ h => absurd h List.not_mem_nil⟩⟩⟩⟩⟩⟩⟩⟩⟩
def lw_privs : List (MethodName × Nat) := lw_privs_1 ++ (lw_privs_2 ++ (lw_privs_3 ++ (lw_privs_4 ++ (lw_privs_5))))
def lw_tbl : List Cond := k2_sels lw_privs ++ tables_1
theorem lw_privs_ok : ∀ q ∈ lw_privs, lw_okq q := by
  show ∀ q ∈ lw_privs_1 ++ (lw_privs_2 ++ (lw_privs_3 ++ (lw_privs_4 ++ (lw_privs_5)))), lw_okq q
  exact List.forall_mem_append.mpr ⟨lw_r1, List.forall_mem_append.mpr ⟨lw_r2, List.forall_mem_append.mpr ⟨lw_r3, List.forall_mem_append.mpr ⟨lw_r4, lw_r5⟩⟩⟩⟩

def RX0 : String := "LoanLayers$Form"
def TX0 : u_T := fun k => match k with
  | _ => ("", "", "", false)
def tyX0 : Nat → FieldType := fun k => match k with
  | _ => .int
abbrev wsX00 : List Cond := u_ws RX0 TX0 0
theorem nmX0 : ∀ a, a < 0 → ∀ b, b < 0 → a ≠ b → (TX0 a).2.1 ≠ (TX0 b).2.1 := by decide +kernel
theorem tyX0_ok : ∀ k, k < 0 → parseFieldDescriptor (TX0 k).2.2.1 = some (tyX0 k) := by decide +kernel
abbrev cX0_soundAt : ByteArray := prog_2_method_2_code
def yX0_soundAt : MethodName := ⟨RX0, "soundAt", "(JI)I"⟩
abbrev cX0_length : ByteArray := prog_2_method_3_code
def yX0_length : MethodName := ⟨RX0, "length", "(J)I"⟩
abbrev cX0_longer : ByteArray := prog_2_method_4_code
def yX0_longer : MethodName := ⟨RX0, "longer", "(JII)J"⟩
def RX1 : String := "LoanLayers$Law"
def TX1 : u_T := fun k => match k with
  | 0 => ("LoanLayers$Law", "tongue", "I", true)
  | 1 => ("LoanLayers$Law", "date", "I", true)
  | 2 => ("LoanLayers$Law", "x", "I", true)
  | 3 => ("LoanLayers$Law", "y", "I", true)
  | 4 => ("LoanLayers$Law", "where", "I", true)
  | _ => ("LoanLayers$Law", "z", "I", true)
def tyX1 : Nat → FieldType := fun k => match k with
  | 0 => .int
  | 1 => .int
  | 2 => .int
  | 3 => .int
  | 4 => .int
  | _ => .int
abbrev wsX10 : List Cond := u_ws RX1 TX1 6
theorem nmX1 : ∀ a, a < 6 → ∀ b, b < 6 → a ≠ b → (TX1 a).2.1 ≠ (TX1 b).2.1 := by decide +kernel
theorem tyX1_ok : ∀ k, k < 6 → parseFieldDescriptor (TX1 k).2.2.1 = some (tyX1 k) := by decide +kernel
abbrev cX1_init : ByteArray := prog_3_method_1_code
def yX1_init : MethodName := ⟨RX1, "<init>", "(IIIIII)V"⟩
abbrev cX1_isBefore : ByteArray := prog_3_method_2_code
def yX1_isBefore : MethodName := ⟨RX1, "isBefore", "(LLoanLayers$Law;)Z"⟩
abbrev cX1_affects : ByteArray := prog_3_method_3_code
def yX1_affects : MethodName := ⟨RX1, "affects", "(J)Z"⟩
abbrev cX1_applied : ByteArray := prog_3_method_4_code
def yX1_applied : MethodName := ⟨RX1, "applied", "(J)J"⟩
def RX2 : String := "LoanLayers$Layers"
def TX2 : u_T := fun k => match k with
  | 0 => ("LoanLayers$Layers", "into", "[I", true)
  | 1 => ("LoanLayers$Layers", "first", "[I", true)
  | 2 => ("LoanLayers$Layers", "last", "[I", true)
  | _ => ("LoanLayers$Layers", "layer", "[I", true)
def tyX2 : Nat → FieldType := fun k => match k with
  | 0 => .array .int
  | 1 => .array .int
  | 2 => .array .int
  | _ => .array .int
abbrev wsX20 : List Cond := u_ws RX2 TX2 4
theorem nmX2 : ∀ a, a < 4 → ∀ b, b < 4 → a ≠ b → (TX2 a).2.1 ≠ (TX2 b).2.1 := by decide +kernel
theorem tyX2_ok : ∀ k, k < 4 → parseFieldDescriptor (TX2 k).2.2.1 = some (tyX2 k) := by decide +kernel
abbrev cX2_init : ByteArray := prog_4_method_1_code
def yX2_init : MethodName := ⟨RX2, "<init>", "()V"⟩
abbrev cX2_of : ByteArray := prog_4_method_2_code
def yX2_of : MethodName := ⟨RX2, "of", "(LLoanLayers$World;LLoanLayers$Windows;)LLoanLayers$Layers;"⟩
abbrev cX2_layByFirstDate : ByteArray := prog_4_method_3_code
def yX2_layByFirstDate : MethodName := ⟨RX2, "layByFirstDate", "()V"⟩
abbrev cX2_greatestBefore : ByteArray := prog_4_method_4_code
def yX2_greatestBefore : MethodName := ⟨RX2, "greatestBefore", "(I)I"⟩
abbrev cX2_isOlder : ByteArray := prog_4_method_5_code
def yX2_isOlder : MethodName := ⟨RX2, "isOlder", "(II)Z"⟩
abbrev cX2_layerOf : ByteArray := prog_4_method_6_code
def yX2_layerOf : MethodName := ⟨RX2, "layerOf", "(I)I"⟩
abbrev cX2_olderThan : ByteArray := prog_4_method_7_code
def yX2_olderThan : MethodName := ⟨RX2, "olderThan", "(I)I"⟩
abbrev cX2_greatest : ByteArray := prog_4_method_8_code
def yX2_greatest : MethodName := ⟨RX2, "greatest", "()I"⟩
def RX3 : String := "LoanLayers$Loan"
def TX3 : u_T := fun k => match k with
  | 0 => ("LoanLayers$Loan", "from", "I", true)
  | 1 => ("LoanLayers$Loan", "to", "I", true)
  | 2 => ("LoanLayers$Loan", "word", "J", true)
  | _ => ("LoanLayers$Loan", "end", "J", true)
def tyX3 : Nat → FieldType := fun k => match k with
  | 0 => .int
  | 1 => .int
  | 2 => .long
  | _ => .long
abbrev wsX30 : List Cond := u_ws RX3 TX3 4
theorem nmX3 : ∀ a, a < 4 → ∀ b, b < 4 → a ≠ b → (TX3 a).2.1 ≠ (TX3 b).2.1 := by decide +kernel
theorem tyX3_ok : ∀ k, k < 4 → parseFieldDescriptor (TX3 k).2.2.1 = some (tyX3 k) := by decide +kernel
abbrev cX3_init : ByteArray := prog_5_method_1_code
def yX3_init : MethodName := ⟨RX3, "<init>", "(IIJJ)V"⟩
def RX4 : String := "LoanLayers$Past"
def TX4 : u_T := fun k => match k with
  | 0 => ("LoanLayers$Past", "worlds", "[LLoanLayers$World;", true)
  | _ => ("LoanLayers$Past", "size", "I", false)
def tyX4 : Nat → FieldType := fun k => match k with
  | 0 => .array (.object "LoanLayers$World")
  | _ => .int
abbrev wsX40 : List Cond := u_ws RX4 TX4 2
theorem nmX4 : ∀ a, a < 2 → ∀ b, b < 2 → a ≠ b → (TX4 a).2.1 ≠ (TX4 b).2.1 := by decide +kernel
theorem tyX4_ok : ∀ k, k < 2 → parseFieldDescriptor (TX4 k).2.2.1 = some (tyX4 k) := by decide +kernel
abbrev cX4_init : ByteArray := prog_6_method_1_code
def yX4_init : MethodName := ⟨RX4, "<init>", "()V"⟩
abbrev cX4_add : ByteArray := prog_6_method_2_code
def yX4_add : MethodName := ⟨RX4, "add", "(LLoanLayers$World;)V"⟩
abbrev cX4_latest : ByteArray := prog_6_method_3_code
def yX4_latest : MethodName := ⟨RX4, "latest", "()LLoanLayers$World;"⟩
abbrev cX4_forgetLatest : ByteArray := prog_6_method_4_code
def yX4_forgetLatest : MethodName := ⟨RX4, "forgetLatest", "()V"⟩
abbrev cX4_clear : ByteArray := prog_6_method_5_code
def yX4_clear : MethodName := ⟨RX4, "clear", "()V"⟩
def RX5 : String := "LoanLayers$Text"
def TX5 : u_T := fun k => match k with
  | 0 => ("LoanLayers$Text", "bytes", "[I", true)
  | 1 => ("LoanLayers$Text", "length", "I", false)
  | 2 => ("LoanLayers$Text", "clauses", "I", false)
  | 3 => ("LoanLayers$Text", "start", "I", false)
  | 4 => ("LoanLayers$Text", "end", "I", false)
  | _ => ("LoanLayers$Text", "kind", "I", false)
def tyX5 : Nat → FieldType := fun k => match k with
  | 0 => .array .int
  | 1 => .int
  | 2 => .int
  | 3 => .int
  | 4 => .int
  | _ => .int
abbrev wsX50 : List Cond := u_ws RX5 TX5 6
theorem nmX5 : ∀ a, a < 6 → ∀ b, b < 6 → a ≠ b → (TX5 a).2.1 ≠ (TX5 b).2.1 := by decide +kernel
theorem tyX5_ok : ∀ k, k < 6 → parseFieldDescriptor (TX5 k).2.2.1 = some (tyX5 k) := by decide +kernel
abbrev cX5_init : ByteArray := prog_7_method_1_code
def yX5_init : MethodName := ⟨RX5, "<init>", "()V"⟩
abbrev cX5_append : ByteArray := prog_7_method_2_code
def yX5_append : MethodName := ⟨RX5, "append", "(I)V"⟩
abbrev cX5_clear : ByteArray := prog_7_method_3_code
def yX5_clear : MethodName := ⟨RX5, "clear", "()V"⟩
abbrev cX5_read : ByteArray := prog_7_method_4_code
def yX5_read : MethodName := ⟨RX5, "read", "(LLoanLayers$World;)I"⟩
abbrev cX5_readClause : ByteArray := prog_7_method_5_code
def yX5_readClause : MethodName := ⟨RX5, "readClause", "(LLoanLayers$World;)Z"⟩
abbrev cX5_readLaw : ByteArray := prog_7_method_6_code
def yX5_readLaw : MethodName := ⟨RX5, "readLaw", "(LLoanLayers$World;)Z"⟩
abbrev cX5_readMeeting : ByteArray := prog_7_method_7_code
def yX5_readMeeting : MethodName := ⟨RX5, "readMeeting", "(LLoanLayers$World;)Z"⟩
abbrev cX5_readLoan : ByteArray := prog_7_method_8_code
def yX5_readLoan : MethodName := ⟨RX5, "readLoan", "(LLoanLayers$World;)Z"⟩
abbrev cX5_readPair : ByteArray := prog_7_method_9_code
def yX5_readPair : MethodName := ⟨RX5, "readPair", "()I"⟩
abbrev cX5_number : ByteArray := prog_7_method_10_code
def yX5_number : MethodName := ⟨RX5, "number", "(II)I"⟩
abbrev cX5_letter : ByteArray := prog_7_method_11_code
def yX5_letter : MethodName := ⟨RX5, "letter", "()I"⟩
abbrev cX5_form : ByteArray := prog_7_method_12_code
def yX5_form : MethodName := ⟨RX5, "form", "(I)J"⟩
abbrev cX5_environment : ByteArray := prog_7_method_13_code
def yX5_environment : MethodName := ⟨RX5, "environment", "()I"⟩
abbrev cX5_isSign : ByteArray := prog_7_method_14_code
def yX5_isSign : MethodName := ⟨RX5, "isSign", "(I)Z"⟩
abbrev cX5_isWord : ByteArray := prog_7_method_15_code
def yX5_isWord : MethodName := ⟨RX5, "isWord", "(Ljava/lang/String;)Z"⟩
abbrev cX5_advance : ByteArray := prog_7_method_16_code
def yX5_advance : MethodName := ⟨RX5, "advance", "()V"⟩
abbrev cX5_kindOf : ByteArray := prog_7_method_17_code
def yX5_kindOf : MethodName := ⟨RX5, "kindOf", "(I)I"⟩
abbrev cX5_byteAt : ByteArray := prog_7_method_18_code
def yX5_byteAt : MethodName := ⟨RX5, "byteAt", "(I)I"⟩
def RX6 : String := "LoanLayers$Way"
def TX6 : u_T := fun k => match k with
  | 0 => ("LoanLayers$Way", "lawOf", "[LLoanLayers$Law;", true)
  | 1 => ("LoanLayers$Way", "busy", "[Z", true)
  | 2 => ("LoanLayers$Way", "tried", "[J", true)
  | 3 => ("LoanLayers$Way", "steps", "[I", true)
  | 4 => ("LoanLayers$Way", "end", "J", false)
  | 5 => ("LoanLayers$Way", "to", "I", false)
  | _ => ("LoanLayers$Way", "number", "I", false)
def tyX6 : Nat → FieldType := fun k => match k with
  | 0 => .array (.object "LoanLayers$Law")
  | 1 => .array .boolean
  | 2 => .array .long
  | 3 => .array .int
  | 4 => .long
  | 5 => .int
  | _ => .int
abbrev wsX60 : List Cond := u_ws RX6 TX6 7
theorem nmX6 : ∀ a, a < 7 → ∀ b, b < 7 → a ≠ b → (TX6 a).2.1 ≠ (TX6 b).2.1 := by decide +kernel
theorem tyX6_ok : ∀ k, k < 7 → parseFieldDescriptor (TX6 k).2.2.1 = some (tyX6 k) := by decide +kernel
abbrev cX6_init : ByteArray := prog_8_method_1_code
def yX6_init : MethodName := ⟨RX6, "<init>", "()V"⟩
abbrev cX6_find : ByteArray := prog_8_method_2_code
def yX6_find : MethodName := ⟨RX6, "find", "(LLoanLayers$World;JIJI)V"⟩
abbrev cX6_stepAt : ByteArray := prog_8_method_3_code
def yX6_stepAt : MethodName := ⟨RX6, "stepAt", "(I)I"⟩
abbrev cX6_prepare : ByteArray := prog_8_method_4_code
def yX6_prepare : MethodName := ⟨RX6, "prepare", "(LLoanLayers$World;)V"⟩
abbrev cX6_leads : ByteArray := prog_8_method_5_code
def yX6_leads : MethodName := ⟨RX6, "leads", "(LLoanLayers$World;IIIJ)Z"⟩
abbrev cX6_branches : ByteArray := prog_8_method_6_code
def yX6_branches : MethodName := ⟨RX6, "branches", "(LLoanLayers$World;IIIJ)Z"⟩
abbrev cX6_ageTried : ByteArray := prog_8_method_7_code
def yX6_ageTried : MethodName := ⟨RX6, "ageTried", "(II)V"⟩
abbrev cX6_isBusy : ByteArray := prog_8_method_8_code
def yX6_isBusy : MethodName := ⟨RX6, "isBusy", "(I)Z"⟩
abbrev cX6_changed : ByteArray := prog_8_method_9_code
def yX6_changed : MethodName := ⟨RX6, "changed", "(JII)J"⟩
def RX7 : String := "LoanLayers$Windows"
def TX7 : u_T := fun k => match k with
  | 0 => ("LoanLayers$Windows", "first", "[I", true)
  | 1 => ("LoanLayers$Windows", "last", "[I", true)
  | _ => ("LoanLayers$Windows", "number", "I", false)
def tyX7 : Nat → FieldType := fun k => match k with
  | 0 => .array .int
  | 1 => .array .int
  | _ => .int
abbrev wsX70 : List Cond := u_ws RX7 TX7 3
theorem nmX7 : ∀ a, a < 3 → ∀ b, b < 3 → a ≠ b → (TX7 a).2.1 ≠ (TX7 b).2.1 := by decide +kernel
theorem tyX7_ok : ∀ k, k < 3 → parseFieldDescriptor (TX7 k).2.2.1 = some (tyX7 k) := by decide +kernel
abbrev cX7_init : ByteArray := prog_9_method_1_code
def yX7_init : MethodName := ⟨RX7, "<init>", "()V"⟩
abbrev cX7_of : ByteArray := prog_9_method_2_code
def yX7_of : MethodName := ⟨RX7, "of", "(LLoanLayers$World;LLoanLayers$Loan;)LLoanLayers$Windows;"⟩
abbrev cX7_add : ByteArray := prog_9_method_3_code
def yX7_add : MethodName := ⟨RX7, "add", "(II)V"⟩
abbrev cX7_firstOf : ByteArray := prog_9_method_4_code
def yX7_firstOf : MethodName := ⟨RX7, "firstOf", "(I)I"⟩
abbrev cX7_lastOf : ByteArray := prog_9_method_5_code
def yX7_lastOf : MethodName := ⟨RX7, "lastOf", "(I)I"⟩
abbrev cX7_earliest : ByteArray := prog_9_method_6_code
def yX7_earliest : MethodName := ⟨RX7, "earliest", "()I"⟩
abbrev cX7_latest : ByteArray := prog_9_method_7_code
def yX7_latest : MethodName := ⟨RX7, "latest", "()I"⟩
abbrev cX7_kind : ByteArray := prog_9_method_8_code
def yX7_kind : MethodName := ⟨RX7, "kind", "()I"⟩
def RX8 : String := "LoanLayers$World"
def TX8 : u_T := fun k => match k with
  | 0 => ("LoanLayers$World", "laws", "[LLoanLayers$Law;", true)
  | 1 => ("LoanLayers$World", "loans", "[LLoanLayers$Loan;", true)
  | 2 => ("LoanLayers$World", "first", "[I", true)
  | 3 => ("LoanLayers$World", "last", "[I", true)
  | 4 => ("LoanLayers$World", "lawCount", "I", false)
  | _ => ("LoanLayers$World", "loanCount", "I", false)
def tyX8 : Nat → FieldType := fun k => match k with
  | 0 => .array (.object "LoanLayers$Law")
  | 1 => .array (.object "LoanLayers$Loan")
  | 2 => .array .int
  | 3 => .array .int
  | 4 => .int
  | _ => .int
abbrev wsX80 : List Cond := u_ws RX8 TX8 6
theorem nmX8 : ∀ a, a < 6 → ∀ b, b < 6 → a ≠ b → (TX8 a).2.1 ≠ (TX8 b).2.1 := by decide +kernel
theorem tyX8_ok : ∀ k, k < 6 → parseFieldDescriptor (TX8 k).2.2.1 = some (tyX8 k) := by decide +kernel
abbrev cX8_init : ByteArray := prog_10_method_1_code
def yX8_init : MethodName := ⟨RX8, "<init>", "()V"⟩
abbrev cX8_copy : ByteArray := prog_10_method_2_code
def yX8_copy : MethodName := ⟨RX8, "copy", "()LLoanLayers$World;"⟩
abbrev cX8_clear : ByteArray := prog_10_method_3_code
def yX8_clear : MethodName := ⟨RX8, "clear", "()V"⟩
abbrev cX8_lawAt : ByteArray := prog_10_method_4_code
def yX8_lawAt : MethodName := ⟨RX8, "lawAt", "(I)LLoanLayers$Law;"⟩
abbrev cX8_hasLaw : ByteArray := prog_10_method_5_code
def yX8_hasLaw : MethodName := ⟨RX8, "hasLaw", "(II)Z"⟩
abbrev cX8_lawsOf : ByteArray := prog_10_method_6_code
def yX8_lawsOf : MethodName := ⟨RX8, "lawsOf", "(I)I"⟩
abbrev cX8_addLaw : ByteArray := prog_10_method_7_code
def yX8_addLaw : MethodName := ⟨RX8, "addLaw", "(LLoanLayers$Law;)I"⟩
abbrev cX8_removeLaw : ByteArray := prog_10_method_8_code
def yX8_removeLaw : MethodName := ⟨RX8, "removeLaw", "(I)V"⟩
abbrev cX8_firstOf : ByteArray := prog_10_method_9_code
def yX8_firstOf : MethodName := ⟨RX8, "firstOf", "(I)I"⟩
abbrev cX8_lastOf : ByteArray := prog_10_method_10_code
def yX8_lastOf : MethodName := ⟨RX8, "lastOf", "(I)I"⟩
abbrev cX8_setMeeting : ByteArray := prog_10_method_11_code
def yX8_setMeeting : MethodName := ⟨RX8, "setMeeting", "(III)V"⟩
abbrev cX8_meetings : ByteArray := prog_10_method_12_code
def yX8_meetings : MethodName := ⟨RX8, "meetings", "()I"⟩
abbrev cX8_isMeeting : ByteArray := prog_10_method_13_code
def yX8_isMeeting : MethodName := ⟨RX8, "isMeeting", "(II)Z"⟩
abbrev cX8_loanAt : ByteArray := prog_10_method_14_code
def yX8_loanAt : MethodName := ⟨RX8, "loanAt", "(I)LLoanLayers$Loan;"⟩
abbrev cX8_addLoan : ByteArray := prog_10_method_15_code
def yX8_addLoan : MethodName := ⟨RX8, "addLoan", "(LLoanLayers$Loan;)V"⟩
abbrev cX8_removeLoan : ByteArray := prog_10_method_16_code
def yX8_removeLoan : MethodName := ⟨RX8, "removeLoan", "(I)V"⟩
abbrev cX8_developed : ByteArray := prog_10_method_17_code
def yX8_developed : MethodName := ⟨RX8, "developed", "(JIII)J"⟩
abbrev cX8_borrowed : ByteArray := prog_10_method_18_code
def yX8_borrowed : MethodName := ⟨RX8, "borrowed", "(JIII)J"⟩
def RX9 : String := "LoanLayers"
def TX9 : u_T := fun k => match k with
  | 0 => ("LoanLayers", "now", "LLoanLayers$World;", false)
  | 1 => ("LoanLayers", "past", "LLoanLayers$Past;", true)
  | 2 => ("LoanLayers", "saved", "[LLoanLayers$World;", true)
  | 3 => ("LoanLayers", "text", "LLoanLayers$Text;", true)
  | 4 => ("LoanLayers", "windows", "LLoanLayers$Windows;", true)
  | 5 => ("LoanLayers", "layers", "LLoanLayers$Layers;", true)
  | _ => ("LoanLayers", "way", "LLoanLayers$Way;", true)
def tyX9 : Nat → FieldType := fun k => match k with
  | 0 => .object "LoanLayers$World"
  | 1 => .object "LoanLayers$Past"
  | 2 => .array (.object "LoanLayers$World")
  | 3 => .object "LoanLayers$Text"
  | 4 => .object "LoanLayers$Windows"
  | 5 => .object "LoanLayers$Layers"
  | _ => .object "LoanLayers$Way"
abbrev wsX90 : List Cond := u_ws RX9 TX9 7
theorem nmX9 : ∀ a, a < 7 → ∀ b, b < 7 → a ≠ b → (TX9 a).2.1 ≠ (TX9 b).2.1 := by decide +kernel
theorem tyX9_ok : ∀ k, k < 7 → parseFieldDescriptor (TX9 k).2.2.1 = some (tyX9 k) := by decide +kernel
abbrev cX9_init : ByteArray := prog_1_method_1_code
def yX9_init : MethodName := ⟨RX9, "<init>", "()V"⟩
abbrev cX9_type : ByteArray := prog_1_method_2_code
def yX9_type : MethodName := ⟨RX9, "type", "(I)I"⟩
abbrev cX9_erase : ByteArray := prog_1_method_3_code
def yX9_erase : MethodName := ⟨RX9, "erase", "()I"⟩
abbrev cX9_fault : ByteArray := prog_1_method_4_code
def yX9_fault : MethodName := ⟨RX9, "fault", "()I"⟩
abbrev cX9_tell : ByteArray := prog_1_method_5_code
def yX9_tell : MethodName := ⟨RX9, "tell", "()I"⟩
abbrev cX9_law : ByteArray := prog_1_method_6_code
def yX9_law : MethodName := ⟨RX9, "law", "(IIIIII)I"⟩
abbrev cX9_repeal : ByteArray := prog_1_method_7_code
def yX9_repeal : MethodName := ⟨RX9, "repeal", "(I)I"⟩
abbrev cX9_meet : ByteArray := prog_1_method_8_code
def yX9_meet : MethodName := ⟨RX9, "meet", "(IIII)I"⟩
abbrev cX9_part : ByteArray := prog_1_method_9_code
def yX9_part : MethodName := ⟨RX9, "part", "(II)I"⟩
abbrev cX9_lend : ByteArray := prog_1_method_10_code
def yX9_lend : MethodName := ⟨RX9, "lend", "(IIII)I"⟩
abbrev cX9_drop : ByteArray := prog_1_method_11_code
def yX9_drop : MethodName := ⟨RX9, "drop", "(I)I"⟩
abbrev cX9_undo : ByteArray := prog_1_method_12_code
def yX9_undo : MethodName := ⟨RX9, "undo", "()I"⟩
abbrev cX9_keep : ByteArray := prog_1_method_13_code
def yX9_keep : MethodName := ⟨RX9, "keep", "(I)I"⟩
abbrev cX9_back : ByteArray := prog_1_method_14_code
def yX9_back : MethodName := ⟨RX9, "back", "(I)I"⟩
abbrev cX9_act : ByteArray := prog_1_method_15_code
def yX9_act : MethodName := ⟨RX9, "act", "(LLoanLayers$World;)V"⟩
abbrev cX9_told : ByteArray := prog_1_method_16_code
def yX9_told : MethodName := ⟨RX9, "told", "(II)I"⟩
abbrev cX9_meeting : ByteArray := prog_1_method_17_code
def yX9_meeting : MethodName := ⟨RX9, "meeting", "(III)I"⟩
abbrev cX9_loan : ByteArray := prog_1_method_18_code
def yX9_loan : MethodName := ⟨RX9, "loan", "(II)I"⟩
abbrev cX9_sound : ByteArray := prog_1_method_19_code
def yX9_sound : MethodName := ⟨RX9, "sound", "(III)I"⟩
abbrev cX9_window : ByteArray := prog_1_method_20_code
def yX9_window : MethodName := ⟨RX9, "window", "(III)I"⟩
abbrev cX9_taken : ByteArray := prog_1_method_21_code
def yX9_taken : MethodName := ⟨RX9, "taken", "(III)I"⟩
abbrev cX9_gone : ByteArray := prog_1_method_22_code
def yX9_gone : MethodName := ⟨RX9, "gone", "(IIIII)I"⟩
abbrev cX9_did : ByteArray := prog_1_method_23_code
def yX9_did : MethodName := ⟨RX9, "did", "(III)I"⟩
abbrev cX9_older : ByteArray := prog_1_method_24_code
def yX9_older : MethodName := ⟨RX9, "older", "(II)I"⟩
abbrev cX9_road : ByteArray := prog_1_method_25_code
def yX9_road : MethodName := ⟨RX9, "road", "(IIIII)I"⟩
abbrev cX9_count : ByteArray := prog_1_method_26_code
def yX9_count : MethodName := ⟨RX9, "count", "(I)I"⟩
abbrev cX9_loansOfKind : ByteArray := prog_1_method_27_code
def yX9_loansOfKind : MethodName := ⟨RX9, "loansOfKind", "(I)I"⟩
abbrev cX9_soundOrNumber : ByteArray := prog_1_method_28_code
def yX9_soundOrNumber : MethodName := ⟨RX9, "soundOrNumber", "(JI)I"⟩
abbrev cX9_within : ByteArray := prog_1_method_29_code
def yX9_within : MethodName := ⟨RX9, "within", "(III)Z"⟩
abbrev cX9_isTongue : ByteArray := prog_1_method_30_code
def yX9_isTongue : MethodName := ⟨RX9, "isTongue", "(I)Z"⟩
abbrev cX9_isDate : ByteArray := prog_1_method_31_code
def yX9_isDate : MethodName := ⟨RX9, "isDate", "(I)Z"⟩
abbrev cX9_isSound : ByteArray := prog_1_method_32_code
def yX9_isSound : MethodName := ⟨RX9, "isSound", "(I)Z"⟩
abbrev cX9_pairOf : ByteArray := prog_1_method_33_code
def yX9_pairOf : MethodName := ⟨RX9, "pairOf", "(II)I"⟩
def RX10 : String := "LoanLayersModel"
def TX10 : u_T := fun k => match k with
  | 0 => ("LoanLayersModel", "row", "[I", true)
  | 1 => ("LoanLayersModel", "undos", "I", false)
  | 2 => ("LoanLayersModel", "isKept", "[Z", true)
  | 3 => ("LoanLayersModel", "text", "[I", true)
  | 4 => ("LoanLayersModel", "length", "I", false)
  | 5 => ("LoanLayersModel", "first", "I", false)
  | 6 => ("LoanLayersModel", "behind", "I", false)
  | 7 => ("LoanLayersModel", "toldLaws", "[Z", true)
  | 8 => ("LoanLayersModel", "toldMany", "I", false)
  | 9 => ("LoanLayersModel", "toldLoans", "I", false)
  | 10 => ("LoanLayersModel", "clauses", "I", false)
  | 11 => ("LoanLayersModel", "doing", "Z", false)
  | 12 => ("LoanLayersModel", "numbers", "[I", true)
  | 13 => ("LoanLayersModel", "words", "[I", true)
  | 14 => ("LoanLayersModel", "form", "[I", true)
  | 15 => ("LoanLayersModel", "many", "I", false)
  | 16 => ("LoanLayersModel", "before", "[I", true)
  | 17 => ("LoanLayersModel", "firsts", "[I", true)
  | 18 => ("LoanLayersModel", "lasts", "[I", true)
  | 19 => ("LoanLayersModel", "layers", "[I", true)
  | 20 => ("LoanLayersModel", "steps", "[I", true)
  | 21 => ("LoanLayersModel", "dates", "[I", true)
  | _ => ("LoanLayersModel", "datesMany", "I", false)
def tyX10 : Nat → FieldType := fun k => match k with
  | 0 => .array .int
  | 1 => .int
  | 2 => .array .boolean
  | 3 => .array .int
  | 4 => .int
  | 5 => .int
  | 6 => .int
  | 7 => .array .boolean
  | 8 => .int
  | 9 => .int
  | 10 => .int
  | 11 => .boolean
  | 12 => .array .int
  | 13 => .array .int
  | 14 => .array .int
  | 15 => .int
  | 16 => .array .int
  | 17 => .array .int
  | 18 => .array .int
  | 19 => .array .int
  | 20 => .array .int
  | 21 => .array .int
  | _ => .int
abbrev wsX100 : List Cond := u_ws RX10 TX10 23
theorem nmX10 : ∀ a, a < 23 → ∀ b, b < 23 → a ≠ b → (TX10 a).2.1 ≠ (TX10 b).2.1 := by decide +kernel
theorem tyX10_ok : ∀ k, k < 23 → parseFieldDescriptor (TX10 k).2.2.1 = some (tyX10 k) := by decide +kernel
abbrev cX10_init : ByteArray := prog_12_method_1_code
def yX10_init : MethodName := ⟨RX10, "<init>", "()V"⟩
abbrev cX10_in : ByteArray := prog_12_method_2_code
def yX10_in : MethodName := ⟨RX10, "in", "(JJJ)Z"⟩
abbrev cX10_isTongue : ByteArray := prog_12_method_3_code
def yX10_isTongue : MethodName := ⟨RX10, "isTongue", "(I)Z"⟩
abbrev cX10_areTongues : ByteArray := prog_12_method_4_code
def yX10_areTongues : MethodName := ⟨RX10, "areTongues", "(II)Z"⟩
abbrev cX10_isLaw : ByteArray := prog_12_method_5_code
def yX10_isLaw : MethodName := ⟨RX10, "isLaw", "(I)Z"⟩
abbrev cX10_isLoan : ByteArray := prog_12_method_6_code
def yX10_isLoan : MethodName := ⟨RX10, "isLoan", "(I)Z"⟩
abbrev cX10_isDate : ByteArray := prog_12_method_7_code
def yX10_isDate : MethodName := ⟨RX10, "isDate", "(I)Z"⟩
abbrev cX10_lawOf : ByteArray := prog_12_method_8_code
def yX10_lawOf : MethodName := ⟨RX10, "lawOf", "(II)I"⟩
abbrev cX10_loanAt : ByteArray := prog_12_method_9_code
def yX10_loanAt : MethodName := ⟨RX10, "loanAt", "(I)I"⟩
abbrev cX10_meetAt : ByteArray := prog_12_method_10_code
def yX10_meetAt : MethodName := ⟨RX10, "meetAt", "(II)I"⟩
abbrev cX10_meetings : ByteArray := prog_12_method_11_code
def yX10_meetings : MethodName := ⟨RX10, "meetings", "()I"⟩
abbrev cX10_isMet : ByteArray := prog_12_method_12_code
def yX10_isMet : MethodName := ⟨RX10, "isMet", "(III)Z"⟩
abbrev cX10_type : ByteArray := prog_12_method_13_code
def yX10_type : MethodName := ⟨RX10, "type", "(I)I"⟩
abbrev cX10_erase : ByteArray := prog_12_method_14_code
def yX10_erase : MethodName := ⟨RX10, "erase", "()I"⟩
abbrev cX10_isSmall : ByteArray := prog_12_method_15_code
def yX10_isSmall : MethodName := ⟨RX10, "isSmall", "(I)Z"⟩
abbrev cX10_isDigit : ByteArray := prog_12_method_16_code
def yX10_isDigit : MethodName := ⟨RX10, "isDigit", "(I)Z"⟩
abbrev cX10_nextToken : ByteArray := prog_12_method_17_code
def yX10_nextToken : MethodName := ⟨RX10, "nextToken", "()V"⟩
abbrev cX10_wordHere : ByteArray := prog_12_method_18_code
def yX10_wordHere : MethodName := ⟨RX10, "wordHere", "()I"⟩
abbrev cX10_numberHere : ByteArray := prog_12_method_19_code
def yX10_numberHere : MethodName := ⟨RX10, "numberHere", "()I"⟩
abbrev cX10_number : ByteArray := prog_12_method_20_code
def yX10_number : MethodName := ⟨RX10, "number", "(IIII)Z"⟩
abbrev cX10_isSign : ByteArray := prog_12_method_21_code
def yX10_isSign : MethodName := ⟨RX10, "isSign", "(I)Z"⟩
abbrev cX10_readsSound : ByteArray := prog_12_method_22_code
def yX10_readsSound : MethodName := ⟨RX10, "readsSound", "(II)Z"⟩
abbrev cX10_lostOrSound : ByteArray := prog_12_method_23_code
def yX10_lostOrSound : MethodName := ⟨RX10, "lostOrSound", "(II)Z"⟩
abbrev cX10_where : ByteArray := prog_12_method_24_code
def yX10_where : MethodName := ⟨RX10, "where", "()Z"⟩
abbrev cX10_readsLaw : ByteArray := prog_12_method_25_code
def yX10_readsLaw : MethodName := ⟨RX10, "readsLaw", "()Z"⟩
abbrev cX10_readsMeet : ByteArray := prog_12_method_26_code
def yX10_readsMeet : MethodName := ⟨RX10, "readsMeet", "()Z"⟩
abbrev cX10_rowOf : ByteArray := prog_12_method_27_code
def yX10_rowOf : MethodName := ⟨RX10, "rowOf", "(II)I"⟩
abbrev cX10_readsLoan : ByteArray := prog_12_method_28_code
def yX10_readsLoan : MethodName := ⟨RX10, "readsLoan", "()Z"⟩
abbrev cX10_readsAll : ByteArray := prog_12_method_29_code
def yX10_readsAll : MethodName := ⟨RX10, "readsAll", "()Z"⟩
abbrev cX10_readsClause : ByteArray := prog_12_method_30_code
def yX10_readsClause : MethodName := ⟨RX10, "readsClause", "()Z"⟩
abbrev cX10_reads : ByteArray := prog_12_method_31_code
def yX10_reads : MethodName := ⟨RX10, "reads", "(Z)Z"⟩
abbrev cX10_fault : ByteArray := prog_12_method_32_code
def yX10_fault : MethodName := ⟨RX10, "fault", "()I"⟩
abbrev cX10_tell : ByteArray := prog_12_method_33_code
def yX10_tell : MethodName := ⟨RX10, "tell", "()I"⟩
abbrev cX10_takesWord : ByteArray := prog_12_method_34_code
def yX10_takesWord : MethodName := ⟨RX10, "takesWord", "(I)V"⟩
abbrev cX10_isWhere : ByteArray := prog_12_method_35_code
def yX10_isWhere : MethodName := ⟨RX10, "isWhere", "(III)Z"⟩
abbrev cX10_hits : ByteArray := prog_12_method_36_code
def yX10_hits : MethodName := ⟨RX10, "hits", "(I)Z"⟩
abbrev cX10_goes : ByteArray := prog_12_method_37_code
def yX10_goes : MethodName := ⟨RX10, "goes", "(III)V"⟩
abbrev cX10_takes : ByteArray := prog_12_method_38_code
def yX10_takes : MethodName := ⟨RX10, "takes", "(IIII)V"⟩
abbrev cX10_isEnd : ByteArray := prog_12_method_39_code
def yX10_isEnd : MethodName := ⟨RX10, "isEnd", "(I)Z"⟩
abbrev cX10_fits : ByteArray := prog_12_method_40_code
def yX10_fits : MethodName := ⟨RX10, "fits", "(II)Z"⟩
abbrev cX10_windowOf : ByteArray := prog_12_method_41_code
def yX10_windowOf : MethodName := ⟨RX10, "windowOf", "(IIZ)I"⟩
abbrev cX10_windows : ByteArray := prog_12_method_42_code
def yX10_windows : MethodName := ⟨RX10, "windows", "(I)I"⟩
abbrev cX10_firstOf : ByteArray := prog_12_method_43_code
def yX10_firstOf : MethodName := ⟨RX10, "firstOf", "(I)I"⟩
abbrev cX10_lastOf : ByteArray := prog_12_method_44_code
def yX10_lastOf : MethodName := ⟨RX10, "lastOf", "(I)I"⟩
abbrev cX10_kind : ByteArray := prog_12_method_45_code
def yX10_kind : MethodName := ⟨RX10, "kind", "(I)I"⟩
abbrev cX10_isOlder : ByteArray := prog_12_method_46_code
def yX10_isOlder : MethodName := ⟨RX10, "isOlder", "(II)Z"⟩
abbrev cX10_finds : ByteArray := prog_12_method_47_code
def yX10_finds : MethodName := ⟨RX10, "finds", "()V"⟩
abbrev cX10_olderThan : ByteArray := prog_12_method_48_code
def yX10_olderThan : MethodName := ⟨RX10, "olderThan", "(I)I"⟩
abbrev cX10_copyRow : ByteArray := prog_12_method_49_code
def yX10_copyRow : MethodName := ⟨RX10, "copyRow", "(II)V"⟩
abbrev cX10_keepPast : ByteArray := prog_12_method_50_code
def yX10_keepPast : MethodName := ⟨RX10, "keepPast", "()V"⟩
abbrev cX10_puts : ByteArray := prog_12_method_51_code
def yX10_puts : MethodName := ⟨RX10, "puts", "(IIIIII)I"⟩
abbrev cX10_hasLaw : ByteArray := prog_12_method_52_code
def yX10_hasLaw : MethodName := ⟨RX10, "hasLaw", "(II)Z"⟩
abbrev cX10_law : ByteArray := prog_12_method_53_code
def yX10_law : MethodName := ⟨RX10, "law", "(IIIIII)I"⟩
abbrev cX10_repeal : ByteArray := prog_12_method_54_code
def yX10_repeal : MethodName := ⟨RX10, "repeal", "(I)I"⟩
abbrev cX10_meet : ByteArray := prog_12_method_55_code
def yX10_meet : MethodName := ⟨RX10, "meet", "(IIII)I"⟩
abbrev cX10_part : ByteArray := prog_12_method_56_code
def yX10_part : MethodName := ⟨RX10, "part", "(II)I"⟩
abbrev cX10_lend : ByteArray := prog_12_method_57_code
def yX10_lend : MethodName := ⟨RX10, "lend", "(IIII)I"⟩
abbrev cX10_drop : ByteArray := prog_12_method_58_code
def yX10_drop : MethodName := ⟨RX10, "drop", "(I)I"⟩
abbrev cX10_undo : ByteArray := prog_12_method_59_code
def yX10_undo : MethodName := ⟨RX10, "undo", "()I"⟩
abbrev cX10_keep : ByteArray := prog_12_method_60_code
def yX10_keep : MethodName := ⟨RX10, "keep", "(I)I"⟩
abbrev cX10_back : ByteArray := prog_12_method_61_code
def yX10_back : MethodName := ⟨RX10, "back", "(I)I"⟩
abbrev cX10_told : ByteArray := prog_12_method_62_code
def yX10_told : MethodName := ⟨RX10, "told", "(II)I"⟩
abbrev cX10_meeting : ByteArray := prog_12_method_63_code
def yX10_meeting : MethodName := ⟨RX10, "meeting", "(III)I"⟩
abbrev cX10_loan : ByteArray := prog_12_method_64_code
def yX10_loan : MethodName := ⟨RX10, "loan", "(II)I"⟩
abbrev cX10_sound : ByteArray := prog_12_method_65_code
def yX10_sound : MethodName := ⟨RX10, "sound", "(III)I"⟩
abbrev cX10_window : ByteArray := prog_12_method_66_code
def yX10_window : MethodName := ⟨RX10, "window", "(III)I"⟩
abbrev cX10_formAt : ByteArray := prog_12_method_67_code
def yX10_formAt : MethodName := ⟨RX10, "formAt", "(I)I"⟩
abbrev cX10_taken : ByteArray := prog_12_method_68_code
def yX10_taken : MethodName := ⟨RX10, "taken", "(III)I"⟩
abbrev cX10_gone : ByteArray := prog_12_method_69_code
def yX10_gone : MethodName := ⟨RX10, "gone", "(IIIII)I"⟩
abbrev cX10_did : ByteArray := prog_12_method_70_code
def yX10_did : MethodName := ⟨RX10, "did", "(III)I"⟩
abbrev cX10_older : ByteArray := prog_12_method_71_code
def yX10_older : MethodName := ⟨RX10, "older", "(II)I"⟩
abbrev cX10_isBeginning : ByteArray := prog_12_method_72_code
def yX10_isBeginning : MethodName := ⟨RX10, "isBeginning", "(I)Z"⟩
abbrev cX10_arrives : ByteArray := prog_12_method_73_code
def yX10_arrives : MethodName := ⟨RX10, "arrives", "(IIIII)Z"⟩
abbrev cX10_findsDates : ByteArray := prog_12_method_74_code
def yX10_findsDates : MethodName := ⟨RX10, "findsDates", "()V"⟩
abbrev cX10_steps : ByteArray := prog_12_method_75_code
def yX10_steps : MethodName := ⟨RX10, "steps", "(II)V"⟩
abbrev cX10_roadOf : ByteArray := prog_12_method_76_code
def yX10_roadOf : MethodName := ⟨RX10, "roadOf", "(IIII)I"⟩
abbrev cX10_isThird : ByteArray := prog_12_method_77_code
def yX10_isThird : MethodName := ⟨RX10, "isThird", "(IIIIII)Z"⟩
abbrev cX10_road : ByteArray := prog_12_method_78_code
def yX10_road : MethodName := ⟨RX10, "road", "(IIIII)I"⟩
abbrev cX10_ofKind : ByteArray := prog_12_method_79_code
def yX10_ofKind : MethodName := ⟨RX10, "ofKind", "(I)I"⟩
abbrev cX10_greatestLayer : ByteArray := prog_12_method_80_code
def yX10_greatestLayer : MethodName := ⟨RX10, "greatestLayer", "()I"⟩
abbrev cX10_lawsOf : ByteArray := prog_12_method_81_code
def yX10_lawsOf : MethodName := ⟨RX10, "lawsOf", "(I)I"⟩
abbrev cX10_count : ByteArray := prog_12_method_82_code
def yX10_count : MethodName := ⟨RX10, "count", "(I)I"⟩
def RJ9 : String := "java/lang/Math"
abbrev cJ9_max_7cf53 : ByteArray := prog_13_method_65_code
def yJ9_max_7cf53 : MethodName := ⟨RJ9, "max", "(II)I"⟩
abbrev cJ9_min_7cf53 : ByteArray := prog_13_method_69_code
def yJ9_min_7cf53 : MethodName := ⟨RJ9, "min", "(II)I"⟩
def RJ0 : String := "java/lang/String"
abbrev cJ0_length_8abf5 : ByteArray := prog_14_method_54_code
def yJ0_length_8abf5 : MethodName := ⟨RJ0, "length", "()I"⟩
abbrev cJ0_charAt_5068e : ByteArray := prog_14_method_56_code
def yJ0_charAt_5068e : MethodName := ⟨RJ0, "charAt", "(I)C"⟩
abbrev cJ0_coder_7d493 : ByteArray := prog_14_method_152_code
def yJ0_coder_7d493 : MethodName := ⟨RJ0, "coder", "()B"⟩
abbrev cJ0_isLatin1_aae02 : ByteArray := prog_14_method_154_code
def yJ0_isLatin1_aae02 : MethodName := ⟨RJ0, "isLatin1", "()Z"⟩
abbrev cJ0_checkIndex_df160 : ByteArray := prog_14_method_155_code
def yJ0_checkIndex_df160 : MethodName := ⟨RJ0, "checkIndex", "(II)V"⟩
def RJ1 : String := "java/lang/StringLatin1"
abbrev cJ1_charAt_3b067 : ByteArray := prog_15_method_2_code
def yJ1_charAt_3b067 : MethodName := ⟨RJ1, "charAt", "([BI)C"⟩
def RJ2 : String := "java/lang/StringUTF16"
abbrev cJ2_getChar_3b067 : ByteArray := prog_16_method_5_code
def yJ2_getChar_3b067 : MethodName := ⟨RJ2, "getChar", "([BI)C"⟩
abbrev cJ2_length_9d52b : ByteArray := prog_16_method_6_code
def yJ2_length_9d52b : MethodName := ⟨RJ2, "length", "([B)I"⟩
abbrev cJ2_charAt_3b067 : ByteArray := prog_16_method_83_code
def yJ2_charAt_3b067 : MethodName := ⟨RJ2, "charAt", "([BI)C"⟩
abbrev cJ2_checkIndex_2214a : ByteArray := prog_16_method_91_code
def yJ2_checkIndex_2214a : MethodName := ⟨RJ2, "checkIndex", "(I[B)V"⟩
def RJ3 : String := "jdk/internal/util/Preconditions"
abbrev cJ3_checkIndex_8e157 : ByteArray := prog_17_method_11_code
def yJ3_checkIndex_8e157 : MethodName := ⟨RJ3, "checkIndex", "(IILjava/util/function/BiFunction;)I"⟩
def RL : String := "LoanLayersLaw"
abbrev cL_law : ByteArray := code
def yL_law : MethodName := ⟨RL, "law", "([I)Z"⟩
abbrev vwCl : List vw_C := [(RX1, TX1, 6), (RX2, TX2, 4), (RX3, TX3, 4), (RX4, TX4, 2), (RX5, TX5, 6), (RX6, TX6, 7), (RX7, TX7, 3), (RX8, TX8, 6), (RX9, TX9, 7), (RX10, TX10, 23)]
