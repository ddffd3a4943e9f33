-- ===== PART A: goes FIRST, ahead of the names: the tables' words, and 'selects' of the private methods out of them =====
/-- a private method of a class that the tables say can be made, by its rows of tables_1 -/
def lw_okq (q : MethodName × Nat) : Prop := (q.1.cls ≠ "java/lang/invoke/MethodHandle" ∧ q.1.cls ≠ "java/lang/invoke/VarHandle") ∧ Cond.instantiable q.1.cls q.2 ∈ tables_1 ∧ Cond.privateMethod q.1 ∈ tables_1 ∧ Cond.instanceMethod q.1 ∈ tables_1
theorem lw_p0 : lw_okq (⟨"TermMarks$History", "dropOldest", "()V"⟩, 2) := ⟨⟨by decide +kernel, by decide +kernel⟩, List.mem_of_getElem? (i := 114) (by decide +kernel), List.mem_of_getElem? (i := 243) (by decide +kernel), List.mem_of_getElem? (i := 244) (by decide +kernel)⟩
theorem lw_p1 : lw_okq (⟨"TermMarks", "readNow", "()LTermMarks$Reading;"⟩, 6) := ⟨⟨by decide +kernel, by decide +kernel⟩, List.mem_of_getElem? (i := 17) (by decide +kernel), List.mem_of_getElem? (i := 302) (by decide +kernel), List.mem_of_getElem? (i := 303) (by decide +kernel)⟩
theorem lw_p2 : lw_okq (⟨"TermMarks$Reading", "forget", "()V"⟩, 9) := ⟨⟨by decide +kernel, by decide +kernel⟩, List.mem_of_getElem? (i := 169) (by decide +kernel), List.mem_of_getElem? (i := 310) (by decide +kernel), List.mem_of_getElem? (i := 311) (by decide +kernel)⟩
theorem lw_p3 : lw_okq (⟨"TermMarks$Reading", "readChapter", "(LTermMarks$State;I)V"⟩, 9) := ⟨⟨by decide +kernel, by decide +kernel⟩, List.mem_of_getElem? (i := 169) (by decide +kernel), List.mem_of_getElem? (i := 314) (by decide +kernel), List.mem_of_getElem? (i := 315) (by decide +kernel)⟩
theorem lw_p4 : lw_okq (⟨"TermMarks$Reading", "note", "(LTermMarks$State;III)V"⟩, 9) := ⟨⟨by decide +kernel, by decide +kernel⟩, List.mem_of_getElem? (i := 169) (by decide +kernel), List.mem_of_getElem? (i := 349) (by decide +kernel), List.mem_of_getElem? (i := 350) (by decide +kernel)⟩
theorem lw_p5 : lw_okq (⟨"TermMarks", "ask", "(IIII)I"⟩, 6) := ⟨⟨by decide +kernel, by decide +kernel⟩, List.mem_of_getElem? (i := 17) (by decide +kernel), List.mem_of_getElem? (i := 370) (by decide +kernel), List.mem_of_getElem? (i := 371) (by decide +kernel)⟩
theorem lw_p6 : lw_okq (⟨"TermMarks", "askedLength", "()I"⟩, 6) := ⟨⟨by decide +kernel, by decide +kernel⟩, List.mem_of_getElem? (i := 17) (by decide +kernel), List.mem_of_getElem? (i := 374) (by decide +kernel), List.mem_of_getElem? (i := 375) (by decide +kernel)⟩
theorem lw_p7 : lw_okq (⟨"TermMarks$Loader", "step", "()V"⟩, 5) := ⟨⟨by decide +kernel, by decide +kernel⟩, List.mem_of_getElem? (i := 130) (by decide +kernel), List.mem_of_getElem? (i := 507) (by decide +kernel), List.mem_of_getElem? (i := 508) (by decide +kernel)⟩
theorem lw_p8 : lw_okq (⟨"TermMarks$Loader", "isWord", "(Ljava/lang/String;)Z"⟩, 5) := ⟨⟨by decide +kernel, by decide +kernel⟩, List.mem_of_getElem? (i := 130) (by decide +kernel), List.mem_of_getElem? (i := 520) (by decide +kernel), List.mem_of_getElem? (i := 521) (by decide +kernel)⟩
theorem lw_p9 : lw_okq (⟨"TermMarks$Loader", "readChapter", "()Z"⟩, 5) := ⟨⟨by decide +kernel, by decide +kernel⟩, List.mem_of_getElem? (i := 130) (by decide +kernel), List.mem_of_getElem? (i := 572) (by decide +kernel), List.mem_of_getElem? (i := 573) (by decide +kernel)⟩
theorem lw_p10 : lw_okq (⟨"TermMarks$Loader", "pass", "(I)Z"⟩, 5) := ⟨⟨by decide +kernel, by decide +kernel⟩, List.mem_of_getElem? (i := 130) (by decide +kernel), List.mem_of_getElem? (i := 577) (by decide +kernel), List.mem_of_getElem? (i := 578) (by decide +kernel)⟩
theorem lw_p11 : lw_okq (⟨"TermMarks$Loader", "isRun", "()Z"⟩, 5) := ⟨⟨by decide +kernel, by decide +kernel⟩, List.mem_of_getElem? (i := 130) (by decide +kernel), List.mem_of_getElem? (i := 585) (by decide +kernel), List.mem_of_getElem? (i := 586) (by decide +kernel)⟩
theorem lw_p12 : lw_okq (⟨"TermMarks$Loader", "readWord", "()I"⟩, 5) := ⟨⟨by decide +kernel, by decide +kernel⟩, List.mem_of_getElem? (i := 130) (by decide +kernel), List.mem_of_getElem? (i := 589) (by decide +kernel), List.mem_of_getElem? (i := 590) (by decide +kernel)⟩
theorem lw_p13 : lw_okq (⟨"TermMarks$Loader", "readTerm", "()Z"⟩, 5) := ⟨⟨by decide +kernel, by decide +kernel⟩, List.mem_of_getElem? (i := 130) (by decide +kernel), List.mem_of_getElem? (i := 603) (by decide +kernel), List.mem_of_getElem? (i := 604) (by decide +kernel)⟩
theorem lw_p14 : lw_okq (⟨"TermMarks$Loader", "readForm", "()Z"⟩, 5) := ⟨⟨by decide +kernel, by decide +kernel⟩, List.mem_of_getElem? (i := 130) (by decide +kernel), List.mem_of_getElem? (i := 611) (by decide +kernel), List.mem_of_getElem? (i := 612) (by decide +kernel)⟩
theorem lw_p15 : lw_okq (⟨"TermMarks$State", "occursWithin", "(III)Z"⟩, 5) := ⟨⟨by decide +kernel, by decide +kernel⟩, List.mem_of_getElem? (i := 25) (by decide +kernel), List.mem_of_getElem? (i := 724) (by decide +kernel), List.mem_of_getElem? (i := 725) (by decide +kernel)⟩
def lw_privs_1 : List (MethodName × Nat) := [(⟨"TermMarks$History", "dropOldest", "()V"⟩, 2), (⟨"TermMarks", "readNow", "()LTermMarks$Reading;"⟩, 6), (⟨"TermMarks$Reading", "forget", "()V"⟩, 9), (⟨"TermMarks$Reading", "readChapter", "(LTermMarks$State;I)V"⟩, 9), (⟨"TermMarks$Reading", "note", "(LTermMarks$State;III)V"⟩, 9), (⟨"TermMarks", "ask", "(IIII)I"⟩, 6), (⟨"TermMarks", "askedLength", "()I"⟩, 6), (⟨"TermMarks$Loader", "step", "()V"⟩, 5), (⟨"TermMarks$Loader", "isWord", "(Ljava/lang/String;)Z"⟩, 5), (⟨"TermMarks$Loader", "readChapter", "()Z"⟩, 5), (⟨"TermMarks$Loader", "pass", "(I)Z"⟩, 5), (⟨"TermMarks$Loader", "isRun", "()Z"⟩, 5), (⟨"TermMarks$Loader", "readWord", "()I"⟩, 5), (⟨"TermMarks$Loader", "readTerm", "()Z"⟩, 5), (⟨"TermMarks$Loader", "readForm", "()Z"⟩, 5), (⟨"TermMarks$State", "occursWithin", "(III)Z"⟩, 5)]
theorem lw_r1 : ∀ q ∈ lw_privs_1, lw_okq q := List.forall_mem_cons.mpr ⟨lw_p0, List.forall_mem_cons.mpr ⟨lw_p1, List.forall_mem_cons.mpr ⟨lw_p2, List.forall_mem_cons.mpr ⟨lw_p3, List.forall_mem_cons.mpr ⟨lw_p4, List.forall_mem_cons.mpr ⟨lw_p5, List.forall_mem_cons.mpr ⟨lw_p6, List.forall_mem_cons.mpr ⟨lw_p7, List.forall_mem_cons.mpr ⟨lw_p8, List.forall_mem_cons.mpr ⟨lw_p9, List.forall_mem_cons.mpr ⟨lw_p10, List.forall_mem_cons.mpr ⟨lw_p11, List.forall_mem_cons.mpr ⟨lw_p12, List.forall_mem_cons.mpr ⟨lw_p13, List.forall_mem_cons.mpr ⟨lw_p14, List.forall_mem_cons.mpr ⟨lw_p15, fun _ h => absurd h List.not_mem_nil⟩⟩⟩⟩⟩⟩⟩⟩⟩⟩⟩⟩⟩⟩⟩⟩
theorem lw_p16 : lw_okq (⟨"TermMarksModel", "size", "(I)I"⟩, 15) := ⟨⟨by decide +kernel, by decide +kernel⟩, List.mem_of_getElem? (i := 736) (by decide +kernel), List.mem_of_getElem? (i := 802) (by decide +kernel), List.mem_of_getElem? (i := 803) (by decide +kernel)⟩
theorem lw_p17 : lw_okq (⟨"TermMarksModel", "isWord", "(I)Z"⟩, 15) := ⟨⟨by decide +kernel, by decide +kernel⟩, List.mem_of_getElem? (i := 736) (by decide +kernel), List.mem_of_getElem? (i := 806) (by decide +kernel), List.mem_of_getElem? (i := 807) (by decide +kernel)⟩
theorem lw_p18 : lw_okq (⟨"TermMarksModel", "saves", "([I)V"⟩, 15) := ⟨⟨by decide +kernel, by decide +kernel⟩, List.mem_of_getElem? (i := 736) (by decide +kernel), List.mem_of_getElem? (i := 810) (by decide +kernel), List.mem_of_getElem? (i := 811) (by decide +kernel)⟩
theorem lw_p19 : lw_okq (⟨"TermMarksModel", "allMarks", "(I)I"⟩, 15) := ⟨⟨by decide +kernel, by decide +kernel⟩, List.mem_of_getElem? (i := 736) (by decide +kernel), List.mem_of_getElem? (i := 829) (by decide +kernel), List.mem_of_getElem? (i := 830) (by decide +kernel)⟩
theorem lw_p20 : lw_okq (⟨"TermMarksModel", "readsBy", "(IIZ)I"⟩, 15) := ⟨⟨by decide +kernel, by decide +kernel⟩, List.mem_of_getElem? (i := 736) (by decide +kernel), List.mem_of_getElem? (i := 833) (by decide +kernel), List.mem_of_getElem? (i := 834) (by decide +kernel)⟩
theorem lw_p21 : lw_okq (⟨"TermMarksModel", "longest", "(IIIZ)I"⟩, 15) := ⟨⟨by decide +kernel, by decide +kernel⟩, List.mem_of_getElem? (i := 736) (by decide +kernel), List.mem_of_getElem? (i := 837) (by decide +kernel), List.mem_of_getElem? (i := 838) (by decide +kernel)⟩
theorem lw_p22 : lw_okq (⟨"TermMarksModel", "occurs", "(III)Z"⟩, 15) := ⟨⟨by decide +kernel, by decide +kernel⟩, List.mem_of_getElem? (i := 736) (by decide +kernel), List.mem_of_getElem? (i := 841) (by decide +kernel), List.mem_of_getElem? (i := 842) (by decide +kernel)⟩
theorem lw_p23 : lw_okq (⟨"TermMarksModel", "ofTerm", "(II)I"⟩, 15) := ⟨⟨by decide +kernel, by decide +kernel⟩, List.mem_of_getElem? (i := 736) (by decide +kernel), List.mem_of_getElem? (i := 845) (by decide +kernel), List.mem_of_getElem? (i := 846) (by decide +kernel)⟩
theorem lw_p24 : lw_okq (⟨"TermMarksModel", "baseAt", "(II)I"⟩, 15) := ⟨⟨by decide +kernel, by decide +kernel⟩, List.mem_of_getElem? (i := 736) (by decide +kernel), List.mem_of_getElem? (i := 849) (by decide +kernel), List.mem_of_getElem? (i := 850) (by decide +kernel)⟩
theorem lw_p25 : lw_okq (⟨"TermMarksModel", "isQuiet", "(I)Z"⟩, 15) := ⟨⟨by decide +kernel, by decide +kernel⟩, List.mem_of_getElem? (i := 736) (by decide +kernel), List.mem_of_getElem? (i := 853) (by decide +kernel), List.mem_of_getElem? (i := 854) (by decide +kernel)⟩
theorem lw_p26 : lw_okq (⟨"TermMarksModel", "tries", "(IIII)Z"⟩, 15) := ⟨⟨by decide +kernel, by decide +kernel⟩, List.mem_of_getElem? (i := 736) (by decide +kernel), List.mem_of_getElem? (i := 861) (by decide +kernel), List.mem_of_getElem? (i := 862) (by decide +kernel)⟩
theorem lw_p27 : lw_okq (⟨"TermMarksModel", "isThere", "()Z"⟩, 15) := ⟨⟨by decide +kernel, by decide +kernel⟩, List.mem_of_getElem? (i := 736) (by decide +kernel), List.mem_of_getElem? (i := 865) (by decide +kernel), List.mem_of_getElem? (i := 866) (by decide +kernel)⟩
theorem lw_p28 : lw_okq (⟨"TermMarksModel", "areAlike", "(II)Z"⟩, 15) := ⟨⟨by decide +kernel, by decide +kernel⟩, List.mem_of_getElem? (i := 736) (by decide +kernel), List.mem_of_getElem? (i := 869) (by decide +kernel), List.mem_of_getElem? (i := 870) (by decide +kernel)⟩
theorem lw_p29 : lw_okq (⟨"TermMarksModel", "comes", "()I"⟩, 15) := ⟨⟨by decide +kernel, by decide +kernel⟩, List.mem_of_getElem? (i := 736) (by decide +kernel), List.mem_of_getElem? (i := 873) (by decide +kernel), List.mem_of_getElem? (i := 874) (by decide +kernel)⟩
theorem lw_p30 : lw_okq (⟨"TermMarksModel", "isTerm", "(I)Z"⟩, 15) := ⟨⟨by decide +kernel, by decide +kernel⟩, List.mem_of_getElem? (i := 736) (by decide +kernel), List.mem_of_getElem? (i := 881) (by decide +kernel), List.mem_of_getElem? (i := 882) (by decide +kernel)⟩
theorem lw_p31 : lw_okq (⟨"TermMarksModel", "canBe", "(II)Z"⟩, 15) := ⟨⟨by decide +kernel, by decide +kernel⟩, List.mem_of_getElem? (i := 736) (by decide +kernel), List.mem_of_getElem? (i := 893) (by decide +kernel), List.mem_of_getElem? (i := 894) (by decide +kernel)⟩
def lw_privs_2 : List (MethodName × Nat) := [(⟨"TermMarksModel", "size", "(I)I"⟩, 15), (⟨"TermMarksModel", "isWord", "(I)Z"⟩, 15), (⟨"TermMarksModel", "saves", "([I)V"⟩, 15), (⟨"TermMarksModel", "allMarks", "(I)I"⟩, 15), (⟨"TermMarksModel", "readsBy", "(IIZ)I"⟩, 15), (⟨"TermMarksModel", "longest", "(IIIZ)I"⟩, 15), (⟨"TermMarksModel", "occurs", "(III)Z"⟩, 15), (⟨"TermMarksModel", "ofTerm", "(II)I"⟩, 15), (⟨"TermMarksModel", "baseAt", "(II)I"⟩, 15), (⟨"TermMarksModel", "isQuiet", "(I)Z"⟩, 15), (⟨"TermMarksModel", "tries", "(IIII)Z"⟩, 15), (⟨"TermMarksModel", "isThere", "()Z"⟩, 15), (⟨"TermMarksModel", "areAlike", "(II)Z"⟩, 15), (⟨"TermMarksModel", "comes", "()I"⟩, 15), (⟨"TermMarksModel", "isTerm", "(I)Z"⟩, 15), (⟨"TermMarksModel", "canBe", "(II)Z"⟩, 15)]
theorem lw_r2 : ∀ q ∈ lw_privs_2, lw_okq q := List.forall_mem_cons.mpr ⟨lw_p16, List.forall_mem_cons.mpr ⟨lw_p17, List.forall_mem_cons.mpr ⟨lw_p18, List.forall_mem_cons.mpr ⟨lw_p19, List.forall_mem_cons.mpr ⟨lw_p20, List.forall_mem_cons.mpr ⟨lw_p21, List.forall_mem_cons.mpr ⟨lw_p22, List.forall_mem_cons.mpr ⟨lw_p23, List.forall_mem_cons.mpr ⟨lw_p24, List.forall_mem_cons.mpr ⟨lw_p25, List.forall_mem_cons.mpr ⟨lw_p26, List.forall_mem_cons.mpr ⟨lw_p27, List.forall_mem_cons.mpr ⟨lw_p28, List.forall_mem_cons.mpr ⟨lw_p29, List.forall_mem_cons.mpr ⟨lw_p30, List.forall_mem_cons.mpr ⟨lw_p31, fun _ h => absurd h List.not_mem_nil⟩⟩⟩⟩⟩⟩⟩⟩⟩⟩⟩⟩⟩⟩⟩⟩
theorem lw_p32 : lw_okq (⟨"TermMarksModel", "hasForms", "(I)Z"⟩, 15) := ⟨⟨by decide +kernel, by decide +kernel⟩, List.mem_of_getElem? (i := 736) (by decide +kernel), List.mem_of_getElem? (i := 897) (by decide +kernel), List.mem_of_getElem? (i := 898) (by decide +kernel)⟩
theorem lw_p33 : lw_okq (⟨"TermMarksModel", "wordsOfAll", "()I"⟩, 15) := ⟨⟨by decide +kernel, by decide +kernel⟩, List.mem_of_getElem? (i := 736) (by decide +kernel), List.mem_of_getElem? (i := 908) (by decide +kernel), List.mem_of_getElem? (i := 909) (by decide +kernel)⟩
theorem lw_p34 : lw_okq (⟨"TermMarksModel", "token", "()V"⟩, 15) := ⟨⟨by decide +kernel, by decide +kernel⟩, List.mem_of_getElem? (i := 736) (by decide +kernel), List.mem_of_getElem? (i := 928) (by decide +kernel), List.mem_of_getElem? (i := 929) (by decide +kernel)⟩
theorem lw_p35 : lw_okq (⟨"TermMarksModel", "isLetter", "(I)Z"⟩, 15) := ⟨⟨by decide +kernel, by decide +kernel⟩, List.mem_of_getElem? (i := 736) (by decide +kernel), List.mem_of_getElem? (i := 932) (by decide +kernel), List.mem_of_getElem? (i := 933) (by decide +kernel)⟩
theorem lw_p36 : lw_okq (⟨"TermMarksModel", "isName", "(IIII)Z"⟩, 15) := ⟨⟨by decide +kernel, by decide +kernel⟩, List.mem_of_getElem? (i := 736) (by decide +kernel), List.mem_of_getElem? (i := 936) (by decide +kernel), List.mem_of_getElem? (i := 937) (by decide +kernel)⟩
theorem lw_p37 : lw_okq (⟨"TermMarksModel", "isRun", "()Z"⟩, 15) := ⟨⟨by decide +kernel, by decide +kernel⟩, List.mem_of_getElem? (i := 736) (by decide +kernel), List.mem_of_getElem? (i := 940) (by decide +kernel), List.mem_of_getElem? (i := 941) (by decide +kernel)⟩
theorem lw_p38 : lw_okq (⟨"TermMarksModel", "takesChapter", "()Z"⟩, 15) := ⟨⟨by decide +kernel, by decide +kernel⟩, List.mem_of_getElem? (i := 736) (by decide +kernel), List.mem_of_getElem? (i := 944) (by decide +kernel), List.mem_of_getElem? (i := 945) (by decide +kernel)⟩
theorem lw_p39 : lw_okq (⟨"TermMarksModel", "isSign", "(I)Z"⟩, 15) := ⟨⟨by decide +kernel, by decide +kernel⟩, List.mem_of_getElem? (i := 736) (by decide +kernel), List.mem_of_getElem? (i := 948) (by decide +kernel), List.mem_of_getElem? (i := 949) (by decide +kernel)⟩
theorem lw_p40 : lw_okq (⟨"TermMarksModel", "takesWords", "(I)Z"⟩, 15) := ⟨⟨by decide +kernel, by decide +kernel⟩, List.mem_of_getElem? (i := 736) (by decide +kernel), List.mem_of_getElem? (i := 952) (by decide +kernel), List.mem_of_getElem? (i := 953) (by decide +kernel)⟩
theorem lw_p41 : lw_okq (⟨"TermMarksModel", "wordHere", "()I"⟩, 15) := ⟨⟨by decide +kernel, by decide +kernel⟩, List.mem_of_getElem? (i := 736) (by decide +kernel), List.mem_of_getElem? (i := 956) (by decide +kernel), List.mem_of_getElem? (i := 957) (by decide +kernel)⟩
theorem lw_p42 : lw_okq (⟨"TermMarksModel", "isLike", "(I)Z"⟩, 15) := ⟨⟨by decide +kernel, by decide +kernel⟩, List.mem_of_getElem? (i := 736) (by decide +kernel), List.mem_of_getElem? (i := 960) (by decide +kernel), List.mem_of_getElem? (i := 961) (by decide +kernel)⟩
theorem lw_p43 : lw_okq (⟨"TermMarksModel", "takesTerm", "()Z"⟩, 15) := ⟨⟨by decide +kernel, by decide +kernel⟩, List.mem_of_getElem? (i := 736) (by decide +kernel), List.mem_of_getElem? (i := 964) (by decide +kernel), List.mem_of_getElem? (i := 965) (by decide +kernel)⟩
theorem lw_p44 : lw_okq (⟨"TermMarksModel", "takesForm", "()Z"⟩, 15) := ⟨⟨by decide +kernel, by decide +kernel⟩, List.mem_of_getElem? (i := 736) (by decide +kernel), List.mem_of_getElem? (i := 968) (by decide +kernel), List.mem_of_getElem? (i := 969) (by decide +kernel)⟩
theorem lw_p45 : lw_okq (⟨"TermMarksModel", "quietTerms", "()I"⟩, 15) := ⟨⟨by decide +kernel, by decide +kernel⟩, List.mem_of_getElem? (i := 736) (by decide +kernel), List.mem_of_getElem? (i := 976) (by decide +kernel), List.mem_of_getElem? (i := 977) (by decide +kernel)⟩
theorem lw_p46 : lw_okq (⟨"TermMarksModel", "readings", "(I)I"⟩, 15) := ⟨⟨by decide +kernel, by decide +kernel⟩, List.mem_of_getElem? (i := 736) (by decide +kernel), List.mem_of_getElem? (i := 980) (by decide +kernel), List.mem_of_getElem? (i := 981) (by decide +kernel)⟩
theorem lw_p47 : lw_okq (⟨"TermMarksModel", "reads", "(I)I"⟩, 15) := ⟨⟨by decide +kernel, by decide +kernel⟩, List.mem_of_getElem? (i := 736) (by decide +kernel), List.mem_of_getElem? (i := 984) (by decide +kernel), List.mem_of_getElem? (i := 985) (by decide +kernel)⟩
def lw_privs_3 : List (MethodName × Nat) := [(⟨"TermMarksModel", "hasForms", "(I)Z"⟩, 15), (⟨"TermMarksModel", "wordsOfAll", "()I"⟩, 15), (⟨"TermMarksModel", "token", "()V"⟩, 15), (⟨"TermMarksModel", "isLetter", "(I)Z"⟩, 15), (⟨"TermMarksModel", "isName", "(IIII)Z"⟩, 15), (⟨"TermMarksModel", "isRun", "()Z"⟩, 15), (⟨"TermMarksModel", "takesChapter", "()Z"⟩, 15), (⟨"TermMarksModel", "isSign", "(I)Z"⟩, 15), (⟨"TermMarksModel", "takesWords", "(I)Z"⟩, 15), (⟨"TermMarksModel", "wordHere", "()I"⟩, 15), (⟨"TermMarksModel", "isLike", "(I)Z"⟩, 15), (⟨"TermMarksModel", "takesTerm", "()Z"⟩, 15), (⟨"TermMarksModel", "takesForm", "()Z"⟩, 15), (⟨"TermMarksModel", "quietTerms", "()I"⟩, 15), (⟨"TermMarksModel", "readings", "(I)I"⟩, 15), (⟨"TermMarksModel", "reads", "(I)I"⟩, 15)]
theorem lw_r3 : ∀ q ∈ lw_privs_3, lw_okq q := List.forall_mem_cons.mpr ⟨lw_p32, List.forall_mem_cons.mpr ⟨lw_p33, List.forall_mem_cons.mpr ⟨lw_p34, List.forall_mem_cons.mpr ⟨lw_p35, List.forall_mem_cons.mpr ⟨lw_p36, List.forall_mem_cons.mpr ⟨lw_p37, List.forall_mem_cons.mpr ⟨lw_p38, List.forall_mem_cons.mpr ⟨lw_p39, List.forall_mem_cons.mpr ⟨lw_p40, List.forall_mem_cons.mpr ⟨lw_p41, List.forall_mem_cons.mpr ⟨lw_p42, List.forall_mem_cons.mpr ⟨lw_p43, List.forall_mem_cons.mpr ⟨lw_p44, List.forall_mem_cons.mpr ⟨lw_p45, List.forall_mem_cons.mpr ⟨lw_p46, List.forall_mem_cons.mpr ⟨lw_p47, fun _ h => absurd h List.not_mem_nil⟩⟩⟩⟩⟩⟩⟩⟩⟩⟩⟩⟩⟩⟩⟩⟩
theorem lw_p48 : lw_okq (⟨"TermMarksModel", "forms", "()I"⟩, 15) := ⟨⟨by decide +kernel, by decide +kernel⟩, List.mem_of_getElem? (i := 736) (by decide +kernel), List.mem_of_getElem? (i := 988) (by decide +kernel), List.mem_of_getElem? (i := 989) (by decide +kernel)⟩
theorem lw_p49 : lw_okq (⟨"TermMarksModel", "occurrences", "(I)I"⟩, 15) := ⟨⟨by decide +kernel, by decide +kernel⟩, List.mem_of_getElem? (i := 736) (by decide +kernel), List.mem_of_getElem? (i := 1008) (by decide +kernel), List.mem_of_getElem? (i := 1009) (by decide +kernel)⟩
theorem lw_p50 : lw_okq (⟨"TermMarksModel", "marksOf", "(I)I"⟩, 15) := ⟨⟨by decide +kernel, by decide +kernel⟩, List.mem_of_getElem? (i := 736) (by decide +kernel), List.mem_of_getElem? (i := 1012) (by decide +kernel), List.mem_of_getElem? (i := 1013) (by decide +kernel)⟩
theorem lw_p51 : lw_okq (⟨"TermMarksModel", "firstIn", "(II)I"⟩, 15) := ⟨⟨by decide +kernel, by decide +kernel⟩, List.mem_of_getElem? (i := 736) (by decide +kernel), List.mem_of_getElem? (i := 1016) (by decide +kernel), List.mem_of_getElem? (i := 1017) (by decide +kernel)⟩
def lw_privs_4 : List (MethodName × Nat) := [(⟨"TermMarksModel", "forms", "()I"⟩, 15), (⟨"TermMarksModel", "occurrences", "(I)I"⟩, 15), (⟨"TermMarksModel", "marksOf", "(I)I"⟩, 15), (⟨"TermMarksModel", "firstIn", "(II)I"⟩, 15)]
theorem lw_r4 : ∀ q ∈ lw_privs_4, lw_okq q := List.forall_mem_cons.mpr ⟨lw_p48, List.forall_mem_cons.mpr ⟨lw_p49, List.forall_mem_cons.mpr ⟨lw_p50, List.forall_mem_cons.mpr ⟨lw_p51, fun _ h => absurd h List.not_mem_nil⟩⟩⟩⟩
def lw_privs : List (MethodName × Nat) := lw_privs_1 ++ (lw_privs_2 ++ (lw_privs_3 ++ (lw_privs_4)))
def lw_tbl : List Cond := k2_sels lw_privs ++ tables_1
theorem lw_privs_ok : ∀ q ∈ lw_privs, lw_okq q := by
  show ∀ q ∈ lw_privs_1 ++ (lw_privs_2 ++ (lw_privs_3 ++ (lw_privs_4))), lw_okq q
  exact List.forall_mem_append.mpr ⟨lw_r1, List.forall_mem_append.mpr ⟨lw_r2, List.forall_mem_append.mpr ⟨lw_r3, lw_r4⟩⟩⟩
def RX0 : String := "TermMarks$Chapters"
def TX0 : u_T := fun k => match k with
  | 0 => ("TermMarks$Chapters", "words", "[[I", true)
  | _ => ("TermMarks$Chapters", "lengths", "[I", true)
def tyX0 : Nat → FieldType := fun k => match k with
  | 0 => .array (.array .int)
  | _ => .array .int
theorem nmX0 : ∀ a, a < 2 → ∀ b, b < 2 → a ≠ b → (TX0 a).2.1 ≠ (TX0 b).2.1 := by decide +kernel
theorem tyX0_ok : ∀ k, k < 2 → parseFieldDescriptor (TX0 k).2.2.1 = some (tyX0 k) := by decide +kernel
abbrev cX0_init : ByteArray := prog_2_method_1_code
def yX0_init : MethodName := ⟨RX0, "<init>", "()V"⟩
abbrev cX0_has : ByteArray := prog_2_method_2_code
def yX0_has : MethodName := ⟨RX0, "has", "(I)Z"⟩
abbrev cX0_hasPlace : ByteArray := prog_2_method_3_code
def yX0_hasPlace : MethodName := ⟨RX0, "hasPlace", "(II)Z"⟩
abbrev cX0_lengthOf : ByteArray := prog_2_method_4_code
def yX0_lengthOf : MethodName := ⟨RX0, "lengthOf", "(I)I"⟩
abbrev cX0_wordAt : ByteArray := prog_2_method_5_code
def yX0_wordAt : MethodName := ⟨RX0, "wordAt", "(II)I"⟩
abbrev cX0_put : ByteArray := prog_2_method_6_code
def yX0_put : MethodName := ⟨RX0, "put", "(III)V"⟩
abbrev cX0_cut : ByteArray := prog_2_method_7_code
def yX0_cut : MethodName := ⟨RX0, "cut", "(III)V"⟩
abbrev cX0_empty : ByteArray := prog_2_method_8_code
def yX0_empty : MethodName := ⟨RX0, "empty", "(I)V"⟩
abbrev cX0_exchange : ByteArray := prog_2_method_9_code
def yX0_exchange : MethodName := ⟨RX0, "exchange", "(II)I"⟩
abbrev cX0_trade : ByteArray := prog_2_method_10_code
def yX0_trade : MethodName := ⟨RX0, "trade", "(II)V"⟩
abbrev cX0_total : ByteArray := prog_2_method_11_code
def yX0_total : MethodName := ⟨RX0, "total", "()I"⟩
abbrev cX0_copyFrom : ByteArray := prog_2_method_12_code
def yX0_copyFrom : MethodName := ⟨RX0, "copyFrom", "(LTermMarks$Chapters;)V"⟩
def RX1 : String := "TermMarks$History"
def TX1 : u_T := fun k => match k with
  | 0 => ("TermMarks$History", "states", "[LTermMarks$State;", true)
  | _ => ("TermMarks$History", "size", "I", false)
def tyX1 : Nat → FieldType := fun k => match k with
  | 0 => .array (.object "TermMarks$State")
  | _ => .int
theorem nmX1 : ∀ a, a < 2 → ∀ b, b < 2 → a ≠ b → (TX1 a).2.1 ≠ (TX1 b).2.1 := by decide +kernel
theorem tyX1_ok : ∀ k, k < 2 → parseFieldDescriptor (TX1 k).2.2.1 = some (tyX1 k) := by decide +kernel
abbrev cX1_init : ByteArray := prog_3_method_1_code
def yX1_init : MethodName := ⟨RX1, "<init>", "()V"⟩
abbrev cX1_size : ByteArray := prog_3_method_2_code
def yX1_size : MethodName := ⟨RX1, "size", "()I"⟩
abbrev cX1_keep : ByteArray := prog_3_method_3_code
def yX1_keep : MethodName := ⟨RX1, "keep", "(LTermMarks$State;)V"⟩
abbrev cX1_dropOldest : ByteArray := prog_3_method_4_code
def yX1_dropOldest : MethodName := ⟨RX1, "dropOldest", "()V"⟩
abbrev cX1_giveBack : ByteArray := prog_3_method_5_code
def yX1_giveBack : MethodName := ⟨RX1, "giveBack", "(LTermMarks$State;)V"⟩
def RX2 : String := "TermMarks$Loader"
def TX2 : u_T := fun k => match k with
  | 0 => ("TermMarks$Loader", "text", "LTermMarks$Text;", true)
  | 1 => ("TermMarks$Loader", "state", "LTermMarks$State;", true)
  | 2 => ("TermMarks$Loader", "row", "[I", true)
  | 3 => ("TermMarks$Loader", "start", "I", false)
  | _ => ("TermMarks$Loader", "end", "I", false)
def tyX2 : Nat → FieldType := fun k => match k with
  | 0 => .object "TermMarks$Text"
  | 1 => .object "TermMarks$State"
  | 2 => .array .int
  | 3 => .int
  | _ => .int
theorem nmX2 : ∀ a, a < 5 → ∀ b, b < 5 → a ≠ b → (TX2 a).2.1 ≠ (TX2 b).2.1 := by decide +kernel
theorem tyX2_ok : ∀ k, k < 5 → parseFieldDescriptor (TX2 k).2.2.1 = some (tyX2 k) := by decide +kernel
abbrev cX2_init : ByteArray := prog_4_method_1_code
def yX2_init : MethodName := ⟨RX2, "<init>", "()V"⟩
abbrev cX2_read : ByteArray := prog_4_method_2_code
def yX2_read : MethodName := ⟨RX2, "read", "(LTermMarks$State;)I"⟩
abbrev cX2_readChapter : ByteArray := prog_4_method_3_code
def yX2_readChapter : MethodName := ⟨RX2, "readChapter", "()Z"⟩
abbrev cX2_readTerm : ByteArray := prog_4_method_4_code
def yX2_readTerm : MethodName := ⟨RX2, "readTerm", "()Z"⟩
abbrev cX2_readForm : ByteArray := prog_4_method_5_code
def yX2_readForm : MethodName := ⟨RX2, "readForm", "()Z"⟩
abbrev cX2_readWord : ByteArray := prog_4_method_6_code
def yX2_readWord : MethodName := ⟨RX2, "readWord", "()I"⟩
abbrev cX2_pass : ByteArray := prog_4_method_7_code
def yX2_pass : MethodName := ⟨RX2, "pass", "(I)Z"⟩
abbrev cX2_isRun : ByteArray := prog_4_method_8_code
def yX2_isRun : MethodName := ⟨RX2, "isRun", "()Z"⟩
abbrev cX2_isWord : ByteArray := prog_4_method_9_code
def yX2_isWord : MethodName := ⟨RX2, "isWord", "(Ljava/lang/String;)Z"⟩
abbrev cX2_step : ByteArray := prog_4_method_10_code
def yX2_step : MethodName := ⟨RX2, "step", "()V"⟩
abbrev cX2_isLetter : ByteArray := prog_4_method_11_code
def yX2_isLetter : MethodName := ⟨RX2, "isLetter", "(I)Z"⟩
def RX3 : String := "TermMarks$Reading"
def TX3 : u_T := fun k => match k with
  | 0 => ("TermMarks$Reading", "terms", "[[I", true)
  | 1 => ("TermMarks$Reading", "steps", "[[I", true)
  | 2 => ("TermMarks$Reading", "firsts", "[[I", true)
  | 3 => ("TermMarks$Reading", "times", "[I", true)
  | 4 => ("TermMarks$Reading", "markChapters", "[I", true)
  | 5 => ("TermMarks$Reading", "markPlaces", "[I", true)
  | 6 => ("TermMarks$Reading", "markTerms", "[I", true)
  | 7 => ("TermMarks$Reading", "markCount", "I", false)
  | _ => ("TermMarks$Reading", "readingCount", "I", false)
def tyX3 : Nat → FieldType := fun k => match k with
  | 0 => .array (.array .int)
  | 1 => .array (.array .int)
  | 2 => .array (.array .int)
  | 3 => .array .int
  | 4 => .array .int
  | 5 => .array .int
  | 6 => .array .int
  | 7 => .int
  | _ => .int
theorem nmX3 : ∀ a, a < 9 → ∀ b, b < 9 → a ≠ b → (TX3 a).2.1 ≠ (TX3 b).2.1 := by decide +kernel
theorem tyX3_ok : ∀ k, k < 9 → parseFieldDescriptor (TX3 k).2.2.1 = some (tyX3 k) := by decide +kernel
abbrev cX3_init : ByteArray := prog_5_method_1_code
def yX3_init : MethodName := ⟨RX3, "<init>", "()V"⟩
abbrev cX3_read : ByteArray := prog_5_method_2_code
def yX3_read : MethodName := ⟨RX3, "read", "(LTermMarks$State;)V"⟩
abbrev cX3_forget : ByteArray := prog_5_method_3_code
def yX3_forget : MethodName := ⟨RX3, "forget", "()V"⟩
abbrev cX3_readChapter : ByteArray := prog_5_method_4_code
def yX3_readChapter : MethodName := ⟨RX3, "readChapter", "(LTermMarks$State;I)V"⟩
abbrev cX3_note : ByteArray := prog_5_method_5_code
def yX3_note : MethodName := ⟨RX3, "note", "(LTermMarks$State;III)V"⟩
abbrev cX3_markCount : ByteArray := prog_5_method_6_code
def yX3_markCount : MethodName := ⟨RX3, "markCount", "()I"⟩
abbrev cX3_readingCount : ByteArray := prog_5_method_7_code
def yX3_readingCount : MethodName := ⟨RX3, "readingCount", "()I"⟩
abbrev cX3_termOver : ByteArray := prog_5_method_8_code
def yX3_termOver : MethodName := ⟨RX3, "termOver", "(II)I"⟩
abbrev cX3_stepOver : ByteArray := prog_5_method_9_code
def yX3_stepOver : MethodName := ⟨RX3, "stepOver", "(II)I"⟩
abbrev cX3_isInside : ByteArray := prog_5_method_10_code
def yX3_isInside : MethodName := ⟨RX3, "isInside", "(II)Z"⟩
abbrev cX3_hasMark : ByteArray := prog_5_method_11_code
def yX3_hasMark : MethodName := ⟨RX3, "hasMark", "(II)Z"⟩
abbrev cX3_timesRead : ByteArray := prog_5_method_12_code
def yX3_timesRead : MethodName := ⟨RX3, "timesRead", "(I)I"⟩
abbrev cX3_firstPlace : ByteArray := prog_5_method_13_code
def yX3_firstPlace : MethodName := ⟨RX3, "firstPlace", "(II)I"⟩
abbrev cX3_marksOf : ByteArray := prog_5_method_14_code
def yX3_marksOf : MethodName := ⟨RX3, "marksOf", "(I)I"⟩
abbrev cX3_markPart : ByteArray := prog_5_method_15_code
def yX3_markPart : MethodName := ⟨RX3, "markPart", "(II)I"⟩
def RX4 : String := "TermMarks$State"
def TX4 : u_T := fun k => match k with
  | 0 => ("TermMarks$State", "words", "LTermMarks$Words;", true)
  | 1 => ("TermMarks$State", "chapters", "LTermMarks$Chapters;", true)
  | 2 => ("TermMarks$State", "terms", "LTermMarks$Terms;", true)
  | 3 => ("TermMarks$State", "slots", "[LTermMarks$Chapters;", true)
  | _ => ("TermMarks$State", "taken", "[Z", true)
def tyX4 : Nat → FieldType := fun k => match k with
  | 0 => .object "TermMarks$Words"
  | 1 => .object "TermMarks$Chapters"
  | 2 => .object "TermMarks$Terms"
  | 3 => .array (.object "TermMarks$Chapters")
  | _ => .array .boolean
theorem nmX4 : ∀ a, a < 5 → ∀ b, b < 5 → a ≠ b → (TX4 a).2.1 ≠ (TX4 b).2.1 := by decide +kernel
theorem tyX4_ok : ∀ k, k < 5 → parseFieldDescriptor (TX4 k).2.2.1 = some (tyX4 k) := by decide +kernel
abbrev cX4_init : ByteArray := prog_6_method_1_code
def yX4_init : MethodName := ⟨RX4, "<init>", "()V"⟩
abbrev cX4_hasSlot : ByteArray := prog_6_method_2_code
def yX4_hasSlot : MethodName := ⟨RX4, "hasSlot", "(I)Z"⟩
abbrev cX4_isTaken : ByteArray := prog_6_method_3_code
def yX4_isTaken : MethodName := ⟨RX4, "isTaken", "(I)Z"⟩
abbrev cX4_takenCount : ByteArray := prog_6_method_4_code
def yX4_takenCount : MethodName := ⟨RX4, "takenCount", "()I"⟩
abbrev cX4_keepChapters : ByteArray := prog_6_method_5_code
def yX4_keepChapters : MethodName := ⟨RX4, "keepChapters", "(I)V"⟩
abbrev cX4_bringChapters : ByteArray := prog_6_method_6_code
def yX4_bringChapters : MethodName := ⟨RX4, "bringChapters", "(I)V"⟩
abbrev cX4_mayHaveBase : ByteArray := prog_6_method_7_code
def yX4_mayHaveBase : MethodName := ⟨RX4, "mayHaveBase", "(II)Z"⟩
abbrev cX4_occursAt : ByteArray := prog_6_method_8_code
def yX4_occursAt : MethodName := ⟨RX4, "occursAt", "(III)Z"⟩
abbrev cX4_occurrences : ByteArray := prog_6_method_9_code
def yX4_occurrences : MethodName := ⟨RX4, "occurrences", "(I)I"⟩
abbrev cX4_longestAt : ByteArray := prog_6_method_10_code
def yX4_longestAt : MethodName := ⟨RX4, "longestAt", "(II)I"⟩
abbrev cX4_timesWithin : ByteArray := prog_6_method_11_code
def yX4_timesWithin : MethodName := ⟨RX4, "timesWithin", "(II)I"⟩
abbrev cX4_occursWithin : ByteArray := prog_6_method_12_code
def yX4_occursWithin : MethodName := ⟨RX4, "occursWithin", "(III)Z"⟩
abbrev cX4_copyFrom : ByteArray := prog_6_method_13_code
def yX4_copyFrom : MethodName := ⟨RX4, "copyFrom", "(LTermMarks$State;)V"⟩
def RX5 : String := "TermMarks$Terms"
def TX5 : u_T := fun k => match k with
  | 0 => ("TermMarks$Terms", "words", "[[I", true)
  | 1 => ("TermMarks$Terms", "lengths", "[I", true)
  | 2 => ("TermMarks$Terms", "quiet", "[Z", true)
  | _ => ("TermMarks$Terms", "size", "I", false)
def tyX5 : Nat → FieldType := fun k => match k with
  | 0 => .array (.array .int)
  | 1 => .array .int
  | 2 => .array .boolean
  | _ => .int
theorem nmX5 : ∀ a, a < 4 → ∀ b, b < 4 → a ≠ b → (TX5 a).2.1 ≠ (TX5 b).2.1 := by decide +kernel
theorem tyX5_ok : ∀ k, k < 4 → parseFieldDescriptor (TX5 k).2.2.1 = some (tyX5 k) := by decide +kernel
abbrev cX5_init : ByteArray := prog_7_method_1_code
def yX5_init : MethodName := ⟨RX5, "<init>", "()V"⟩
abbrev cX5_size : ByteArray := prog_7_method_2_code
def yX5_size : MethodName := ⟨RX5, "size", "()I"⟩
abbrev cX5_has : ByteArray := prog_7_method_3_code
def yX5_has : MethodName := ⟨RX5, "has", "(I)Z"⟩
abbrev cX5_lengthOf : ByteArray := prog_7_method_4_code
def yX5_lengthOf : MethodName := ⟨RX5, "lengthOf", "(I)I"⟩
abbrev cX5_wordAt : ByteArray := prog_7_method_5_code
def yX5_wordAt : MethodName := ⟨RX5, "wordAt", "(II)I"⟩
abbrev cX5_isQuiet : ByteArray := prog_7_method_6_code
def yX5_isQuiet : MethodName := ⟨RX5, "isQuiet", "(I)Z"⟩
abbrev cX5_quietCount : ByteArray := prog_7_method_7_code
def yX5_quietCount : MethodName := ⟨RX5, "quietCount", "()I"⟩
abbrev cX5_hush : ByteArray := prog_7_method_8_code
def yX5_hush : MethodName := ⟨RX5, "hush", "(IZ)V"⟩
abbrev cX5_add : ByteArray := prog_7_method_9_code
def yX5_add : MethodName := ⟨RX5, "add", "([II)V"⟩
abbrev cX5_drop : ByteArray := prog_7_method_10_code
def yX5_drop : MethodName := ⟨RX5, "drop", "(I)V"⟩
abbrev cX5_hasLike : ByteArray := prog_7_method_11_code
def yX5_hasLike : MethodName := ⟨RX5, "hasLike", "(LTermMarks$Words;[II)Z"⟩
abbrev cX5_twoAreAlike : ByteArray := prog_7_method_12_code
def yX5_twoAreAlike : MethodName := ⟨RX5, "twoAreAlike", "(LTermMarks$Words;)Z"⟩
abbrev cX5_sameBases : ByteArray := prog_7_method_13_code
def yX5_sameBases : MethodName := ⟨RX5, "sameBases", "(LTermMarks$Words;[I[II)Z"⟩
abbrev cX5_copyFrom : ByteArray := prog_7_method_14_code
def yX5_copyFrom : MethodName := ⟨RX5, "copyFrom", "(LTermMarks$Terms;)V"⟩
def RX6 : String := "TermMarks$Text"
def TX6 : u_T := fun k => match k with
  | 0 => ("TermMarks$Text", "characters", "[I", true)
  | _ => ("TermMarks$Text", "length", "I", false)
def tyX6 : Nat → FieldType := fun k => match k with
  | 0 => .array .int
  | _ => .int
theorem nmX6 : ∀ a, a < 2 → ∀ b, b < 2 → a ≠ b → (TX6 a).2.1 ≠ (TX6 b).2.1 := by decide +kernel
theorem tyX6_ok : ∀ k, k < 2 → parseFieldDescriptor (TX6 k).2.2.1 = some (tyX6 k) := by decide +kernel
abbrev cX6_init : ByteArray := prog_8_method_1_code
def yX6_init : MethodName := ⟨RX6, "<init>", "()V"⟩
abbrev cX6_length : ByteArray := prog_8_method_2_code
def yX6_length : MethodName := ⟨RX6, "length", "()I"⟩
abbrev cX6_at : ByteArray := prog_8_method_3_code
def yX6_at : MethodName := ⟨RX6, "at", "(I)I"⟩
abbrev cX6_add : ByteArray := prog_8_method_4_code
def yX6_add : MethodName := ⟨RX6, "add", "(I)V"⟩
abbrev cX6_empty : ByteArray := prog_8_method_5_code
def yX6_empty : MethodName := ⟨RX6, "empty", "()V"⟩
def RX7 : String := "TermMarks$Words"
def TX7 : u_T := fun k => match k with
  | 0 => ("TermMarks$Words", "spellings", "[J", true)
  | 1 => ("TermMarks$Words", "bases", "[I", true)
  | _ => ("TermMarks$Words", "size", "I", false)
def tyX7 : Nat → FieldType := fun k => match k with
  | 0 => .array .long
  | 1 => .array .int
  | _ => .int
theorem nmX7 : ∀ a, a < 3 → ∀ b, b < 3 → a ≠ b → (TX7 a).2.1 ≠ (TX7 b).2.1 := by decide +kernel
theorem tyX7_ok : ∀ k, k < 3 → parseFieldDescriptor (TX7 k).2.2.1 = some (tyX7 k) := by decide +kernel
abbrev cX7_init : ByteArray := prog_9_method_1_code
def yX7_init : MethodName := ⟨RX7, "<init>", "()V"⟩
abbrev cX7_spell : ByteArray := prog_9_method_2_code
def yX7_spell : MethodName := ⟨RX7, "spell", "(JII)J"⟩
abbrev cX7_size : ByteArray := prog_9_method_3_code
def yX7_size : MethodName := ⟨RX7, "size", "()I"⟩
abbrev cX7_has : ByteArray := prog_9_method_4_code
def yX7_has : MethodName := ⟨RX7, "has", "(I)Z"⟩
abbrev cX7_add : ByteArray := prog_9_method_5_code
def yX7_add : MethodName := ⟨RX7, "add", "(J)I"⟩
abbrev cX7_find : ByteArray := prog_9_method_6_code
def yX7_find : MethodName := ⟨RX7, "find", "(J)I"⟩
abbrev cX7_letterAt : ByteArray := prog_9_method_7_code
def yX7_letterAt : MethodName := ⟨RX7, "letterAt", "(II)I"⟩
abbrev cX7_baseOf : ByteArray := prog_9_method_8_code
def yX7_baseOf : MethodName := ⟨RX7, "baseOf", "(I)I"⟩
abbrev cX7_putBase : ByteArray := prog_9_method_9_code
def yX7_putBase : MethodName := ⟨RX7, "putBase", "(II)V"⟩
abbrev cX7_isForm : ByteArray := prog_9_method_10_code
def yX7_isForm : MethodName := ⟨RX7, "isForm", "(I)Z"⟩
abbrev cX7_hasForms : ByteArray := prog_9_method_11_code
def yX7_hasForms : MethodName := ⟨RX7, "hasForms", "(I)Z"⟩
abbrev cX7_formCount : ByteArray := prog_9_method_12_code
def yX7_formCount : MethodName := ⟨RX7, "formCount", "()I"⟩
abbrev cX7_copyFrom : ByteArray := prog_9_method_13_code
def yX7_copyFrom : MethodName := ⟨RX7, "copyFrom", "(LTermMarks$Words;)V"⟩
def RX8 : String := "TermMarks"
def TX8 : u_T := fun k => match k with
  | 0 => ("TermMarks", "state", "LTermMarks$State;", true)
  | 1 => ("TermMarks", "trial", "LTermMarks$State;", true)
  | 2 => ("TermMarks", "history", "LTermMarks$History;", true)
  | 3 => ("TermMarks", "loader", "LTermMarks$Loader;", true)
  | 4 => ("TermMarks", "reading", "LTermMarks$Reading;", true)
  | _ => ("TermMarks", "asked", "[I", true)
def tyX8 : Nat → FieldType := fun k => match k with
  | 0 => .object "TermMarks$State"
  | 1 => .object "TermMarks$State"
  | 2 => .object "TermMarks$History"
  | 3 => .object "TermMarks$Loader"
  | 4 => .object "TermMarks$Reading"
  | _ => .array .int
theorem nmX8 : ∀ a, a < 6 → ∀ b, b < 6 → a ≠ b → (TX8 a).2.1 ≠ (TX8 b).2.1 := by decide +kernel
theorem tyX8_ok : ∀ k, k < 6 → parseFieldDescriptor (TX8 k).2.2.1 = some (tyX8 k) := by decide +kernel
abbrev cX8_init : ByteArray := prog_1_method_1_code
def yX8_init : MethodName := ⟨RX8, "<init>", "()V"⟩
abbrev cX8_insert : ByteArray := prog_1_method_2_code
def yX8_insert : MethodName := ⟨RX8, "insert", "(III)I"⟩
abbrev cX8_delete : ByteArray := prog_1_method_3_code
def yX8_delete : MethodName := ⟨RX8, "delete", "(III)I"⟩
abbrev cX8_replace : ByteArray := prog_1_method_4_code
def yX8_replace : MethodName := ⟨RX8, "replace", "(II)I"⟩
abbrev cX8_swap : ByteArray := prog_1_method_5_code
def yX8_swap : MethodName := ⟨RX8, "swap", "(II)I"⟩
abbrev cX8_addTerm : ByteArray := prog_1_method_6_code
def yX8_addTerm : MethodName := ⟨RX8, "addTerm", "(IIII)I"⟩
abbrev cX8_removeTerm : ByteArray := prog_1_method_7_code
def yX8_removeTerm : MethodName := ⟨RX8, "removeTerm", "(I)I"⟩
abbrev cX8_setQuiet : ByteArray := prog_1_method_8_code
def yX8_setQuiet : MethodName := ⟨RX8, "setQuiet", "(II)I"⟩
abbrev cX8_setBase : ByteArray := prog_1_method_9_code
def yX8_setBase : MethodName := ⟨RX8, "setBase", "(II)I"⟩
abbrev cX8_take : ByteArray := prog_1_method_10_code
def yX8_take : MethodName := ⟨RX8, "take", "(I)I"⟩
abbrev cX8_restore : ByteArray := prog_1_method_11_code
def yX8_restore : MethodName := ⟨RX8, "restore", "(I)I"⟩
abbrev cX8_undo : ByteArray := prog_1_method_12_code
def yX8_undo : MethodName := ⟨RX8, "undo", "()I"⟩
abbrev cX8_append : ByteArray := prog_1_method_13_code
def yX8_append : MethodName := ⟨RX8, "append", "(I)I"⟩
abbrev cX8_clearText : ByteArray := prog_1_method_14_code
def yX8_clearText : MethodName := ⟨RX8, "clearText", "()I"⟩
abbrev cX8_load : ByteArray := prog_1_method_15_code
def yX8_load : MethodName := ⟨RX8, "load", "()I"⟩
abbrev cX8_count : ByteArray := prog_1_method_16_code
def yX8_count : MethodName := ⟨RX8, "count", "(I)I"⟩
abbrev cX8_letter : ByteArray := prog_1_method_17_code
def yX8_letter : MethodName := ⟨RX8, "letter", "(II)I"⟩
abbrev cX8_base : ByteArray := prog_1_method_18_code
def yX8_base : MethodName := ⟨RX8, "base", "(I)I"⟩
abbrev cX8_place : ByteArray := prog_1_method_19_code
def yX8_place : MethodName := ⟨RX8, "place", "(III)I"⟩
abbrev cX8_term : ByteArray := prog_1_method_20_code
def yX8_term : MethodName := ⟨RX8, "term", "(II)I"⟩
abbrev cX8_firstUse : ByteArray := prog_1_method_21_code
def yX8_firstUse : MethodName := ⟨RX8, "firstUse", "(II)I"⟩
abbrev cX8_mark : ByteArray := prog_1_method_22_code
def yX8_mark : MethodName := ⟨RX8, "mark", "(II)I"⟩
abbrev cX8_why : ByteArray := prog_1_method_23_code
def yX8_why : MethodName := ⟨RX8, "why", "(III)I"⟩
abbrev cX8_nested : ByteArray := prog_1_method_24_code
def yX8_nested : MethodName := ⟨RX8, "nested", "(II)I"⟩
abbrev cX8_gain : ByteArray := prog_1_method_25_code
def yX8_gain : MethodName := ⟨RX8, "gain", "(IIII)I"⟩
abbrev cX8_greediest : ByteArray := prog_1_method_26_code
def yX8_greediest : MethodName := ⟨RX8, "greediest", "()I"⟩
abbrev cX8_readNow : ByteArray := prog_1_method_27_code
def yX8_readNow : MethodName := ⟨RX8, "readNow", "()LTermMarks$Reading;"⟩
abbrev cX8_ask : ByteArray := prog_1_method_28_code
def yX8_ask : MethodName := ⟨RX8, "ask", "(IIII)I"⟩
abbrev cX8_askedLength : ByteArray := prog_1_method_29_code
def yX8_askedLength : MethodName := ⟨RX8, "askedLength", "()I"⟩
def RX9 : String := "TermMarksModel"
def TX9 : u_T := fun k => match k with
  | 0 => ("TermMarksModel", "now", "[I", true)
  | 1 => ("TermMarksModel", "past", "[I", true)
  | 2 => ("TermMarksModel", "aside", "[I", true)
  | 3 => ("TermMarksModel", "states", "I", false)
  | 4 => ("TermMarksModel", "text", "[I", true)
  | 5 => ("TermMarksModel", "length", "I", false)
  | 6 => ("TermMarksModel", "letters", "[I", true)
  | 7 => ("TermMarksModel", "tried", "[I", true)
  | 8 => ("TermMarksModel", "over", "[I", true)
  | 9 => ("TermMarksModel", "which", "[I", true)
  | 10 => ("TermMarksModel", "marked", "[Z", true)
  | 11 => ("TermMarksModel", "start", "I", false)
  | 12 => ("TermMarksModel", "end", "I", false)
  | 13 => ("TermMarksModel", "words", "[I", true)
  | _ => ("TermMarksModel", "wordMany", "I", false)
def tyX9 : Nat → FieldType := fun k => match k with
  | 0 => .array .int
  | 1 => .array .int
  | 2 => .array .int
  | 3 => .int
  | 4 => .array .int
  | 5 => .int
  | 6 => .array .int
  | 7 => .array .int
  | 8 => .array .int
  | 9 => .array .int
  | 10 => .array .boolean
  | 11 => .int
  | 12 => .int
  | 13 => .array .int
  | _ => .int
theorem nmX9 : ∀ a, a < 15 → ∀ b, b < 15 → a ≠ b → (TX9 a).2.1 ≠ (TX9 b).2.1 := by decide +kernel
theorem tyX9_ok : ∀ k, k < 15 → parseFieldDescriptor (TX9 k).2.2.1 = some (tyX9 k) := by decide +kernel
abbrev cX9_init : ByteArray := prog_11_method_1_code
def yX9_init : MethodName := ⟨RX9, "<init>", "()V"⟩
abbrev cX9_in : ByteArray := prog_11_method_2_code
def yX9_in : MethodName := ⟨RX9, "in", "(III)Z"⟩
abbrev cX9_saves : ByteArray := prog_11_method_3_code
def yX9_saves : MethodName := ⟨RX9, "saves", "([I)V"⟩
abbrev cX9_undo : ByteArray := prog_11_method_4_code
def yX9_undo : MethodName := ⟨RX9, "undo", "()I"⟩
abbrev cX9_isWord : ByteArray := prog_11_method_5_code
def yX9_isWord : MethodName := ⟨RX9, "isWord", "(I)Z"⟩
abbrev cX9_isChapter : ByteArray := prog_11_method_6_code
def yX9_isChapter : MethodName := ⟨RX9, "isChapter", "(I)Z"⟩
abbrev cX9_size : ByteArray := prog_11_method_7_code
def yX9_size : MethodName := ⟨RX9, "size", "(I)I"⟩
abbrev cX9_at : ByteArray := prog_11_method_8_code
def yX9_at : MethodName := ⟨RX9, "at", "(II)I"⟩
abbrev cX9_baseAt : ByteArray := prog_11_method_9_code
def yX9_baseAt : MethodName := ⟨RX9, "baseAt", "(II)I"⟩
abbrev cX9_insert : ByteArray := prog_11_method_10_code
def yX9_insert : MethodName := ⟨RX9, "insert", "(III)I"⟩
abbrev cX9_delete : ByteArray := prog_11_method_11_code
def yX9_delete : MethodName := ⟨RX9, "delete", "(III)I"⟩
abbrev cX9_replace : ByteArray := prog_11_method_12_code
def yX9_replace : MethodName := ⟨RX9, "replace", "(II)I"⟩
abbrev cX9_swap : ByteArray := prog_11_method_13_code
def yX9_swap : MethodName := ⟨RX9, "swap", "(II)I"⟩
abbrev cX9_ofTerm : ByteArray := prog_11_method_14_code
def yX9_ofTerm : MethodName := ⟨RX9, "ofTerm", "(II)I"⟩
abbrev cX9_isTerm : ByteArray := prog_11_method_15_code
def yX9_isTerm : MethodName := ⟨RX9, "isTerm", "(I)Z"⟩
abbrev cX9_isQuiet : ByteArray := prog_11_method_16_code
def yX9_isQuiet : MethodName := ⟨RX9, "isQuiet", "(I)Z"⟩
abbrev cX9_areAlike : ByteArray := prog_11_method_17_code
def yX9_areAlike : MethodName := ⟨RX9, "areAlike", "(II)Z"⟩
abbrev cX9_isThere : ByteArray := prog_11_method_18_code
def yX9_isThere : MethodName := ⟨RX9, "isThere", "()Z"⟩
abbrev cX9_tries : ByteArray := prog_11_method_19_code
def yX9_tries : MethodName := ⟨RX9, "tries", "(IIII)Z"⟩
abbrev cX9_comes : ByteArray := prog_11_method_20_code
def yX9_comes : MethodName := ⟨RX9, "comes", "()I"⟩
abbrev cX9_addTerm : ByteArray := prog_11_method_21_code
def yX9_addTerm : MethodName := ⟨RX9, "addTerm", "(IIII)I"⟩
abbrev cX9_removeTerm : ByteArray := prog_11_method_22_code
def yX9_removeTerm : MethodName := ⟨RX9, "removeTerm", "(I)I"⟩
abbrev cX9_setQuiet : ByteArray := prog_11_method_23_code
def yX9_setQuiet : MethodName := ⟨RX9, "setQuiet", "(II)I"⟩
abbrev cX9_hasForms : ByteArray := prog_11_method_24_code
def yX9_hasForms : MethodName := ⟨RX9, "hasForms", "(I)Z"⟩
abbrev cX9_canBe : ByteArray := prog_11_method_25_code
def yX9_canBe : MethodName := ⟨RX9, "canBe", "(II)Z"⟩
abbrev cX9_setBase : ByteArray := prog_11_method_26_code
def yX9_setBase : MethodName := ⟨RX9, "setBase", "(II)I"⟩
abbrev cX9_wordsOfAll : ByteArray := prog_11_method_27_code
def yX9_wordsOfAll : MethodName := ⟨RX9, "wordsOfAll", "()I"⟩
abbrev cX9_isSlot : ByteArray := prog_11_method_28_code
def yX9_isSlot : MethodName := ⟨RX9, "isSlot", "(I)Z"⟩
abbrev cX9_take : ByteArray := prog_11_method_29_code
def yX9_take : MethodName := ⟨RX9, "take", "(I)I"⟩
abbrev cX9_restore : ByteArray := prog_11_method_30_code
def yX9_restore : MethodName := ⟨RX9, "restore", "(I)I"⟩
abbrev cX9_occurs : ByteArray := prog_11_method_31_code
def yX9_occurs : MethodName := ⟨RX9, "occurs", "(III)Z"⟩
abbrev cX9_longest : ByteArray := prog_11_method_32_code
def yX9_longest : MethodName := ⟨RX9, "longest", "(IIIZ)I"⟩
abbrev cX9_readsBy : ByteArray := prog_11_method_33_code
def yX9_readsBy : MethodName := ⟨RX9, "readsBy", "(IIZ)I"⟩
abbrev cX9_reads : ByteArray := prog_11_method_34_code
def yX9_reads : MethodName := ⟨RX9, "reads", "(I)I"⟩
abbrev cX9_allMarks : ByteArray := prog_11_method_35_code
def yX9_allMarks : MethodName := ⟨RX9, "allMarks", "(I)I"⟩
abbrev cX9_readings : ByteArray := prog_11_method_36_code
def yX9_readings : MethodName := ⟨RX9, "readings", "(I)I"⟩
abbrev cX9_append : ByteArray := prog_11_method_37_code
def yX9_append : MethodName := ⟨RX9, "append", "(I)I"⟩
abbrev cX9_clearText : ByteArray := prog_11_method_38_code
def yX9_clearText : MethodName := ⟨RX9, "clearText", "()I"⟩
abbrev cX9_isLetter : ByteArray := prog_11_method_39_code
def yX9_isLetter : MethodName := ⟨RX9, "isLetter", "(I)Z"⟩
abbrev cX9_token : ByteArray := prog_11_method_40_code
def yX9_token : MethodName := ⟨RX9, "token", "()V"⟩
abbrev cX9_isRun : ByteArray := prog_11_method_41_code
def yX9_isRun : MethodName := ⟨RX9, "isRun", "()Z"⟩
abbrev cX9_isSign : ByteArray := prog_11_method_42_code
def yX9_isSign : MethodName := ⟨RX9, "isSign", "(I)Z"⟩
abbrev cX9_isName : ByteArray := prog_11_method_43_code
def yX9_isName : MethodName := ⟨RX9, "isName", "(IIII)Z"⟩
abbrev cX9_isLike : ByteArray := prog_11_method_44_code
def yX9_isLike : MethodName := ⟨RX9, "isLike", "(I)Z"⟩
abbrev cX9_wordHere : ByteArray := prog_11_method_45_code
def yX9_wordHere : MethodName := ⟨RX9, "wordHere", "()I"⟩
abbrev cX9_takesWords : ByteArray := prog_11_method_46_code
def yX9_takesWords : MethodName := ⟨RX9, "takesWords", "(I)Z"⟩
abbrev cX9_takesChapter : ByteArray := prog_11_method_47_code
def yX9_takesChapter : MethodName := ⟨RX9, "takesChapter", "()Z"⟩
abbrev cX9_takesTerm : ByteArray := prog_11_method_48_code
def yX9_takesTerm : MethodName := ⟨RX9, "takesTerm", "()Z"⟩
abbrev cX9_takesForm : ByteArray := prog_11_method_49_code
def yX9_takesForm : MethodName := ⟨RX9, "takesForm", "()Z"⟩
abbrev cX9_load : ByteArray := prog_11_method_50_code
def yX9_load : MethodName := ⟨RX9, "load", "()I"⟩
abbrev cX9_quietTerms : ByteArray := prog_11_method_51_code
def yX9_quietTerms : MethodName := ⟨RX9, "quietTerms", "()I"⟩
abbrev cX9_forms : ByteArray := prog_11_method_52_code
def yX9_forms : MethodName := ⟨RX9, "forms", "()I"⟩
abbrev cX9_count : ByteArray := prog_11_method_53_code
def yX9_count : MethodName := ⟨RX9, "count", "(I)I"⟩
abbrev cX9_letter : ByteArray := prog_11_method_54_code
def yX9_letter : MethodName := ⟨RX9, "letter", "(II)I"⟩
abbrev cX9_base : ByteArray := prog_11_method_55_code
def yX9_base : MethodName := ⟨RX9, "base", "(I)I"⟩
abbrev cX9_place : ByteArray := prog_11_method_56_code
def yX9_place : MethodName := ⟨RX9, "place", "(III)I"⟩
abbrev cX9_occurrences : ByteArray := prog_11_method_57_code
def yX9_occurrences : MethodName := ⟨RX9, "occurrences", "(I)I"⟩
abbrev cX9_marksOf : ByteArray := prog_11_method_58_code
def yX9_marksOf : MethodName := ⟨RX9, "marksOf", "(I)I"⟩
abbrev cX9_firstIn : ByteArray := prog_11_method_59_code
def yX9_firstIn : MethodName := ⟨RX9, "firstIn", "(II)I"⟩
abbrev cX9_term : ByteArray := prog_11_method_60_code
def yX9_term : MethodName := ⟨RX9, "term", "(II)I"⟩
abbrev cX9_firstUse : ByteArray := prog_11_method_61_code
def yX9_firstUse : MethodName := ⟨RX9, "firstUse", "(II)I"⟩
abbrev cX9_mark : ByteArray := prog_11_method_62_code
def yX9_mark : MethodName := ⟨RX9, "mark", "(II)I"⟩
abbrev cX9_why : ByteArray := prog_11_method_63_code
def yX9_why : MethodName := ⟨RX9, "why", "(III)I"⟩
abbrev cX9_nested : ByteArray := prog_11_method_64_code
def yX9_nested : MethodName := ⟨RX9, "nested", "(II)I"⟩
abbrev cX9_gain : ByteArray := prog_11_method_65_code
def yX9_gain : MethodName := ⟨RX9, "gain", "(IIII)I"⟩
abbrev cX9_greediest : ByteArray := prog_11_method_66_code
def yX9_greediest : MethodName := ⟨RX9, "greediest", "()I"⟩
def RJ0 : String := "java/lang/String"
abbrev cJ0_length_8abf5 : ByteArray := prog_12_method_54_code
def yJ0_length_8abf5 : MethodName := ⟨RJ0, "length", "()I"⟩
abbrev cJ0_charAt_5068e : ByteArray := prog_12_method_56_code
def yJ0_charAt_5068e : MethodName := ⟨RJ0, "charAt", "(I)C"⟩
abbrev cJ0_coder_7d493 : ByteArray := prog_12_method_152_code
def yJ0_coder_7d493 : MethodName := ⟨RJ0, "coder", "()B"⟩
abbrev cJ0_isLatin1_aae02 : ByteArray := prog_12_method_154_code
def yJ0_isLatin1_aae02 : MethodName := ⟨RJ0, "isLatin1", "()Z"⟩
abbrev cJ0_checkIndex_df160 : ByteArray := prog_12_method_155_code
def yJ0_checkIndex_df160 : MethodName := ⟨RJ0, "checkIndex", "(II)V"⟩
def RJ1 : String := "java/lang/StringLatin1"
abbrev cJ1_charAt_3b067 : ByteArray := prog_13_method_2_code
def yJ1_charAt_3b067 : MethodName := ⟨RJ1, "charAt", "([BI)C"⟩
def RJ2 : String := "java/lang/StringUTF16"
abbrev cJ2_getChar_3b067 : ByteArray := prog_14_method_5_code
def yJ2_getChar_3b067 : MethodName := ⟨RJ2, "getChar", "([BI)C"⟩
abbrev cJ2_length_9d52b : ByteArray := prog_14_method_6_code
def yJ2_length_9d52b : MethodName := ⟨RJ2, "length", "([B)I"⟩
abbrev cJ2_charAt_3b067 : ByteArray := prog_14_method_83_code
def yJ2_charAt_3b067 : MethodName := ⟨RJ2, "charAt", "([BI)C"⟩
abbrev cJ2_checkIndex_2214a : ByteArray := prog_14_method_91_code
def yJ2_checkIndex_2214a : MethodName := ⟨RJ2, "checkIndex", "(I[B)V"⟩
def RJ10 : String := "java/lang/System"
def RJ3 : String := "jdk/internal/util/Preconditions"
abbrev cJ3_checkIndex_8e157 : ByteArray := prog_16_method_11_code
def yJ3_checkIndex_8e157 : MethodName := ⟨RJ3, "checkIndex", "(IILjava/util/function/BiFunction;)I"⟩
def RL : String := "TermMarksLaw"
abbrev cL_law : ByteArray := code
def yL_law : MethodName := ⟨RL, "law", "([I)Z"⟩
abbrev vwCl : List vw_C := [(RX0, TX0, 2), (RX1, TX1, 2), (RX2, TX2, 5), (RX3, TX3, 9), (RX4, TX4, 5), (RX5, TX5, 4), (RX6, TX6, 2), (RX7, TX7, 3), (RX8, TX8, 6), (RX9, TX9, 15)]
