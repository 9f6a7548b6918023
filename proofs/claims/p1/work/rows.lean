section
/-! the tables' words: PART A of the claim's own skeleton (a starting text) -/
/-- a private method of a class that the tables say can be made, by its rows of tables_1 -/
def lw_okq (q : MethodName × Nat) : Prop := (q.1.cls ≠ "java/lang/invoke/MethodHandle" ∧ q.1.cls ≠ "java/lang/invoke/VarHandle") ∧ Cond.instantiable q.1.cls q.2 ∈ tables_1 ∧ Cond.privateMethod q.1 ∈ tables_1 ∧ Cond.instanceMethod q.1 ∈ tables_1
theorem lw_p0 : lw_okq (⟨"TwoWayGrammar$Tokens", "takeWord", "()V"⟩, 5) := ⟨⟨by decide +kernel, by decide +kernel⟩, List.mem_of_getElem? (i := 172) (by decide +kernel), List.mem_of_getElem? (i := 547) (by decide +kernel), List.mem_of_getElem? (i := 548) (by decide +kernel)⟩
theorem lw_p1 : lw_okq (⟨"TwoWayGrammar$Tokens", "takeKeyword", "()V"⟩, 5) := ⟨⟨by decide +kernel, by decide +kernel⟩, List.mem_of_getElem? (i := 172) (by decide +kernel), List.mem_of_getElem? (i := 615) (by decide +kernel), List.mem_of_getElem? (i := 616) (by decide +kernel)⟩
theorem lw_p2 : lw_okq (⟨"TwoWayGrammar$Tokens", "takeSign", "()V"⟩, 5) := ⟨⟨by decide +kernel, by decide +kernel⟩, List.mem_of_getElem? (i := 172) (by decide +kernel), List.mem_of_getElem? (i := 623) (by decide +kernel), List.mem_of_getElem? (i := 624) (by decide +kernel)⟩
theorem lw_p3 : lw_okq (⟨"TwoWayGrammar$Tokens", "takeCharacter", "(C)V"⟩, 5) := ⟨⟨by decide +kernel, by decide +kernel⟩, List.mem_of_getElem? (i := 172) (by decide +kernel), List.mem_of_getElem? (i := 637) (by decide +kernel), List.mem_of_getElem? (i := 638) (by decide +kernel)⟩
theorem lw_p4 : lw_okq (⟨"TwoWayGrammar$Reader", "beginRule", "()I"⟩, 4) := ⟨⟨by decide +kernel, by decide +kernel⟩, List.mem_of_getElem? (i := 170) (by decide +kernel), List.mem_of_getElem? (i := 699) (by decide +kernel), List.mem_of_getElem? (i := 700) (by decide +kernel)⟩
theorem lw_p5 : lw_okq (⟨"TwoWayGrammar$Reader", "blame", "(II)V"⟩, 4) := ⟨⟨by decide +kernel, by decide +kernel⟩, List.mem_of_getElem? (i := 170) (by decide +kernel), List.mem_of_getElem? (i := 703) (by decide +kernel), List.mem_of_getElem? (i := 704) (by decide +kernel)⟩
theorem lw_p6 : lw_okq (⟨"TwoWayGrammar$Reader", "expect", "(I)V"⟩, 4) := ⟨⟨by decide +kernel, by decide +kernel⟩, List.mem_of_getElem? (i := 170) (by decide +kernel), List.mem_of_getElem? (i := 719) (by decide +kernel), List.mem_of_getElem? (i := 720) (by decide +kernel)⟩
theorem lw_p7 : lw_okq (⟨"TwoWayGrammar$Reader", "readForm", "(II)V"⟩, 4) := ⟨⟨by decide +kernel, by decide +kernel⟩, List.mem_of_getElem? (i := 170) (by decide +kernel), List.mem_of_getElem? (i := 723) (by decide +kernel), List.mem_of_getElem? (i := 724) (by decide +kernel)⟩
theorem lw_p8 : lw_okq (⟨"TwoWayGrammar$Reader", "readItems", "(II)V"⟩, 4) := ⟨⟨by decide +kernel, by decide +kernel⟩, List.mem_of_getElem? (i := 170) (by decide +kernel), List.mem_of_getElem? (i := 731) (by decide +kernel), List.mem_of_getElem? (i := 732) (by decide +kernel)⟩
theorem lw_p9 : lw_okq (⟨"TwoWayGrammar$Reader", "readUnit", "(III)I"⟩, 4) := ⟨⟨by decide +kernel, by decide +kernel⟩, List.mem_of_getElem? (i := 170) (by decide +kernel), List.mem_of_getElem? (i := 735) (by decide +kernel), List.mem_of_getElem? (i := 736) (by decide +kernel)⟩
theorem lw_p10 : lw_okq (⟨"TwoWayGrammar$Reader", "isOneTooMany", "(I)Z"⟩, 4) := ⟨⟨by decide +kernel, by decide +kernel⟩, List.mem_of_getElem? (i := 170) (by decide +kernel), List.mem_of_getElem? (i := 743) (by decide +kernel), List.mem_of_getElem? (i := 744) (by decide +kernel)⟩
theorem lw_p11 : lw_okq (⟨"TwoWayGrammar$Reader", "readPart", "(I)I"⟩, 4) := ⟨⟨by decide +kernel, by decide +kernel⟩, List.mem_of_getElem? (i := 170) (by decide +kernel), List.mem_of_getElem? (i := 751) (by decide +kernel), List.mem_of_getElem? (i := 752) (by decide +kernel)⟩
theorem lw_p12 : lw_okq (⟨"TwoWayGrammar$Reader", "nameUses", "()V"⟩, 4) := ⟨⟨by decide +kernel, by decide +kernel⟩, List.mem_of_getElem? (i := 170) (by decide +kernel), List.mem_of_getElem? (i := 773) (by decide +kernel), List.mem_of_getElem? (i := 774) (by decide +kernel)⟩
theorem lw_p13 : lw_okq (⟨"TwoWayGrammar$Sets", "spreadStarts", "()V"⟩, 16) := ⟨⟨by decide +kernel, by decide +kernel⟩, List.mem_of_getElem? (i := 214) (by decide +kernel), List.mem_of_getElem? (i := 786) (by decide +kernel), List.mem_of_getElem? (i := 787) (by decide +kernel)⟩
theorem lw_p14 : lw_okq (⟨"TwoWayGrammar$Sets", "refreshForm", "(I)V"⟩, 16) := ⟨⟨by decide +kernel, by decide +kernel⟩, List.mem_of_getElem? (i := 214) (by decide +kernel), List.mem_of_getElem? (i := 791) (by decide +kernel), List.mem_of_getElem? (i := 792) (by decide +kernel)⟩
theorem lw_p15 : lw_okq (⟨"TwoWayGrammar$Sets", "refreshAlternative", "(I)V"⟩, 16) := ⟨⟨by decide +kernel, by decide +kernel⟩, List.mem_of_getElem? (i := 214) (by decide +kernel), List.mem_of_getElem? (i := 796) (by decide +kernel), List.mem_of_getElem? (i := 797) (by decide +kernel)⟩
def lw_privs_1 : List (MethodName × Nat) := [(⟨"TwoWayGrammar$Tokens", "takeWord", "()V"⟩, 5), (⟨"TwoWayGrammar$Tokens", "takeKeyword", "()V"⟩, 5), (⟨"TwoWayGrammar$Tokens", "takeSign", "()V"⟩, 5), (⟨"TwoWayGrammar$Tokens", "takeCharacter", "(C)V"⟩, 5), (⟨"TwoWayGrammar$Reader", "beginRule", "()I"⟩, 4), (⟨"TwoWayGrammar$Reader", "blame", "(II)V"⟩, 4), (⟨"TwoWayGrammar$Reader", "expect", "(I)V"⟩, 4), (⟨"TwoWayGrammar$Reader", "readForm", "(II)V"⟩, 4), (⟨"TwoWayGrammar$Reader", "readItems", "(II)V"⟩, 4), (⟨"TwoWayGrammar$Reader", "readUnit", "(III)I"⟩, 4), (⟨"TwoWayGrammar$Reader", "isOneTooMany", "(I)Z"⟩, 4), (⟨"TwoWayGrammar$Reader", "readPart", "(I)I"⟩, 4), (⟨"TwoWayGrammar$Reader", "nameUses", "()V"⟩, 4), (⟨"TwoWayGrammar$Sets", "spreadStarts", "()V"⟩, 16), (⟨"TwoWayGrammar$Sets", "refreshForm", "(I)V"⟩, 16), (⟨"TwoWayGrammar$Sets", "refreshAlternative", "(I)V"⟩, 16)]
theorem lw_r1 : ∀ q ∈ lw_privs_1, lw_okq q := List.forall_mem_cons.mpr ⟨lw_p0, List.forall_mem_cons.mpr ⟨lw_p1, List.forall_mem_cons.mpr ⟨lw_p2, List.forall_mem_cons.mpr ⟨lw_p3, List.forall_mem_cons.mpr ⟨lw_p4, List.forall_mem_cons.mpr ⟨lw_p5, List.forall_mem_cons.mpr ⟨lw_p6, List.forall_mem_cons.mpr ⟨lw_p7, List.forall_mem_cons.mpr ⟨lw_p8, List.forall_mem_cons.mpr ⟨lw_p9, List.forall_mem_cons.mpr ⟨lw_p10, List.forall_mem_cons.mpr ⟨lw_p11, List.forall_mem_cons.mpr ⟨lw_p12, List.forall_mem_cons.mpr ⟨lw_p13, List.forall_mem_cons.mpr ⟨lw_p14, List.forall_mem_cons.mpr ⟨lw_p15, fun _ h => absurd h List.not_mem_nil⟩⟩⟩⟩⟩⟩⟩⟩⟩⟩⟩⟩⟩⟩⟩⟩
theorem lw_p16 : lw_okq (⟨"TwoWayGrammar$Sets", "refreshPart", "(I)V"⟩, 16) := ⟨⟨by decide +kernel, by decide +kernel⟩, List.mem_of_getElem? (i := 214) (by decide +kernel), List.mem_of_getElem? (i := 800) (by decide +kernel), List.mem_of_getElem? (i := 801) (by decide +kernel)⟩
theorem lw_p17 : lw_okq (⟨"TwoWayGrammar$Sets", "begins", "(I)I"⟩, 16) := ⟨⟨by decide +kernel, by decide +kernel⟩, List.mem_of_getElem? (i := 214) (by decide +kernel), List.mem_of_getElem? (i := 813) (by decide +kernel), List.mem_of_getElem? (i := 814) (by decide +kernel)⟩
theorem lw_p18 : lw_okq (⟨"TwoWayGrammar$Sets", "mayBePassed", "(I)Z"⟩, 16) := ⟨⟨by decide +kernel, by decide +kernel⟩, List.mem_of_getElem? (i := 214) (by decide +kernel), List.mem_of_getElem? (i := 817) (by decide +kernel), List.mem_of_getElem? (i := 818) (by decide +kernel)⟩
theorem lw_p19 : lw_okq (⟨"TwoWayGrammar$Sets", "height", "(I)I"⟩, 16) := ⟨⟨by decide +kernel, by decide +kernel⟩, List.mem_of_getElem? (i := 214) (by decide +kernel), List.mem_of_getElem? (i := 821) (by decide +kernel), List.mem_of_getElem? (i := 822) (by decide +kernel)⟩
theorem lw_p20 : lw_okq (⟨"TwoWayGrammar$Sets", "spreadFollows", "()V"⟩, 16) := ⟨⟨by decide +kernel, by decide +kernel⟩, List.mem_of_getElem? (i := 214) (by decide +kernel), List.mem_of_getElem? (i := 827) (by decide +kernel), List.mem_of_getElem? (i := 828) (by decide +kernel)⟩
theorem lw_p21 : lw_okq (⟨"TwoWayGrammar$Sets", "spreadInto", "(IJ)V"⟩, 16) := ⟨⟨by decide +kernel, by decide +kernel⟩, List.mem_of_getElem? (i := 214) (by decide +kernel), List.mem_of_getElem? (i := 831) (by decide +kernel), List.mem_of_getElem? (i := 832) (by decide +kernel)⟩
theorem lw_p22 : lw_okq (⟨"TwoWayGrammar$Sets", "startsFrom", "(IJ)J"⟩, 16) := ⟨⟨by decide +kernel, by decide +kernel⟩, List.mem_of_getElem? (i := 214) (by decide +kernel), List.mem_of_getElem? (i := 835) (by decide +kernel), List.mem_of_getElem? (i := 836) (by decide +kernel)⟩
theorem lw_p23 : lw_okq (⟨"TwoWayGrammar$Sets", "findDirectors", "()V"⟩, 16) := ⟨⟨by decide +kernel, by decide +kernel⟩, List.mem_of_getElem? (i := 214) (by decide +kernel), List.mem_of_getElem? (i := 840) (by decide +kernel), List.mem_of_getElem? (i := 841) (by decide +kernel)⟩
theorem lw_p24 : lw_okq (⟨"TwoWayGrammar$Sets", "findTops", "()V"⟩, 16) := ⟨⟨by decide +kernel, by decide +kernel⟩, List.mem_of_getElem? (i := 214) (by decide +kernel), List.mem_of_getElem? (i := 844) (by decide +kernel), List.mem_of_getElem? (i := 845) (by decide +kernel)⟩
theorem lw_p25 : lw_okq (⟨"TwoWayGrammar$Sets", "groupTops", "(I)I"⟩, 16) := ⟨⟨by decide +kernel, by decide +kernel⟩, List.mem_of_getElem? (i := 214) (by decide +kernel), List.mem_of_getElem? (i := 848) (by decide +kernel), List.mem_of_getElem? (i := 849) (by decide +kernel)⟩
theorem lw_p26 : lw_okq (⟨"TwoWayGrammar$Checks", "checkRules", "()V"⟩, 3) := ⟨⟨by decide +kernel, by decide +kernel⟩, List.mem_of_getElem? (i := 282) (by decide +kernel), List.mem_of_getElem? (i := 856) (by decide +kernel), List.mem_of_getElem? (i := 857) (by decide +kernel)⟩
theorem lw_p27 : lw_okq (⟨"TwoWayGrammar$Checks", "blame", "(II)V"⟩, 3) := ⟨⟨by decide +kernel, by decide +kernel⟩, List.mem_of_getElem? (i := 282) (by decide +kernel), List.mem_of_getElem? (i := 861) (by decide +kernel), List.mem_of_getElem? (i := 862) (by decide +kernel)⟩
theorem lw_p28 : lw_okq (⟨"TwoWayGrammar$Checks", "checkRepeats", "()V"⟩, 3) := ⟨⟨by decide +kernel, by decide +kernel⟩, List.mem_of_getElem? (i := 282) (by decide +kernel), List.mem_of_getElem? (i := 869) (by decide +kernel), List.mem_of_getElem? (i := 870) (by decide +kernel)⟩
theorem lw_p29 : lw_okq (⟨"TwoWayGrammar$Checks", "checkChoice", "(I)V"⟩, 3) := ⟨⟨by decide +kernel, by decide +kernel⟩, List.mem_of_getElem? (i := 282) (by decide +kernel), List.mem_of_getElem? (i := 874) (by decide +kernel), List.mem_of_getElem? (i := 875) (by decide +kernel)⟩
theorem lw_p30 : lw_okq (⟨"java/lang/Throwable", "fillInStackTrace", "(I)Ljava/lang/Throwable;"⟩, 6) := ⟨⟨by decide +kernel, by decide +kernel⟩, List.mem_of_getElem? (i := 959) (by decide +kernel), List.mem_of_getElem? (i := 957) (by decide +kernel), List.mem_of_getElem? (i := 958) (by decide +kernel)⟩
theorem lw_p31 : lw_okq (⟨"TwoWayGrammar", "text", "(I)LTwoWayGrammar$Text;"⟩, 16) := ⟨⟨by decide +kernel, by decide +kernel⟩, List.mem_of_getElem? (i := 30) (by decide +kernel), List.mem_of_getElem? (i := 988) (by decide +kernel), List.mem_of_getElem? (i := 989) (by decide +kernel)⟩
def lw_privs_2 : List (MethodName × Nat) := [(⟨"TwoWayGrammar$Sets", "refreshPart", "(I)V"⟩, 16), (⟨"TwoWayGrammar$Sets", "begins", "(I)I"⟩, 16), (⟨"TwoWayGrammar$Sets", "mayBePassed", "(I)Z"⟩, 16), (⟨"TwoWayGrammar$Sets", "height", "(I)I"⟩, 16), (⟨"TwoWayGrammar$Sets", "spreadFollows", "()V"⟩, 16), (⟨"TwoWayGrammar$Sets", "spreadInto", "(IJ)V"⟩, 16), (⟨"TwoWayGrammar$Sets", "startsFrom", "(IJ)J"⟩, 16), (⟨"TwoWayGrammar$Sets", "findDirectors", "()V"⟩, 16), (⟨"TwoWayGrammar$Sets", "findTops", "()V"⟩, 16), (⟨"TwoWayGrammar$Sets", "groupTops", "(I)I"⟩, 16), (⟨"TwoWayGrammar$Checks", "checkRules", "()V"⟩, 3), (⟨"TwoWayGrammar$Checks", "blame", "(II)V"⟩, 3), (⟨"TwoWayGrammar$Checks", "checkRepeats", "()V"⟩, 3), (⟨"TwoWayGrammar$Checks", "checkChoice", "(I)V"⟩, 3), (⟨"java/lang/Throwable", "fillInStackTrace", "(I)Ljava/lang/Throwable;"⟩, 6), (⟨"TwoWayGrammar", "text", "(I)LTwoWayGrammar$Text;"⟩, 16)]
theorem lw_r2 : ∀ q ∈ lw_privs_2, lw_okq q := List.forall_mem_cons.mpr ⟨lw_p16, List.forall_mem_cons.mpr ⟨lw_p17, List.forall_mem_cons.mpr ⟨lw_p18, List.forall_mem_cons.mpr ⟨lw_p19, List.forall_mem_cons.mpr ⟨lw_p20, List.forall_mem_cons.mpr ⟨lw_p21, List.forall_mem_cons.mpr ⟨lw_p22, List.forall_mem_cons.mpr ⟨lw_p23, List.forall_mem_cons.mpr ⟨lw_p24, List.forall_mem_cons.mpr ⟨lw_p25, List.forall_mem_cons.mpr ⟨lw_p26, List.forall_mem_cons.mpr ⟨lw_p27, List.forall_mem_cons.mpr ⟨lw_p28, List.forall_mem_cons.mpr ⟨lw_p29, List.forall_mem_cons.mpr ⟨lw_p30, List.forall_mem_cons.mpr ⟨lw_p31, fun _ h => absurd h List.not_mem_nil⟩⟩⟩⟩⟩⟩⟩⟩⟩⟩⟩⟩⟩⟩⟩⟩
theorem lw_p32 : lw_okq (⟨"TwoWayGrammar$Parsing", "takeToken", "()V"⟩, 12) := ⟨⟨by decide +kernel, by decide +kernel⟩, List.mem_of_getElem? (i := 325) (by decide +kernel), List.mem_of_getElem? (i := 1092) (by decide +kernel), List.mem_of_getElem? (i := 1093) (by decide +kernel)⟩
theorem lw_p33 : lw_okq (⟨"TwoWayGrammar$Parsing", "takeNumber", "()V"⟩, 12) := ⟨⟨by decide +kernel, by decide +kernel⟩, List.mem_of_getElem? (i := 325) (by decide +kernel), List.mem_of_getElem? (i := 1100) (by decide +kernel), List.mem_of_getElem? (i := 1101) (by decide +kernel)⟩
theorem lw_p34 : lw_okq (⟨"TwoWayGrammar$Parsing", "takeWord", "()V"⟩, 12) := ⟨⟨by decide +kernel, by decide +kernel⟩, List.mem_of_getElem? (i := 325) (by decide +kernel), List.mem_of_getElem? (i := 1110) (by decide +kernel), List.mem_of_getElem? (i := 1111) (by decide +kernel)⟩
theorem lw_p35 : lw_okq (⟨"TwoWayGrammar$Parsing", "literalOr", "(II)I"⟩, 12) := ⟨⟨by decide +kernel, by decide +kernel⟩, List.mem_of_getElem? (i := 325) (by decide +kernel), List.mem_of_getElem? (i := 1116) (by decide +kernel), List.mem_of_getElem? (i := 1117) (by decide +kernel)⟩
theorem lw_p36 : lw_okq (⟨"TwoWayGrammar$Parsing", "blame", "()V"⟩, 12) := ⟨⟨by decide +kernel, by decide +kernel⟩, List.mem_of_getElem? (i := 325) (by decide +kernel), List.mem_of_getElem? (i := 1122) (by decide +kernel), List.mem_of_getElem? (i := 1123) (by decide +kernel)⟩
theorem lw_p37 : lw_okq (⟨"TwoWayGrammar$Growing", "lowest", "(I)I"⟩, 8) := ⟨⟨by decide +kernel, by decide +kernel⟩, List.mem_of_getElem? (i := 398) (by decide +kernel), List.mem_of_getElem? (i := 1174) (by decide +kernel), List.mem_of_getElem? (i := 1175) (by decide +kernel)⟩
theorem lw_p38 : lw_okq (⟨"TwoWayGrammar$Growing", "draw", "(I)I"⟩, 8) := ⟨⟨by decide +kernel, by decide +kernel⟩, List.mem_of_getElem? (i := 398) (by decide +kernel), List.mem_of_getElem? (i := 1179) (by decide +kernel), List.mem_of_getElem? (i := 1180) (by decide +kernel)⟩
theorem lw_p39 : lw_okq (⟨"TwoWayGrammar$Parsing", "isNextIn", "(J)Z"⟩, 12) := ⟨⟨by decide +kernel, by decide +kernel⟩, List.mem_of_getElem? (i := 325) (by decide +kernel), List.mem_of_getElem? (i := 1190) (by decide +kernel), List.mem_of_getElem? (i := 1191) (by decide +kernel)⟩
theorem lw_p40 : lw_okq (⟨"TwoWayGrammar$Growing", "drawName", "()I"⟩, 8) := ⟨⟨by decide +kernel, by decide +kernel⟩, List.mem_of_getElem? (i := 398) (by decide +kernel), List.mem_of_getElem? (i := 1233) (by decide +kernel), List.mem_of_getElem? (i := 1234) (by decide +kernel)⟩
theorem lw_p41 : lw_okq (⟨"TwoWayGrammar$Printing", "nextValue", "()I"⟩, 13) := ⟨⟨by decide +kernel, by decide +kernel⟩, List.mem_of_getElem? (i := 417) (by decide +kernel), List.mem_of_getElem? (i := 1247) (by decide +kernel), List.mem_of_getElem? (i := 1248) (by decide +kernel)⟩
theorem lw_p42 : lw_okq (⟨"TwoWayGrammar$Printing", "writeNumber", "(I)V"⟩, 13) := ⟨⟨by decide +kernel, by decide +kernel⟩, List.mem_of_getElem? (i := 417) (by decide +kernel), List.mem_of_getElem? (i := 1251) (by decide +kernel), List.mem_of_getElem? (i := 1252) (by decide +kernel)⟩
theorem lw_p43 : lw_okq (⟨"TwoWayGrammar$Printing", "separate", "(Z)V"⟩, 13) := ⟨⟨by decide +kernel, by decide +kernel⟩, List.mem_of_getElem? (i := 417) (by decide +kernel), List.mem_of_getElem? (i := 1255) (by decide +kernel), List.mem_of_getElem? (i := 1256) (by decide +kernel)⟩
theorem lw_p44 : lw_okq (⟨"TwoWayGrammar$Printing", "write", "(C)V"⟩, 13) := ⟨⟨by decide +kernel, by decide +kernel⟩, List.mem_of_getElem? (i := 417) (by decide +kernel), List.mem_of_getElem? (i := 1260) (by decide +kernel), List.mem_of_getElem? (i := 1261) (by decide +kernel)⟩
theorem lw_p45 : lw_okq (⟨"TwoWayGrammar$Printing", "writeCode", "(I)V"⟩, 13) := ⟨⟨by decide +kernel, by decide +kernel⟩, List.mem_of_getElem? (i := 417) (by decide +kernel), List.mem_of_getElem? (i := 1265) (by decide +kernel), List.mem_of_getElem? (i := 1266) (by decide +kernel)⟩
theorem lw_p46 : lw_okq (⟨"TwoWayGrammar$Tree", "turnRound", "(II)V"⟩, 4) := ⟨⟨by decide +kernel, by decide +kernel⟩, List.mem_of_getElem? (i := 298) (by decide +kernel), List.mem_of_getElem? (i := 1324) (by decide +kernel), List.mem_of_getElem? (i := 1325) (by decide +kernel)⟩
theorem lw_p47 : lw_okq (⟨"TwoWayGrammarModel", "say", "(J)V"⟩, 96) := ⟨⟨by decide +kernel, by decide +kernel⟩, List.mem_of_getElem? (i := 1452) (by decide +kernel), List.mem_of_getElem? (i := 1765) (by decide +kernel), List.mem_of_getElem? (i := 1766) (by decide +kernel)⟩
def lw_privs_3 : List (MethodName × Nat) := [(⟨"TwoWayGrammar$Parsing", "takeToken", "()V"⟩, 12), (⟨"TwoWayGrammar$Parsing", "takeNumber", "()V"⟩, 12), (⟨"TwoWayGrammar$Parsing", "takeWord", "()V"⟩, 12), (⟨"TwoWayGrammar$Parsing", "literalOr", "(II)I"⟩, 12), (⟨"TwoWayGrammar$Parsing", "blame", "()V"⟩, 12), (⟨"TwoWayGrammar$Growing", "lowest", "(I)I"⟩, 8), (⟨"TwoWayGrammar$Growing", "draw", "(I)I"⟩, 8), (⟨"TwoWayGrammar$Parsing", "isNextIn", "(J)Z"⟩, 12), (⟨"TwoWayGrammar$Growing", "drawName", "()I"⟩, 8), (⟨"TwoWayGrammar$Printing", "nextValue", "()I"⟩, 13), (⟨"TwoWayGrammar$Printing", "writeNumber", "(I)V"⟩, 13), (⟨"TwoWayGrammar$Printing", "separate", "(Z)V"⟩, 13), (⟨"TwoWayGrammar$Printing", "write", "(C)V"⟩, 13), (⟨"TwoWayGrammar$Printing", "writeCode", "(I)V"⟩, 13), (⟨"TwoWayGrammar$Tree", "turnRound", "(II)V"⟩, 4), (⟨"TwoWayGrammarModel", "say", "(J)V"⟩, 96)]
theorem lw_r3 : ∀ q ∈ lw_privs_3, lw_okq q := List.forall_mem_cons.mpr ⟨lw_p32, List.forall_mem_cons.mpr ⟨lw_p33, List.forall_mem_cons.mpr ⟨lw_p34, List.forall_mem_cons.mpr ⟨lw_p35, List.forall_mem_cons.mpr ⟨lw_p36, List.forall_mem_cons.mpr ⟨lw_p37, List.forall_mem_cons.mpr ⟨lw_p38, List.forall_mem_cons.mpr ⟨lw_p39, List.forall_mem_cons.mpr ⟨lw_p40, List.forall_mem_cons.mpr ⟨lw_p41, List.forall_mem_cons.mpr ⟨lw_p42, List.forall_mem_cons.mpr ⟨lw_p43, List.forall_mem_cons.mpr ⟨lw_p44, List.forall_mem_cons.mpr ⟨lw_p45, List.forall_mem_cons.mpr ⟨lw_p46, List.forall_mem_cons.mpr ⟨lw_p47, fun _ h => absurd h List.not_mem_nil⟩⟩⟩⟩⟩⟩⟩⟩⟩⟩⟩⟩⟩⟩⟩⟩
theorem lw_p48 : lw_okq (⟨"TwoWayGrammarModel", "read", "()V"⟩, 96) := ⟨⟨by decide +kernel, by decide +kernel⟩, List.mem_of_getElem? (i := 1452) (by decide +kernel), List.mem_of_getElem? (i := 1813) (by decide +kernel), List.mem_of_getElem? (i := 1814) (by decide +kernel)⟩
theorem lw_p49 : lw_okq (⟨"TwoWayGrammarModel", "scan", "()V"⟩, 96) := ⟨⟨by decide +kernel, by decide +kernel⟩, List.mem_of_getElem? (i := 1452) (by decide +kernel), List.mem_of_getElem? (i := 1817) (by decide +kernel), List.mem_of_getElem? (i := 1818) (by decide +kernel)⟩
theorem lw_p50 : lw_okq (⟨"TwoWayGrammarModel", "charAt", "(I)I"⟩, 96) := ⟨⟨by decide +kernel, by decide +kernel⟩, List.mem_of_getElem? (i := 1452) (by decide +kernel), List.mem_of_getElem? (i := 1824) (by decide +kernel), List.mem_of_getElem? (i := 1825) (by decide +kernel)⟩
theorem lw_p51 : lw_okq (⟨"TwoWayGrammarModel", "letters", "(I)I"⟩, 96) := ⟨⟨by decide +kernel, by decide +kernel⟩, List.mem_of_getElem? (i := 1452) (by decide +kernel), List.mem_of_getElem? (i := 1831) (by decide +kernel), List.mem_of_getElem? (i := 1832) (by decide +kernel)⟩
theorem lw_p52 : lw_okq (⟨"TwoWayGrammarModel", "readRule", "()V"⟩, 96) := ⟨⟨by decide +kernel, by decide +kernel⟩, List.mem_of_getElem? (i := 1452) (by decide +kernel), List.mem_of_getElem? (i := 1840) (by decide +kernel), List.mem_of_getElem? (i := 1841) (by decide +kernel)⟩
theorem lw_p53 : lw_okq (⟨"TwoWayGrammarModel", "blame", "(II)V"⟩, 96) := ⟨⟨by decide +kernel, by decide +kernel⟩, List.mem_of_getElem? (i := 1452) (by decide +kernel), List.mem_of_getElem? (i := 1844) (by decide +kernel), List.mem_of_getElem? (i := 1845) (by decide +kernel)⟩
theorem lw_p54 : lw_okq (⟨"TwoWayGrammarModel", "newForm", "()I"⟩, 96) := ⟨⟨by decide +kernel, by decide +kernel⟩, List.mem_of_getElem? (i := 1452) (by decide +kernel), List.mem_of_getElem? (i := 1848) (by decide +kernel), List.mem_of_getElem? (i := 1849) (by decide +kernel)⟩
theorem lw_p55 : lw_okq (⟨"TwoWayGrammarModel", "form", "()V"⟩, 96) := ⟨⟨by decide +kernel, by decide +kernel⟩, List.mem_of_getElem? (i := 1452) (by decide +kernel), List.mem_of_getElem? (i := 1852) (by decide +kernel), List.mem_of_getElem? (i := 1853) (by decide +kernel)⟩
theorem lw_p56 : lw_okq (⟨"TwoWayGrammarModel", "begin", "(I)V"⟩, 96) := ⟨⟨by decide +kernel, by decide +kernel⟩, List.mem_of_getElem? (i := 1452) (by decide +kernel), List.mem_of_getElem? (i := 1856) (by decide +kernel), List.mem_of_getElem? (i := 1857) (by decide +kernel)⟩
theorem lw_p57 : lw_okq (⟨"TwoWayGrammarModel", "isPart", "()Z"⟩, 96) := ⟨⟨by decide +kernel, by decide +kernel⟩, List.mem_of_getElem? (i := 1452) (by decide +kernel), List.mem_of_getElem? (i := 1860) (by decide +kernel), List.mem_of_getElem? (i := 1861) (by decide +kernel)⟩
theorem lw_p58 : lw_okq (⟨"TwoWayGrammarModel", "part", "()V"⟩, 96) := ⟨⟨by decide +kernel, by decide +kernel⟩, List.mem_of_getElem? (i := 1452) (by decide +kernel), List.mem_of_getElem? (i := 1874) (by decide +kernel), List.mem_of_getElem? (i := 1875) (by decide +kernel)⟩
theorem lw_p59 : lw_okq (⟨"TwoWayGrammarModel", "literal", "()I"⟩, 96) := ⟨⟨by decide +kernel, by decide +kernel⟩, List.mem_of_getElem? (i := 1452) (by decide +kernel), List.mem_of_getElem? (i := 1878) (by decide +kernel), List.mem_of_getElem? (i := 1879) (by decide +kernel)⟩
theorem lw_p60 : lw_okq (⟨"TwoWayGrammarModel", "put", "(I)V"⟩, 96) := ⟨⟨by decide +kernel, by decide +kernel⟩, List.mem_of_getElem? (i := 1452) (by decide +kernel), List.mem_of_getElem? (i := 1882) (by decide +kernel), List.mem_of_getElem? (i := 1883) (by decide +kernel)⟩
theorem lw_p61 : lw_okq (⟨"TwoWayGrammarModel", "plus", "()V"⟩, 96) := ⟨⟨by decide +kernel, by decide +kernel⟩, List.mem_of_getElem? (i := 1452) (by decide +kernel), List.mem_of_getElem? (i := 1886) (by decide +kernel), List.mem_of_getElem? (i := 1887) (by decide +kernel)⟩
theorem lw_p62 : lw_okq (⟨"TwoWayGrammarModel", "study", "()V"⟩, 96) := ⟨⟨by decide +kernel, by decide +kernel⟩, List.mem_of_getElem? (i := 1452) (by decide +kernel), List.mem_of_getElem? (i := 1890) (by decide +kernel), List.mem_of_getElem? (i := 1891) (by decide +kernel)⟩
theorem lw_p63 : lw_okq (⟨"TwoWayGrammarModel", "weigh", "(I)V"⟩, 96) := ⟨⟨by decide +kernel, by decide +kernel⟩, List.mem_of_getElem? (i := 1452) (by decide +kernel), List.mem_of_getElem? (i := 1894) (by decide +kernel), List.mem_of_getElem? (i := 1895) (by decide +kernel)⟩
def lw_privs_4 : List (MethodName × Nat) := [(⟨"TwoWayGrammarModel", "read", "()V"⟩, 96), (⟨"TwoWayGrammarModel", "scan", "()V"⟩, 96), (⟨"TwoWayGrammarModel", "charAt", "(I)I"⟩, 96), (⟨"TwoWayGrammarModel", "letters", "(I)I"⟩, 96), (⟨"TwoWayGrammarModel", "readRule", "()V"⟩, 96), (⟨"TwoWayGrammarModel", "blame", "(II)V"⟩, 96), (⟨"TwoWayGrammarModel", "newForm", "()I"⟩, 96), (⟨"TwoWayGrammarModel", "form", "()V"⟩, 96), (⟨"TwoWayGrammarModel", "begin", "(I)V"⟩, 96), (⟨"TwoWayGrammarModel", "isPart", "()Z"⟩, 96), (⟨"TwoWayGrammarModel", "part", "()V"⟩, 96), (⟨"TwoWayGrammarModel", "literal", "()I"⟩, 96), (⟨"TwoWayGrammarModel", "put", "(I)V"⟩, 96), (⟨"TwoWayGrammarModel", "plus", "()V"⟩, 96), (⟨"TwoWayGrammarModel", "study", "()V"⟩, 96), (⟨"TwoWayGrammarModel", "weigh", "(I)V"⟩, 96)]
theorem lw_r4 : ∀ q ∈ lw_privs_4, lw_okq q := List.forall_mem_cons.mpr ⟨lw_p48, List.forall_mem_cons.mpr ⟨lw_p49, List.forall_mem_cons.mpr ⟨lw_p50, List.forall_mem_cons.mpr ⟨lw_p51, List.forall_mem_cons.mpr ⟨lw_p52, List.forall_mem_cons.mpr ⟨lw_p53, List.forall_mem_cons.mpr ⟨lw_p54, List.forall_mem_cons.mpr ⟨lw_p55, List.forall_mem_cons.mpr ⟨lw_p56, List.forall_mem_cons.mpr ⟨lw_p57, List.forall_mem_cons.mpr ⟨lw_p58, List.forall_mem_cons.mpr ⟨lw_p59, List.forall_mem_cons.mpr ⟨lw_p60, List.forall_mem_cons.mpr ⟨lw_p61, List.forall_mem_cons.mpr ⟨lw_p62, List.forall_mem_cons.mpr ⟨lw_p63, fun _ h => absurd h List.not_mem_nil⟩⟩⟩⟩⟩⟩⟩⟩⟩⟩⟩⟩⟩⟩⟩⟩
theorem lw_p64 : lw_okq (⟨"TwoWayGrammarModel", "alternative", "(I)V"⟩, 96) := ⟨⟨by decide +kernel, by decide +kernel⟩, List.mem_of_getElem? (i := 1452) (by decide +kernel), List.mem_of_getElem? (i := 1898) (by decide +kernel), List.mem_of_getElem? (i := 1899) (by decide +kernel)⟩
theorem lw_p65 : lw_okq (⟨"TwoWayGrammarModel", "line", "(I)I"⟩, 96) := ⟨⟨by decide +kernel, by decide +kernel⟩, List.mem_of_getElem? (i := 1452) (by decide +kernel), List.mem_of_getElem? (i := 1902) (by decide +kernel), List.mem_of_getElem? (i := 1903) (by decide +kernel)⟩
theorem lw_p66 : lw_okq (⟨"TwoWayGrammarModel", "isVoid", "(I)Z"⟩, 96) := ⟨⟨by decide +kernel, by decide +kernel⟩, List.mem_of_getElem? (i := 1452) (by decide +kernel), List.mem_of_getElem? (i := 1906) (by decide +kernel), List.mem_of_getElem? (i := 1907) (by decide +kernel)⟩
theorem lw_p67 : lw_okq (⟨"TwoWayGrammarModel", "formOf", "(I)V"⟩, 96) := ⟨⟨by decide +kernel, by decide +kernel⟩, List.mem_of_getElem? (i := 1452) (by decide +kernel), List.mem_of_getElem? (i := 1910) (by decide +kernel), List.mem_of_getElem? (i := 1911) (by decide +kernel)⟩
theorem lw_p68 : lw_okq (⟨"TwoWayGrammarModel", "behind", "(IJ)V"⟩, 96) := ⟨⟨by decide +kernel, by decide +kernel⟩, List.mem_of_getElem? (i := 1452) (by decide +kernel), List.mem_of_getElem? (i := 1914) (by decide +kernel), List.mem_of_getElem? (i := 1915) (by decide +kernel)⟩
theorem lw_p69 : lw_okq (⟨"TwoWayGrammarModel", "check", "()I"⟩, 96) := ⟨⟨by decide +kernel, by decide +kernel⟩, List.mem_of_getElem? (i := 1452) (by decide +kernel), List.mem_of_getElem? (i := 1918) (by decide +kernel), List.mem_of_getElem? (i := 1919) (by decide +kernel)⟩
theorem lw_p70 : lw_okq (⟨"TwoWayGrammarModel", "least", "(III)I"⟩, 96) := ⟨⟨by decide +kernel, by decide +kernel⟩, List.mem_of_getElem? (i := 1452) (by decide +kernel), List.mem_of_getElem? (i := 1922) (by decide +kernel), List.mem_of_getElem? (i := 1923) (by decide +kernel)⟩
theorem lw_p71 : lw_okq (⟨"TwoWayGrammarModel", "directors", "(II)J"⟩, 96) := ⟨⟨by decide +kernel, by decide +kernel⟩, List.mem_of_getElem? (i := 1452) (by decide +kernel), List.mem_of_getElem? (i := 1926) (by decide +kernel), List.mem_of_getElem? (i := 1927) (by decide +kernel)⟩
theorem lw_p72 : lw_okq (⟨"TwoWayGrammarModel", "walk", "(I)V"⟩, 96) := ⟨⟨by decide +kernel, by decide +kernel⟩, List.mem_of_getElem? (i := 1452) (by decide +kernel), List.mem_of_getElem? (i := 1938) (by decide +kernel), List.mem_of_getElem? (i := 1939) (by decide +kernel)⟩
theorem lw_p73 : lw_okq (⟨"TwoWayGrammarModel", "enter", "(I)V"⟩, 96) := ⟨⟨by decide +kernel, by decide +kernel⟩, List.mem_of_getElem? (i := 1452) (by decide +kernel), List.mem_of_getElem? (i := 1942) (by decide +kernel), List.mem_of_getElem? (i := 1943) (by decide +kernel)⟩
theorem lw_p74 : lw_okq (⟨"TwoWayGrammarModel", "comes", "(IJ)I"⟩, 96) := ⟨⟨by decide +kernel, by decide +kernel⟩, List.mem_of_getElem? (i := 1452) (by decide +kernel), List.mem_of_getElem? (i := 1946) (by decide +kernel), List.mem_of_getElem? (i := 1947) (by decide +kernel)⟩
theorem lw_p75 : lw_okq (⟨"TwoWayGrammarModel", "push", "(III)V"⟩, 96) := ⟨⟨by decide +kernel, by decide +kernel⟩, List.mem_of_getElem? (i := 1452) (by decide +kernel), List.mem_of_getElem? (i := 1950) (by decide +kernel), List.mem_of_getElem? (i := 1951) (by decide +kernel)⟩
theorem lw_p76 : lw_okq (⟨"TwoWayGrammarModel", "unit", "(IZ)V"⟩, 96) := ⟨⟨by decide +kernel, by decide +kernel⟩, List.mem_of_getElem? (i := 1452) (by decide +kernel), List.mem_of_getElem? (i := 1955) (by decide +kernel), List.mem_of_getElem? (i := 1956) (by decide +kernel)⟩
theorem lw_p77 : lw_okq (⟨"TwoWayGrammarModel", "draw", "(I)I"⟩, 96) := ⟨⟨by decide +kernel, by decide +kernel⟩, List.mem_of_getElem? (i := 1452) (by decide +kernel), List.mem_of_getElem? (i := 1959) (by decide +kernel), List.mem_of_getElem? (i := 1960) (by decide +kernel)⟩
theorem lw_p78 : lw_okq (⟨"TwoWayGrammarModel", "has", "(J)Z"⟩, 96) := ⟨⟨by decide +kernel, by decide +kernel⟩, List.mem_of_getElem? (i := 1452) (by decide +kernel), List.mem_of_getElem? (i := 1965) (by decide +kernel), List.mem_of_getElem? (i := 1966) (by decide +kernel)⟩
theorem lw_p79 : lw_okq (⟨"TwoWayGrammarModel", "single", "(I)V"⟩, 96) := ⟨⟨by decide +kernel, by decide +kernel⟩, List.mem_of_getElem? (i := 1452) (by decide +kernel), List.mem_of_getElem? (i := 1969) (by decide +kernel), List.mem_of_getElem? (i := 1970) (by decide +kernel)⟩
def lw_privs_5 : List (MethodName × Nat) := [(⟨"TwoWayGrammarModel", "alternative", "(I)V"⟩, 96), (⟨"TwoWayGrammarModel", "line", "(I)I"⟩, 96), (⟨"TwoWayGrammarModel", "isVoid", "(I)Z"⟩, 96), (⟨"TwoWayGrammarModel", "formOf", "(I)V"⟩, 96), (⟨"TwoWayGrammarModel", "behind", "(IJ)V"⟩, 96), (⟨"TwoWayGrammarModel", "check", "()I"⟩, 96), (⟨"TwoWayGrammarModel", "least", "(III)I"⟩, 96), (⟨"TwoWayGrammarModel", "directors", "(II)J"⟩, 96), (⟨"TwoWayGrammarModel", "walk", "(I)V"⟩, 96), (⟨"TwoWayGrammarModel", "enter", "(I)V"⟩, 96), (⟨"TwoWayGrammarModel", "comes", "(IJ)I"⟩, 96), (⟨"TwoWayGrammarModel", "push", "(III)V"⟩, 96), (⟨"TwoWayGrammarModel", "unit", "(IZ)V"⟩, 96), (⟨"TwoWayGrammarModel", "draw", "(I)I"⟩, 96), (⟨"TwoWayGrammarModel", "has", "(J)Z"⟩, 96), (⟨"TwoWayGrammarModel", "single", "(I)V"⟩, 96)]
theorem lw_r5 : ∀ q ∈ lw_privs_5, lw_okq q := List.forall_mem_cons.mpr ⟨lw_p64, List.forall_mem_cons.mpr ⟨lw_p65, List.forall_mem_cons.mpr ⟨lw_p66, List.forall_mem_cons.mpr ⟨lw_p67, List.forall_mem_cons.mpr ⟨lw_p68, List.forall_mem_cons.mpr ⟨lw_p69, List.forall_mem_cons.mpr ⟨lw_p70, List.forall_mem_cons.mpr ⟨lw_p71, List.forall_mem_cons.mpr ⟨lw_p72, List.forall_mem_cons.mpr ⟨lw_p73, List.forall_mem_cons.mpr ⟨lw_p74, List.forall_mem_cons.mpr ⟨lw_p75, List.forall_mem_cons.mpr ⟨lw_p76, List.forall_mem_cons.mpr ⟨lw_p77, List.forall_mem_cons.mpr ⟨lw_p78, List.forall_mem_cons.mpr ⟨lw_p79, fun _ h => absurd h List.not_mem_nil⟩⟩⟩⟩⟩⟩⟩⟩⟩⟩⟩⟩⟩⟩⟩⟩
theorem lw_p80 : lw_okq (⟨"TwoWayGrammarModel", "match", "(I)V"⟩, 96) := ⟨⟨by decide +kernel, by decide +kernel⟩, List.mem_of_getElem? (i := 1452) (by decide +kernel), List.mem_of_getElem? (i := 1973) (by decide +kernel), List.mem_of_getElem? (i := 1974) (by decide +kernel)⟩
theorem lw_p81 : lw_okq (⟨"TwoWayGrammarModel", "grown", "(I)V"⟩, 96) := ⟨⟨by decide +kernel, by decide +kernel⟩, List.mem_of_getElem? (i := 1452) (by decide +kernel), List.mem_of_getElem? (i := 1978) (by decide +kernel), List.mem_of_getElem? (i := 1979) (by decide +kernel)⟩
theorem lw_p82 : lw_okq (⟨"TwoWayGrammarModel", "keywordOf", "(J)I"⟩, 96) := ⟨⟨by decide +kernel, by decide +kernel⟩, List.mem_of_getElem? (i := 1452) (by decide +kernel), List.mem_of_getElem? (i := 1982) (by decide +kernel), List.mem_of_getElem? (i := 1983) (by decide +kernel)⟩
theorem lw_p83 : lw_okq (⟨"TwoWayGrammarModel", "shown", "(I)V"⟩, 96) := ⟨⟨by decide +kernel, by decide +kernel⟩, List.mem_of_getElem? (i := 1452) (by decide +kernel), List.mem_of_getElem? (i := 1987) (by decide +kernel), List.mem_of_getElem? (i := 1988) (by decide +kernel)⟩
theorem lw_p84 : lw_okq (⟨"TwoWayGrammarModel", "letters2", "(J)V"⟩, 96) := ⟨⟨by decide +kernel, by decide +kernel⟩, List.mem_of_getElem? (i := 1452) (by decide +kernel), List.mem_of_getElem? (i := 1991) (by decide +kernel), List.mem_of_getElem? (i := 1992) (by decide +kernel)⟩
theorem lw_p85 : lw_okq (⟨"TwoWayGrammarModel", "between", "(I)V"⟩, 96) := ⟨⟨by decide +kernel, by decide +kernel⟩, List.mem_of_getElem? (i := 1452) (by decide +kernel), List.mem_of_getElem? (i := 1996) (by decide +kernel), List.mem_of_getElem? (i := 1997) (by decide +kernel)⟩
theorem lw_p86 : lw_okq (⟨"TwoWayGrammarModel", "write", "(I)V"⟩, 96) := ⟨⟨by decide +kernel, by decide +kernel⟩, List.mem_of_getElem? (i := 1452) (by decide +kernel), List.mem_of_getElem? (i := 2000) (by decide +kernel), List.mem_of_getElem? (i := 2001) (by decide +kernel)⟩
theorem lw_p87 : lw_okq (⟨"TwoWayGrammarModel", "layout", "(I)V"⟩, 96) := ⟨⟨by decide +kernel, by decide +kernel⟩, List.mem_of_getElem? (i := 1452) (by decide +kernel), List.mem_of_getElem? (i := 2007) (by decide +kernel), List.mem_of_getElem? (i := 2008) (by decide +kernel)⟩
theorem lw_p88 : lw_okq (⟨"TwoWayGrammarModel", "choose", "(I)V"⟩, 96) := ⟨⟨by decide +kernel, by decide +kernel⟩, List.mem_of_getElem? (i := 1452) (by decide +kernel), List.mem_of_getElem? (i := 2011) (by decide +kernel), List.mem_of_getElem? (i := 2012) (by decide +kernel)⟩
theorem lw_p89 : lw_okq (⟨"TwoWayGrammarModel", "directed", "(I)I"⟩, 96) := ⟨⟨by decide +kernel, by decide +kernel⟩, List.mem_of_getElem? (i := 1452) (by decide +kernel), List.mem_of_getElem? (i := 2015) (by decide +kernel), List.mem_of_getElem? (i := 2016) (by decide +kernel)⟩
theorem lw_p90 : lw_okq (⟨"TwoWayGrammarModel", "lowest", "(I)I"⟩, 96) := ⟨⟨by decide +kernel, by decide +kernel⟩, List.mem_of_getElem? (i := 1452) (by decide +kernel), List.mem_of_getElem? (i := 2019) (by decide +kernel), List.mem_of_getElem? (i := 2020) (by decide +kernel)⟩
theorem lw_p91 : lw_okq (⟨"TwoWayGrammarModel", "swap", "()V"⟩, 96) := ⟨⟨by decide +kernel, by decide +kernel⟩, List.mem_of_getElem? (i := 1452) (by decide +kernel), List.mem_of_getElem? (i := 2023) (by decide +kernel), List.mem_of_getElem? (i := 2024) (by decide +kernel)⟩
theorem lw_p92 : lw_okq (⟨"TwoWayGrammarModel", "again", "(II)V"⟩, 96) := ⟨⟨by decide +kernel, by decide +kernel⟩, List.mem_of_getElem? (i := 1452) (by decide +kernel), List.mem_of_getElem? (i := 2027) (by decide +kernel), List.mem_of_getElem? (i := 2028) (by decide +kernel)⟩
theorem lw_p93 : lw_okq (⟨"TwoWayGrammarModel", "tokenize", "()V"⟩, 96) := ⟨⟨by decide +kernel, by decide +kernel⟩, List.mem_of_getElem? (i := 1452) (by decide +kernel), List.mem_of_getElem? (i := 2035) (by decide +kernel), List.mem_of_getElem? (i := 2036) (by decide +kernel)⟩
theorem lw_p94 : lw_okq (⟨"TwoWayGrammarModel", "signOf", "(I)I"⟩, 96) := ⟨⟨by decide +kernel, by decide +kernel⟩, List.mem_of_getElem? (i := 1452) (by decide +kernel), List.mem_of_getElem? (i := 2041) (by decide +kernel), List.mem_of_getElem? (i := 2042) (by decide +kernel)⟩
theorem lw_p95 : lw_okq (⟨"TwoWayGrammarModel", "take", "()I"⟩, 96) := ⟨⟨by decide +kernel, by decide +kernel⟩, List.mem_of_getElem? (i := 1452) (by decide +kernel), List.mem_of_getElem? (i := 2045) (by decide +kernel), List.mem_of_getElem? (i := 2046) (by decide +kernel)⟩
def lw_privs_6 : List (MethodName × Nat) := [(⟨"TwoWayGrammarModel", "match", "(I)V"⟩, 96), (⟨"TwoWayGrammarModel", "grown", "(I)V"⟩, 96), (⟨"TwoWayGrammarModel", "keywordOf", "(J)I"⟩, 96), (⟨"TwoWayGrammarModel", "shown", "(I)V"⟩, 96), (⟨"TwoWayGrammarModel", "letters2", "(J)V"⟩, 96), (⟨"TwoWayGrammarModel", "between", "(I)V"⟩, 96), (⟨"TwoWayGrammarModel", "write", "(I)V"⟩, 96), (⟨"TwoWayGrammarModel", "layout", "(I)V"⟩, 96), (⟨"TwoWayGrammarModel", "choose", "(I)V"⟩, 96), (⟨"TwoWayGrammarModel", "directed", "(I)I"⟩, 96), (⟨"TwoWayGrammarModel", "lowest", "(I)I"⟩, 96), (⟨"TwoWayGrammarModel", "swap", "()V"⟩, 96), (⟨"TwoWayGrammarModel", "again", "(II)V"⟩, 96), (⟨"TwoWayGrammarModel", "tokenize", "()V"⟩, 96), (⟨"TwoWayGrammarModel", "signOf", "(I)I"⟩, 96), (⟨"TwoWayGrammarModel", "take", "()I"⟩, 96)]
theorem lw_r6 : ∀ q ∈ lw_privs_6, lw_okq q := List.forall_mem_cons.mpr ⟨lw_p80, List.forall_mem_cons.mpr ⟨lw_p81, List.forall_mem_cons.mpr ⟨lw_p82, List.forall_mem_cons.mpr ⟨lw_p83, List.forall_mem_cons.mpr ⟨lw_p84, List.forall_mem_cons.mpr ⟨lw_p85, List.forall_mem_cons.mpr ⟨lw_p86, List.forall_mem_cons.mpr ⟨lw_p87, List.forall_mem_cons.mpr ⟨lw_p88, List.forall_mem_cons.mpr ⟨lw_p89, List.forall_mem_cons.mpr ⟨lw_p90, List.forall_mem_cons.mpr ⟨lw_p91, List.forall_mem_cons.mpr ⟨lw_p92, List.forall_mem_cons.mpr ⟨lw_p93, List.forall_mem_cons.mpr ⟨lw_p94, List.forall_mem_cons.mpr ⟨lw_p95, fun _ h => absurd h List.not_mem_nil⟩⟩⟩⟩⟩⟩⟩⟩⟩⟩⟩⟩⟩⟩⟩⟩
theorem lw_p96 : lw_okq (⟨"TwoWayGrammarModel", "levelOf", "(I)I"⟩, 96) := ⟨⟨by decide +kernel, by decide +kernel⟩, List.mem_of_getElem? (i := 1452) (by decide +kernel), List.mem_of_getElem? (i := 2057) (by decide +kernel), List.mem_of_getElem? (i := 2058) (by decide +kernel)⟩
theorem lw_p97 : lw_okq (⟨"TwoWayGrammarModel", "isName", "(J)Z"⟩, 96) := ⟨⟨by decide +kernel, by decide +kernel⟩, List.mem_of_getElem? (i := 1452) (by decide +kernel), List.mem_of_getElem? (i := 2066) (by decide +kernel), List.mem_of_getElem? (i := 2067) (by decide +kernel)⟩
def lw_privs_7 : List (MethodName × Nat) := [(⟨"TwoWayGrammarModel", "levelOf", "(I)I"⟩, 96), (⟨"TwoWayGrammarModel", "isName", "(J)Z"⟩, 96)]
theorem lw_r7 : ∀ q ∈ lw_privs_7, lw_okq q := List.forall_mem_cons.mpr ⟨lw_p96, List.forall_mem_cons.mpr ⟨lw_p97, fun _ h => absurd h List.not_mem_nil⟩⟩
def lw_privs : List (MethodName × Nat) := lw_privs_1 ++ (lw_privs_2 ++ (lw_privs_3 ++ (lw_privs_4 ++ (lw_privs_5 ++ (lw_privs_6 ++ (lw_privs_7))))))
def lw_tbl : List Cond := k2_sels lw_privs ++ tables_1
theorem lw_privs_ok : ∀ q ∈ lw_privs, lw_okq q := by
  show ∀ q ∈ lw_privs_1 ++ (lw_privs_2 ++ (lw_privs_3 ++ (lw_privs_4 ++ (lw_privs_5 ++ (lw_privs_6 ++ (lw_privs_7)))))), lw_okq q
  exact List.forall_mem_append.mpr ⟨lw_r1, List.forall_mem_append.mpr ⟨lw_r2, List.forall_mem_append.mpr ⟨lw_r3, List.forall_mem_append.mpr ⟨lw_r4, List.forall_mem_append.mpr ⟨lw_r5, List.forall_mem_append.mpr ⟨lw_r6, lw_r7⟩⟩⟩⟩⟩⟩
end
section
/-! THE SMALL MACHINE. A machine of our own over pictures of the cells: a cell is known by its place in a list, a reference is such a place.
A run of it is a run of the JVM (part 11); all that is said of the programs is said of it. -/
/-- a cell: an array (the number of its class in 'tys', its contents), or an object (the number of its class in 'classes', its fields) -/
abbrev sm_E : Type := (Nat × vp_A) ⊕ (Nat × List Value)
abbrev sm_H : Type := List sm_E
abbrev sm_L : Type := List (Option Value)
/-- an instruction, its length, what its operand names (resolved) -/
abbrev sm_I : Type := Instr × Nat × List Nat
/-- a local -/
def sm_lget (ls : sm_L) (i : Nat) : Option Value := match ls[i]? with
  | some (some v) => some v
  | _ => none
/-- a store at i breaks a long that ends there -/
def sm_kill (ls : sm_L) (i : Nat) : sm_L := match i with
  | 0 => ls
  | j + 1 => match ls[j]? with
    | some (some v) => if v.category = 2 then ls.set j none else ls
    | _ => ls
def sm_put1 (ls : sm_L) (i : Nat) (v : Value) : Option sm_L := if i < ls.length then some ((sm_kill ls i).set i (some v)) else none
def sm_put2 (ls : sm_L) (i : Nat) (v : Value) : Option sm_L := if i + 1 < ls.length then some (((sm_kill ls i).set i (some v)).set (i + 1) none) else none
def sm_jmp (pc : Nat) (off : Int) : Nat := ((pc : Int) + off).toNat
def sm_cmp (c : ClassFile.Cond) (x y : Int32) : Bool := match c with
  | .eq => decide (x = y)
  | .ne => !decide (x = y)
  | .lt => decide (x < y)
  | .ge => decide (y ≤ x)
  | .gt => decide (y < x)
  | .le => decide (x ≤ y)
/-- where one instruction leads: on; the method's answer; a call (method, arguments, what lies below them) -/
abbrev sm_R : Type := (Nat × sm_L × List Value × sm_H) ⊕ (Option Value ⊕ (Nat × List Value × List Value))
def sm_nx (pc : Nat) (ls : sm_L) (st : List Value) (h : sm_H) : Option sm_R := some (.inl (pc, ls, st, h))
def sm_ret (v : Option Value) : Option sm_R := some (.inr (.inl v))
def sm_call (m : Nat) (as rest : List Value) : Option sm_R := some (.inr (.inr (m, as, rest)))
/-- so many cells at the front of a picture were there before the law began, and are never written -/
def sm_C : Nat := 51
/-- a value fits a field of a kind: 0 int, 1 long, 2 reference, 3 boolean, 4 char -/
def sm_fit (t : Nat) (v : Value) : Bool := match t, v with
  | 0, .int _ => true
  | 1, .long _ => true
  | 2, .ref _ => true
  | 2, .null => true
  | 3, .int x => decide (x = 0 ∨ x = 1)
  | 4, .int x => decide (0 ≤ x ∧ x ≤ 65535)
  | _, _ => false
def sm_dflt (t : Nat) : Value := match t with
  | 1 => .long 0
  | 2 => .null
  | _ => .int 0
/-- an index of an array of n places -/
def sm_ix (x : Int32) (n : Nat) : Bool := decide (¬ x < 0 ∧ x.toNatClampNeg < n)
def sm_args (n : Nat) (st : List Value) : Option (List Value × List Value) := if n ≤ st.length then some ((st.take n).reverse, st.drop n) else none
/-- the method that a class number has in a list [class, method, class, method ..] -/
def sm_pick (ci : Nat) : List Nat → Option Nat
  | c :: m :: r => if c = ci then some m else sm_pick ci r
  | _ => none
def sm_bin (f : Int32 → Int32 → Int32) (pc : Nat) (ls : sm_L) (st : List Value) (h : sm_H) : Option sm_R := match st with
  | .int y :: .int x :: r => sm_nx (pc + 1) ls (.int (f x y) :: r) h
  | _ => none
def sm_binL (f : Int64 → Int64 → Int64) (pc : Nat) (ls : sm_L) (st : List Value) (h : sm_H) : Option sm_R := match st with
  | .long y :: .long x :: r => sm_nx (pc + 1) ls (.long (f x y) :: r) h
  | _ => none
def sm_load (n i pc : Nat) (ls : sm_L) (st : List Value) (h : sm_H) : Option sm_R := match sm_lget ls i with
  | some v => sm_nx (pc + n) ls (v :: st) h
  | none => none
def sm_isI (v : Value) : Bool := match v with | .int _ => true | _ => false
def sm_isL (v : Value) : Bool := match v with | .long _ => true | _ => false
def sm_isA (v : Value) : Bool := match v with | .ref _ => true | _ => false
def sm_loadK (k : Value → Bool) (n i pc : Nat) (ls : sm_L) (st : List Value) (h : sm_H) : Option sm_R := match sm_lget ls i with
  | some v => if k v then sm_nx (pc + n) ls (v :: st) h else none
  | none => none
def sm_store1 (k : Value → Bool) (n i pc : Nat) (ls : sm_L) (st : List Value) (h : sm_H) : Option sm_R := match st with
  | v :: r => if k v then (sm_put1 ls i v).bind (fun ls' => sm_nx (pc + n) ls' r h) else none
  | _ => none
def sm_store2 (n i pc : Nat) (ls : sm_L) (st : List Value) (h : sm_H) : Option sm_R := match st with
  | .long v :: r => (sm_put2 ls i (.long v)).bind (fun ls' => sm_nx (pc + n) ls' r h)
  | _ => none
/-- the array classes' numbers -/
def sm_ty (t : Nat) : Option FieldType := match t with
  | 0 => some .int
  | 1 => some .long
  | 2 => some .char
  | 3 => some .boolean
  | 4 => some .byte
  | _ => none
/-- an element of an array of class number t, of ints -/
def sm_ald (t pc : Nat) (ls : sm_L) (st : List Value) (h : sm_H) : Option sm_R := match st with
  | .int i :: .ref a :: r => match h[a]? with
    | some (.inl (t', n, .inl f)) => if t' = t ∧ sm_ix i n ∧ (sm_C ≤ a ∨ t = 0 ∨ t = 4) then sm_nx (pc + 1) ls (.int (f i.toNatClampNeg) :: r) h else none
    | _ => none
  | _ => none
def sm_ast (t : Nat) (g : Int32 → Int32) (pc : Nat) (ls : sm_L) (st : List Value) (h : sm_H) : Option sm_R := match st with
  | .int x :: .int i :: .ref a :: r => match h[a]? with
    | some (.inl (t', n, .inl f)) => if t' = t ∧ sm_ix i n ∧ sm_C ≤ a then sm_nx (pc + 1) ls r (h.set a (.inl (t', n, .inl (upd f i.toNatClampNeg (g x))))) else none
    | _ => none
  | _ => none
def sm_aldL (pc : Nat) (ls : sm_L) (st : List Value) (h : sm_H) : Option sm_R := match st with
  | .int i :: .ref a :: r => match h[a]? with
    | some (.inl (t', n, .inr (.inl f))) => if t' = 1 ∧ sm_ix i n ∧ sm_C ≤ a then sm_nx (pc + 1) ls (.long (f i.toNatClampNeg) :: r) h else none
    | _ => none
  | _ => none
def sm_astL (pc : Nat) (ls : sm_L) (st : List Value) (h : sm_H) : Option sm_R := match st with
  | .long x :: .int i :: .ref a :: r => match h[a]? with
    | some (.inl (t', n, .inr (.inl f))) => if t' = 1 ∧ sm_ix i n ∧ sm_C ≤ a then sm_nx (pc + 1) ls r (h.set a (.inl (t', n, .inr (.inl (vp_updL f i.toNatClampNeg x))))) else none
    | _ => none
  | _ => none
/-- a char of an int -/
def sm_chr (x : Int32) : Int32 := (x.toUInt32 % 65536).toInt32
/-- getfield: rs = [field, 0, classes that the object may have ..], or [field, 1, class] of an object that was there before -/
def sm_getf (rs : List Nat) (pc : Nat) (ls : sm_L) (st : List Value) (h : sm_H) : Option sm_R := match st, rs with
  | .ref a :: r, k :: z :: cs => match h[a]? with
    | some (.inr (ci, fs)) => if ci ∈ cs ∧ ((z = 0 ∧ sm_C ≤ a) ∨ (z ≠ 0 ∧ a < sm_C)) then (match fs[k]? with
      | some v => sm_nx (pc + 3) ls (v :: r) h
      | none => none) else none
    | _ => none
  | _, _ => none
/-- putfield: rs = [field, its kind, final, classes ..] -/
def sm_putf (rs : List Nat) (pc : Nat) (ls : sm_L) (st : List Value) (h : sm_H) : Option sm_R := match st, rs with
  | v :: .ref a :: r, k :: t :: _ :: cs => match h[a]? with
    | some (.inr (ci, fs)) => if ci ∈ cs ∧ k < fs.length ∧ sm_fit t v ∧ sm_C ≤ a then sm_nx (pc + 3) ls r (h.set a (.inr (ci, fs.set k v))) else none
    | _ => none
  | _, _ => none
/-- new: rs = [class, kinds of its fields ..]; [1000, class] begins 'throw new ..' -/
def sm_newo (rs : List Nat) (pc : Nat) (ls : sm_L) (st : List Value) (h : sm_H) : Option sm_R := match rs with
  | ci :: ts => if ci = 1000 then none else sm_nx (pc + 3) ls (.ref h.length :: st) (h ++ [.inr (ci, ts.map sm_dflt)])
  | _ => none
/-- newarray: rs = [class number of the array] -/
def sm_newa (rs : List Nat) (pc : Nat) (ls : sm_L) (st : List Value) (h : sm_H) : Option sm_R := match st, rs with
  | .int n :: r, [t] => if ¬ n < 0 ∧ n.toNatClampNeg ≤ 65536 then
      sm_nx (pc + 2) ls (.ref h.length :: r) (h ++ [.inl (t, n.toNatClampNeg, if t = 1 then .inr (.inl (fun _ => 0)) else .inl (fun _ => 0))]) else none
  | _, _ => none
/-- a call of a method that is known: rs = [kind, method, number of arguments (with the object)]; of Math.max and Math.min (which the JVM's model knows itself) rs = [7, 0], [7, 1]; of String.checkIndex within its range rs = [8, 0, 0, 0] -/
def sm_callS (rs : List Nat) (st : List Value) : Option sm_R := match rs with
  | [_, m, n] => match sm_args n st with
    | some (as, r) => sm_call m as r
    | none => none
  | _ => none
/-- .. of a constructor -/
def sm_callI (rs : List Nat) (st : List Value) : Option sm_R := match rs with
  | [_, m, n] => match sm_args n st with
    | some (.ref a :: as, r) => sm_call m (.ref a :: as) r
    | _ => none
  | _ => none
/-- a call by the object's class: rs = [kind, number of arguments (without the object), class, method, class, method ..] -/
def sm_callV (rs : List Nat) (st : List Value) (h : sm_H) : Option sm_R := match rs with
  | _ :: n :: ps => match sm_args (n + 1) st with
    | some (.ref a :: as, r) => match h[a]? with
      | some (.inr (ci, _)) => match sm_pick ci ps with
        | some m => sm_call m (.ref a :: as) r
        | none => none
      | _ => none
    | _ => none
  | _ => none
def sm_if (b : Bool) (pc : Nat) (off : Int) (ls : sm_L) (r : List Value) (h : sm_H) : Option sm_R := sm_nx (if b then sm_jmp pc off else pc + 3) ls r h
/-- one instruction -/
def sm_step (q : sm_I) (pc : Nat) (ls : sm_L) (st : List Value) (h : sm_H) : Option sm_R := match q with
  | (i, len, rs) => match i with
    | .iconst n => sm_nx (pc + 1) ls (.int (Int32.ofInt n) :: st) h
    | .bipush n => sm_nx (pc + 2) ls (.int (Int8.ofInt n).toInt32 :: st) h
    | .sipush n => sm_nx (pc + 3) ls (.int (Int16.ofInt n).toInt32 :: st) h
    | .lconst n => sm_nx (pc + 1) ls (.long (Int64.ofNat (n : Nat)) :: st) h
    | .aconst_null => sm_nx (pc + 1) ls (.null :: st) h
    | .ldc _ => match rs with
      | [0, n] => sm_nx (pc + 2) ls (.int (Int32.ofNat n) :: st) h
      | [1, n] => sm_nx (pc + 2) ls (.ref n :: st) h
      | _ => none
    | .ldc_w _ => match rs with
      | [0, n] => sm_nx (pc + 3) ls (.int (Int32.ofNat n) :: st) h
      | _ => none
    | .ldc2_w _ => match rs with
      | [n] => sm_nx (pc + 3) ls (.long (Int64.ofNat n) :: st) h
      | _ => none
    | .iload_n k => sm_loadK sm_isI 1 k pc ls st h
    | .iload k => sm_loadK sm_isI 2 k pc ls st h
    | .lload_n k => sm_loadK sm_isL 1 k pc ls st h
    | .lload k => sm_loadK sm_isL 2 k pc ls st h
    | .aload_n k => sm_loadK sm_isA 1 k pc ls st h
    | .aload k => sm_loadK sm_isA 2 k pc ls st h
    | .istore_n k => sm_store1 sm_isI 1 k pc ls st h
    | .istore k => sm_store1 sm_isI 2 k pc ls st h
    | .astore_n k => sm_store1 sm_isA 1 k pc ls st h
    | .astore k => sm_store1 sm_isA 2 k pc ls st h
    | .lstore_n k => sm_store2 1 k pc ls st h
    | .lstore k => sm_store2 2 k pc ls st h
    | .iinc k n => match sm_lget ls k with
      | some (.int x) => (sm_put1 ls k (.int (x + Int32.ofInt n))).bind (fun ls' => sm_nx (pc + 3) ls' st h)
      | _ => none
    | .iadd => sm_bin (· + ·) pc ls st h
    | .isub => sm_bin (· - ·) pc ls st h
    | .imul => sm_bin (· * ·) pc ls st h
    | .iand => sm_bin (· &&& ·) pc ls st h
    | .ior => sm_bin (· ||| ·) pc ls st h
    | .ixor => sm_bin (· ^^^ ·) pc ls st h
    | .ishl => sm_bin (fun x y => x <<< (y &&& 31)) pc ls st h
    | .ishr => sm_bin (fun x y => x >>> (y &&& 31)) pc ls st h
    | .iushr => sm_bin (fun x y => (x.toUInt32 >>> (y.toUInt32 &&& Int32.toUInt32 31)).toInt32) pc ls st h
    | .idiv => match st with
      | .int y :: .int x :: r => if y = 0 then none else sm_nx (pc + 1) ls (.int (x / y) :: r) h
      | _ => none
    | .irem => match st with
      | .int y :: .int x :: r => if y = 0 then none else sm_nx (pc + 1) ls (.int (x - x / y * y) :: r) h
      | _ => none
    | .ineg => match st with
      | .int x :: r => sm_nx (pc + 1) ls (.int (-x) :: r) h
      | _ => none
    | .ladd => sm_binL (· + ·) pc ls st h
    | .lsub => sm_binL (· - ·) pc ls st h
    | .lmul => sm_binL (· * ·) pc ls st h
    | .land => sm_binL (· &&& ·) pc ls st h
    | .lor => sm_binL (· ||| ·) pc ls st h
    | .lxor => sm_binL (· ^^^ ·) pc ls st h
    | .lrem => match st with
      | .long y :: .long x :: r => if y = 0 then none else sm_nx (pc + 1) ls (.long (x - x / y * y) :: r) h
      | _ => none
    | .ldiv => match st with
      | .long y :: .long x :: r => if y = 0 then none else sm_nx (pc + 1) ls (.long (x / y) :: r) h
      | _ => none
    | .lushr => match st with
      | .int y :: .long x :: r => sm_nx (pc + 1) ls (.long (x.toUInt64 >>> (y.toInt64.toUInt64 &&& Int64.toUInt64 63)).toInt64 :: r) h
      | _ => none
    | .lshl => match st with
      | .int y :: .long x :: r => sm_nx (pc + 1) ls (.long (x <<< (y.toInt64 &&& 63)) :: r) h
      | _ => none
    | .lshr => match st with
      | .int y :: .long x :: r => sm_nx (pc + 1) ls (.long (x >>> (y.toInt64 &&& 63)) :: r) h
      | _ => none
    | .lcmp => match st with
      | .long y :: .long x :: r => sm_nx (pc + 1) ls (.int (lg_cmp x y) :: r) h
      | _ => none
    | .i2l => match st with
      | .int x :: r => sm_nx (pc + 1) ls (.long x.toInt64 :: r) h
      | _ => none
    | .l2i => match st with
      | .long x :: r => sm_nx (pc + 1) ls (.int x.toInt32 :: r) h
      | _ => none
    | .i2c => match st with
      | .int x :: r => sm_nx (pc + 1) ls (.int (sm_chr x) :: r) h
      | _ => none
    | .i2b => match st with
      | .int x :: r => sm_nx (pc + 1) ls (.int x.toInt8.toInt32 :: r) h
      | _ => none
    | .dup => match st with
      | v :: r => if v.category = 1 then sm_nx (pc + 1) ls (v :: v :: r) h else none
      | _ => none
    | .pop => match st with
      | v :: r => if v.category = 1 then sm_nx (pc + 1) ls r h else none
      | _ => none
    | .dup_x1 => match st with
      | v :: w :: r => if v.category = 1 ∧ w.category = 1 then sm_nx (pc + 1) ls (v :: w :: v :: r) h else none
      | _ => none
    | .dup_x2 => match st with
      | v :: w :: u :: r => if v.category = 1 ∧ w.category = 1 ∧ u.category = 1 then sm_nx (pc + 1) ls (v :: w :: u :: v :: r) h else none
      | _ => none
    | .dup2 => match st with
      | .long x :: r => sm_nx (pc + 1) ls (.long x :: .long x :: r) h
      | v :: w :: r => if v.category = 1 ∧ w.category = 1 then sm_nx (pc + 1) ls (v :: w :: v :: w :: r) h else none
      | _ => none
    | .pop2 => match st with
      | .long _ :: r => sm_nx (pc + 1) ls r h
      | v :: w :: r => if v.category = 1 ∧ w.category = 1 then sm_nx (pc + 1) ls r h else none
      | _ => none
    | .if_icmp c off => match st with
      | .int y :: .int x :: r => sm_if (sm_cmp c x y) pc off ls r h
      | _ => none
    | .ifCond c off => match st with
      | .int x :: r => sm_if (sm_cmp c x 0) pc off ls r h
      | _ => none
    | .goto off => sm_nx (sm_jmp pc off) ls st h
    | .tableswitch d lo hi offs => match st with
      | .int x :: r => if x.toInt < lo ∨ hi < x.toInt then sm_nx (sm_jmp pc d) ls r h else (match offs[(x.toInt - lo).toNat]? with
        | some off => sm_nx (sm_jmp pc off) ls r h
        | none => none)
      | _ => none
    | .arraylength => match st with
      | .ref a :: r => match h[a]? with
        | some (.inl (t, n, _)) => if (sm_ty t).isSome then sm_nx (pc + 1) ls (.int (Int32.ofNat n) :: r) h else none
        | _ => none
      | _ => none
    | .iaload => sm_ald 0 pc ls st h
    | .caload => sm_ald 2 pc ls st h
    | .baload => match sm_ald 3 pc ls st h with
      | some r => some r
      | none => sm_ald 4 pc ls st h
    | .iastore => sm_ast 0 (fun x => x) pc ls st h
    | .bastore => sm_ast 3 (fun x => x &&& 1) pc ls st h
    | .castore => sm_ast 2 sm_chr pc ls st h
    | .laload => sm_aldL pc ls st h
    | .lastore => sm_astL pc ls st h
    | .getstatic _ => match rs with
      | [n] => sm_nx (pc + 3) ls (.int (Int32.ofNat n) :: st) h
      | _ => none
    | .getfield _ => sm_getf rs pc ls st h
    | .putfield _ => sm_putf rs pc ls st h
    | .new _ => sm_newo rs pc ls st h
    | .newarray _ => sm_newa rs pc ls st h
    | .invokestatic _ => match rs with
      | [_, k] => match st with
        | .int y :: .int x :: r => if (r.map fun v => v.category).sum ≤ 8 then sm_nx (pc + 3) ls (.int (if k = 0 then (if x < y then y else x) else (if y < x then y else x)) :: r) h else none
        | _ => none
      | [_, _, _, _] => match st with
        | .int n :: .int i :: r => if ¬ i < 0 ∧ i < n ∧ (r.map fun v => v.category).sum ≤ 8 then sm_nx (pc + 3) ls r h else none
        | _ => none
      | _ => sm_callS rs st
    | .invokespecial _ => match rs with
      | [_] => match st with
        | .ref _ :: r => if (r.map fun v => v.category).sum ≤ 8 then sm_nx (pc + 3) ls r h else none
        | _ => none
      | _ => sm_callI rs st
    | .invokevirtual _ => sm_callV rs st h
    | .ireturn => match st with
      | [.int v] => sm_ret (some (.int v))
      | _ => none
    | .lreturn => match st with
      | [.long v] => sm_ret (some (.long v))
      | _ => none
    | .areturn => match st with
      | [.ref v] => sm_ret (some (.ref v))
      | _ => none
    | .return_ => match st with
      | [] => sm_ret none
      | _ => none
    | _ => none
/-- a method: how many locals, the kind of its answer (0 none, 1 int, 2 long, 3 reference, 4 boolean, 5 char, 6 byte), its instructions by their places -/
abbrev sm_M : Type := Nat × Nat × List (Option sm_I)
/-- the locals at the start -/
def sm_slots : List Value → sm_L
  | [] => []
  | v :: vs => if v.category = 2 then some v :: none :: sm_slots vs else some v :: sm_slots vs
def sm_entry (n : Nat) (as : List Value) : sm_L := sm_slots as ++ List.replicate (n - (sm_slots as).length) none
/-- an answer of a kind -/
def sm_okret (k : Nat) (v : Option Value) : Bool := match k, v with
  | 0, none => true
  | 1, some (.int _) => true
  | 2, some (.long _) => true
  | 3, some (.ref _) => true
  | 4, some (.int x) => decide (x = 0 ∨ x = 1)
  | 5, some (.int x) => decide (0 ≤ x ∧ x ≤ 65535)
  | 6, some (.int x) => decide (x = 0 ∨ x = 1)
  | _, _ => false
/-- what is pushed of an answer -/
def sm_back (v : Option Value) (r : List Value) : List Value := match v with
  | some x => x :: r
  | none => r
/-- a run: n the steps, d the depth of calls that is left -/
def sm_run (P : Nat → Option sm_M) : Nat → Nat → Nat → Nat → sm_L → List Value → sm_H → Option (Option Value × sm_H)
  | 0, _, _, _, _, _, _ => none
  | n + 1, d, m, pc, ls, st, h => match P m with
    | none => none
    | some (_, k, tab) => match tab[pc]? with
      | some (some q) => match sm_step q pc ls st h with
        | some (.inl (pc', ls', st', h')) => sm_run P n d m pc' ls' st' h'
        | some (.inr (.inl v)) => if sm_okret k v then some (v, h) else none
        | some (.inr (.inr (m', as, r))) => match d, P m' with
          | d' + 1, some (nl, _, _) => if (sm_slots as).length ≤ nl ∧ (r.map fun v => v.category).sum ≤ 8 then (match sm_run P n d' m' 0 (sm_entry nl as) [] h with
            | some (v, h') => sm_run P n d m (pc + 3) ls (sm_back v r) h'
            | none => none) else none
          | _, _ => none
        | none => none
      | _ => none
end
section
/-! PICTURES AND HEAPS: what the small machine's state says of the JVM's. N0: the heap's size when the law began; cs: where the text constants lie. -/
def sm_mv (ad : Nat → Nat) (v : Value) : Value := match v with
  | .ref k => .ref (ad k)
  | .int x => .int x
  | .long x => .long x
  | .float x => .float x
  | .double x => .double x
  | .null => .null
  | .retAddr x => .retAddr x
def sm_ad (N0 : Nat) (cs : Nat → Nat) (k : Nat) : Nat := if k < sm_C then cs k else N0 + (k - sm_C)
def sm_me (ad : Nat → Nat) (tys : List (ClassId × FieldType)) (e : sm_E) : va_E := match e with
  | .inl (t, a) => .inl ((tys.getD t (0, .int)).1, a)
  | .inr (ci, fs) => .inr (ci, fs.map (sm_mv ad))
/-- the heap holds the picture; K: the cells that were there before -/
def sm_P (D : va_G) (cl : List vw_C) (tys : List (ClassId × FieldType)) (N0 : Nat) (cs : Nat → Nat) (K : sm_H) (h : sm_H) (H : Heap) : Prop :=
  H.size + sm_C = N0 + h.length ∧ sm_C ≤ h.length ∧ (∀ k, k < sm_C → cs k < N0 ∧ h[k]? = K[k]?) ∧ ∀ (k : Nat) (e : sm_E), sm_C ≤ k → h[k]? = some e → va_at D cl (sm_ad N0 cs k, sm_me (sm_ad N0 cs) tys e) H
/-- the locals hold the picture -/
def sm_LR (ad : Nat → Nat) (ls : sm_L) (LS : Array Slot) : Prop := LS.size = ls.length ∧ lv_wf LS ∧ ∀ (i : Nat) (v : Value), ls[i]? = some (some v) → LS[i]? = some (.val (sm_mv ad v))
theorem sm_cat (ad : Nat → Nat) (v : Value) : (sm_mv ad v).category = v.category := by cases v <;> rfl
theorem sm_ad_ge {N0 : Nat} {cs : Nat → Nat} {k : Nat} (h : sm_C ≤ k) : sm_ad N0 cs k = N0 + (k - sm_C) := if_neg (by omega)
theorem sm_ad_lt {N0 : Nat} {cs : Nat → Nat} {k : Nat} (h : k < sm_C) : sm_ad N0 cs k = cs k := if_pos h
def sm_al (ad : Nat → Nat) (ls : sm_L) : List (Nat × Value) := ls.zipIdx.filterMap (fun q => q.1.map (fun v => (q.2, sm_mv ad v)))
theorem sm_al_mem {ad : Nat → Nat} {ls : sm_L} {q : Nat × Value} : q ∈ sm_al ad ls ↔ ∃ v, ls[q.1]? = some (some v) ∧ q.2 = sm_mv ad v := by
  unfold sm_al
  rw [List.mem_filterMap]
  constructor
  · rintro ⟨⟨o, i⟩, h1, h2⟩
    have h3 := List.mem_zipIdx_iff_getElem?.mp h1
    cases o with
    | none => simp at h2
    | some v =>
      simp at h2
      obtain ⟨rfl⟩ := h2
      exact ⟨v, h3, rfl⟩
  · rintro ⟨v, h1, h2⟩
    refine ⟨(some v, q.1), List.mem_zipIdx_iff_getElem?.mpr h1, ?_⟩
    simp [← h2]
theorem sm_LR.has {ad : Nat → Nat} {ls : sm_L} {LS : Array Slot} (h : sm_LR ad ls LS) : lv_has LS ls.length (sm_al ad ls) :=
  ⟨h.1, h.2.1, fun q hq => by
    obtain ⟨v, h1, h2⟩ := sm_al_mem.mp hq
    rw [h2]
    exact h.2.2 _ _ h1⟩
theorem sm_lget_at {ad : Nat → Nat} {ls : sm_L} {LS : Array Slot} (h : sm_LR ad ls LS) {i : Nat} {v : Value} (hg : sm_lget ls i = some v) : LS[i]? = some (.val (sm_mv ad v)) := by
  unfold sm_lget at hg
  split at hg
  · next w hw => cases hg; exact h.2.2 _ _ hw
  · cases hg
theorem sm_kill_len (ls : sm_L) (i : Nat) : (sm_kill ls i).length = ls.length := by
  unfold sm_kill
  cases i with
  | zero => rfl
  | succ j =>
    dsimp only
    split
    · split <;> simp
    · rfl
theorem sm_kill_at {ls : sm_L} {i j : Nat} {w : Value} (h : (sm_kill ls i)[j]? = some (some w)) : ls[j]? = some (some w) ∧ ¬ (j + 1 = i ∧ w.category = 2) := by
  unfold sm_kill at h
  cases i with
  | zero => exact ⟨h, fun z => by omega⟩
  | succ k =>
    dsimp only at h
    split at h
    · next v hv =>
      split at h
      · next hc =>
        by_cases hjk : k = j
        · subst hjk
          have hl := (List.getElem?_eq_some_iff.mp hv).1
          rw [List.getElem?_set_self hl] at h
          cases h
        · rw [List.getElem?_set_ne hjk] at h
          exact ⟨h, fun z => by omega⟩
      · next hc =>
        refine ⟨h, fun z => ?_⟩
        have e : j = k := by omega
        subst e
        rw [hv] at h
        cases h
        exact hc z.2
    · next hno =>
      refine ⟨h, fun z => ?_⟩
      have e : j = k := by omega
      subst e
      exact hno _ h
theorem sm_put1_len {ls ls' : sm_L} {i : Nat} {v : Value} (h : sm_put1 ls i v = some ls') : i < ls.length ∧ ls' = (sm_kill ls i).set i (some v) := by
  unfold sm_put1 at h
  split at h
  · next hl => cases h; exact ⟨hl, rfl⟩
  · cases h
theorem sm_put2_len {ls ls' : sm_L} {i : Nat} {v : Value} (h : sm_put2 ls i v = some ls') : i + 1 < ls.length ∧ ls' = ((sm_kill ls i).set i (some v)).set (i + 1) none := by
  unfold sm_put2 at h
  split at h
  · next hl => cases h; exact ⟨hl, rfl⟩
  · cases h
theorem sm_LR.put1 {ad : Nat → Nat} {ls ls' : sm_L} {LS LS' : Array Slot} {i : Nat} {v : Value} (hp : sm_put1 ls i v = some ls')
    (h : lv_has LS' ls.length ((i, sm_mv ad v) :: (sm_al ad ls).filter (fun q => !(q.1 == i) && !(q.1 + 1 == i && q.2.category == 2)))) : sm_LR ad ls' LS' := by
  obtain ⟨hl, rfl⟩ := sm_put1_len hp
  refine ⟨by rw [h.1, List.length_set, sm_kill_len], h.2.1, fun j w hj => ?_⟩
  by_cases hji : i = j
  · subst hji
    rw [List.getElem?_set_self (by rw [sm_kill_len]; exact hl)] at hj
    cases hj
    exact h.2.2 _ List.mem_cons_self
  · rw [List.getElem?_set_ne hji] at hj
    obtain ⟨h1, h2⟩ := sm_kill_at hj
    refine h.2.2 (j, sm_mv ad w) (List.mem_cons_of_mem _ (List.mem_filter.mpr ⟨sm_al_mem.mpr ⟨w, h1, rfl⟩, ?_⟩))
    simp only [sm_cat]
    by_cases hc : w.category = 2
    · have : ¬ j + 1 = i := fun z => h2 ⟨z, hc⟩
      simp [hc, this, Ne.symm hji]
    · simp [hc, Ne.symm hji]
theorem sm_LR.put2 {ad : Nat → Nat} {ls ls' : sm_L} {LS LS' : Array Slot} {i : Nat} {v : Value} (hp : sm_put2 ls i v = some ls')
    (h : lv_has LS' ls.length ((i, sm_mv ad v) :: (sm_al ad ls).filter (fun q => !(q.1 == i) && (!(q.1 == i + 1) && !(q.1 + 1 == i && q.2.category == 2))))) : sm_LR ad ls' LS' := by
  obtain ⟨hl, rfl⟩ := sm_put2_len hp
  refine ⟨by rw [h.1, List.length_set, List.length_set, sm_kill_len], h.2.1, fun j w hj => ?_⟩
  by_cases hj1 : i + 1 = j
  · subst hj1
    rw [List.getElem?_set_self (by rw [List.length_set, sm_kill_len]; exact hl)] at hj
    cases hj
  · rw [List.getElem?_set_ne hj1] at hj
    by_cases hji : i = j
    · subst hji
      rw [List.getElem?_set_self (by rw [sm_kill_len]; omega)] at hj
      cases hj
      exact h.2.2 _ List.mem_cons_self
    · rw [List.getElem?_set_ne hji] at hj
      obtain ⟨h1, h2⟩ := sm_kill_at hj
      refine h.2.2 (j, sm_mv ad w) (List.mem_cons_of_mem _ (List.mem_filter.mpr ⟨sm_al_mem.mpr ⟨w, h1, rfl⟩, ?_⟩))
      simp only [sm_cat]
      by_cases hc : w.category = 2
      · have : ¬ j + 1 = i := fun z => h2 ⟨z, hc⟩
        simp [hc, this, Ne.symm hji, Ne.symm hj1]
      · simp [hc, Ne.symm hji, Ne.symm hj1]
theorem sm_entry_LR {ad : Nat → Nat} {as : List Value} {n : Nat} (h : (sm_slots as).length ≤ n) : sm_LR ad (sm_entry n as) ((lg_sl (as.map (sm_mv ad)) ++ List.replicate (n - (lg_sl (as.map (sm_mv ad))).length) Slot.unset).toArray) := by
  have key : ∀ vs : List Value, (lg_sl (vs.map (sm_mv ad))).length = (sm_slots vs).length ∧ ∀ (i : Nat) (v : Value), (sm_slots vs)[i]? = some (some v) → (lg_sl (vs.map (sm_mv ad)))[i]? = some (.val (sm_mv ad v)) := by
    intro vs
    induction vs with
    | nil => exact ⟨rfl, fun i v h => by simp [sm_slots] at h⟩
    | cons w vs ih =>
      obtain ⟨h1, h2⟩ := ih
      by_cases hc : w.category = 2
      · have e1 : lg_sl ((w :: vs).map (sm_mv ad)) = .val (sm_mv ad w) :: .second :: lg_sl (vs.map (sm_mv ad)) := by simp [lg_sl, sm_cat, hc]
        have e2 : sm_slots (w :: vs) = some w :: none :: sm_slots vs := by simp [sm_slots, hc]
        rw [e1, e2]
        refine ⟨by simp [h1], fun i v hi => ?_⟩
        match i, hi with
        | 0, hi => simp at hi; subst hi; rfl
        | 1, hi => simp at hi
        | i + 2, hi => exact h2 i v hi
      · have e1 : lg_sl ((w :: vs).map (sm_mv ad)) = .val (sm_mv ad w) :: lg_sl (vs.map (sm_mv ad)) := by simp [lg_sl, sm_cat, hc]
        have e2 : sm_slots (w :: vs) = some w :: sm_slots vs := by simp [sm_slots, hc]
        rw [e1, e2]
        refine ⟨by simp [h1], fun i v hi => ?_⟩
        match i, hi with
        | 0, hi => simp at hi; subst hi; rfl
        | i + 1, hi => exact h2 i v hi
  obtain ⟨h1, h2⟩ := key as
  have hen := lv_entry (as.map (sm_mv ad)) (n := n) (by rw [h1]; exact h)
  refine ⟨by rw [hen.1]; simp [sm_entry]; omega, hen.2.1, fun i v hi => ?_⟩
  unfold sm_entry at hi
  by_cases hl : i < (sm_slots as).length
  · rw [List.getElem?_append_left hl] at hi
    rw [List.getElem?_toArray, List.getElem?_append_left (by rw [h1]; exact hl)]
    exact h2 i v hi
  · rw [List.getElem?_append_right (by omega)] at hi
    have := List.eq_of_mem_replicate (List.mem_of_getElem? hi)
    cases this
end
section
/-! ROWS: what an instruction that writes or makes cells does to a picture -/
/-- the array classes, by their numbers -/
def sm_T (tys : List (ClassId × FieldType)) : Prop := ∀ (t : Nat) (ty : FieldType), sm_ty t = some ty → ∃ cA, tys[t]? = some (cA, ty)
/-- how many slots a cell has -/
def sm_sz (e : sm_E) : Nat := match e with
  | .inl (_, n, _) => n
  | .inr (_, fs) => fs.length
def sm_sl (h : sm_H) : Nat := (h.map sm_sz).sum
theorem sm_sl_app (h : sm_H) (e : sm_E) : sm_sl (h ++ [e]) = sm_sl h + sm_sz e := by simp [sm_sl]
theorem sm_sl_set {e e' : sm_E} (he : sm_sz e' = sm_sz e) : ∀ (h : sm_H) (k : Nat), h[k]? = some e → sm_sl (h.set k e') = sm_sl h := by
  intro h
  induction h with
  | nil => intro k hk; simp at hk
  | cons x h ih =>
    intro k hk
    cases k with
    | zero =>
      simp at hk
      subst hk
      simp [sm_sl, he]
    | succ k =>
      have := ih k (by simpa using hk)
      simp [sm_sl] at this ⊢
      exact this
section SMR
variable {p : Program} {l : Launch} {e : Env} {R : Room} {s : State} {m : MethodId} {args : Array Value} {below : List Frame} {meth : Method} {c : Code} {H : Heap} {locs : List Loc} {cells slots : Nat} {Q : State → Prop}
variable {cc : ByteArray} {pc : Nat} {ls : Array Slot} {rest : List Value} {D : va_G} {cl : List vw_C} {tys : List (ClassId × FieldType)} {N0 : Nat} {cs : Nat → Nat} {K h : sm_H}
/-- one cell is set to another picture -/
theorem sm_P.put {k : Nat} {e0 e1 : sm_E} {H1 : Heap} (hP : sm_P D cl tys N0 cs K h H) (hk : h[k]? = some e0) (hC : sm_C ≤ k) (ha : va_at D cl (sm_ad N0 cs k, sm_me (sm_ad N0 cs) tys e1) H1) (hz : H1.size = H.size) (ho : ∀ q, q ≠ sm_ad N0 cs k → H1[q]? = H[q]?) : sm_P D cl tys N0 cs K (h.set k e1) H1 := by
  refine ⟨by rw [hz, List.length_set]; exact hP.1, by rw [List.length_set]; exact hP.2.1, fun j hj => ⟨(hP.2.2.1 j hj).1, by rw [List.getElem?_set_ne (by omega)]; exact (hP.2.2.1 j hj).2⟩, fun j e hjC hj => ?_⟩
  by_cases hjk : k = j
  · subst hjk
    rw [List.getElem?_set_self (List.getElem?_eq_some_iff.mp hk).1] at hj
    cases hj
    exact ha
  · rw [List.getElem?_set_ne hjk] at hj
    refine (hP.2.2.2 j e hjC hj).kept (ho (sm_ad N0 cs j) ?_)
    rw [sm_ad_ge hC, sm_ad_ge hjC]
    omega
/-- one cell is made -/
theorem sm_P.make {e1 : sm_E} {H1 : Heap} (hP : sm_P D cl tys N0 cs K h H) (ha : va_at D cl (H.size, sm_me (sm_ad N0 cs) tys e1) H1) (hz : H1.size = H.size + 1) (ho : ∀ q, q < H.size → H1[q]? = H[q]?) : sm_P D cl tys N0 cs K (h ++ [e1]) H1 := by
  have hs := hP.1
  have hl := hP.2.1
  refine ⟨by rw [hz, List.length_append, List.length_singleton]; omega, by rw [List.length_append, List.length_singleton]; omega, fun j hj => ⟨(hP.2.2.1 j hj).1, by rw [List.getElem?_append_left (by omega)]; exact (hP.2.2.1 j hj).2⟩, fun j e hjC hj => ?_⟩
  by_cases hjl : j < h.length
  · rw [List.getElem?_append_left hjl] at hj
    exact (hP.2.2.2 j e hjC hj).kept (ho _ (hP.2.2.2 j e hjC hj).lt)
  · rw [List.getElem?_append_right (by omega)] at hj
    have hz2 : j - h.length < 1 := (List.getElem?_eq_some_iff.mp hj).1
    have hj0 : j = h.length := by omega
    subst hj0
    simp at hj
    subst hj
    rw [sm_ad_ge hl, show N0 + (h.length - sm_C) = H.size by omega]
    exact ha
theorem sm_top (hP : sm_P D cl tys N0 cs K h H) : H.size = sm_ad N0 cs h.length := by
  have hs := hP.1
  have hl := hP.2.1
  rw [sm_ad_ge hl]
  omega
theorem sm_fit_ok {t : Nat} {v : Value} {ad : Nat → Nat} {ty : FieldType} (hf : sm_fit t v = true)
    (ht : (t = 0 ∧ ty = .int) ∨ (t = 1 ∧ ty = .long) ∨ (t = 2 ∧ ((∃ n, ty = .object n) ∨ ∃ n, ty = .array n)) ∨ (t = 3 ∧ ty = .boolean) ∨ (t = 4 ∧ ty = .char)) : narrow ty (sm_mv ad v) = sm_mv ad v ∧ fits ty (sm_mv ad v) = true := by
  rcases ht with ⟨rfl, rfl⟩ | ⟨rfl, rfl⟩ | ⟨rfl, ⟨n, rfl⟩ | ⟨n, rfl⟩⟩ | ⟨rfl, rfl⟩ | ⟨rfl, rfl⟩
  · cases v <;> simp [sm_fit] at hf <;> exact ⟨rfl, rfl⟩
  · cases v <;> simp [sm_fit] at hf <;> exact ⟨rfl, rfl⟩
  · cases v <;> simp [sm_fit] at hf <;> exact ⟨rfl, rfl⟩
  · cases v <;> simp [sm_fit] at hf <;> exact ⟨rfl, rfl⟩
  · cases v with
    | int x =>
      simp [sm_fit] at hf
      rcases hf with rfl | rfl <;> exact ⟨rfl, rfl⟩
    | _ => simp [sm_fit] at hf
  · cases v with
    | int x =>
      simp [sm_fit] at hf
      obtain ⟨j, hj, rfl⟩ := nI_of2 (x := x) (M := 65535) (n := 65535) (by decide) (Int32.not_lt.mpr hf.1) hf.2
      exact pk_charN (by omega)
    | _ => simp [sm_fit] at hf
theorem sm_Wput (hexec : p.tables.exec = Jvm.exec) (hb : c.code = cc) {own ref C : String} {T : u_T} {N ci index : Nat} {Ts : List Cond} (hts : ∀ w ∈ Ts, w.before args s = true) (hin : ∀ w ∈ u_ws C T N, w ∈ Ts) (ty0 : Nat → FieldType) (hty : ∀ k, k < N → parseFieldDescriptor (T k).2.2.1 = some (ty0 k)) (hnm : ∀ a, a < N → ∀ b, b < N → a ≠ b → (T a).2.1 ≠ (T b).2.1) (hown : s.vm.findClass own = some m.cls) (hK : va_K D cl tys s) {a : Nat} {fs : List Value} (he : va_at D cl (a, .inr (ci, fs)) H) (hc : cl[ci]? = some (C, T, N)) (k : Nat) (hk : k < N) (hlink : (Cond.fieldLink own index ref (T k).2.1 (T k).2.2.1).before args s = true) (hsame : ∀ x, s.fieldFound? (T k).1 (T k).2.1 (T k).2.2.1 = some x → s.fieldFound? ref (T k).2.1 (T k).2.2.1 = some x) (hfin : (T k).2.2.2 = false ∨ ((T k).2.2.2 = true ∧ meth.name = "<init>" ∧ (T k).1 = own)) {v : Value} (hn : narrow (ty0 k) v = v) (hfit : fits (ty0 k) v = true) (hl : k < fs.length)
    (hdg : decode cc pc = .ok (.putfield index, 3)) (kk : ∀ (H1 : Heap) (j : Nat), va_at D cl (a, .inr (ci, fs.set k v)) H1 → H1.size = H.size → (∀ q, q ≠ a → H1[q]? = H[q]?) → W p l e R s m args below meth c H1 (locs ++ [⟨a, j⟩]) cells slots Q (F0 m (pc + 3) ls rest)) : W p l e R s m args below meth c H locs cells slots Q (F0 m pc ls (v :: .ref a :: rest)) := by
  have hap := va_apart (own := own) hts hin ty0 hty hnm hK hc
  have hd := hty k hk
  obtain ⟨r, h1, cell, q1, q2, q3, q4⟩ := he
  have hr : r = (C, T, N) := Option.some.inj (h1.symm.trans hc)
  subst hr
  obtain ⟨hS, hfc, kC, hkC, hkind⟩ := hK.1 ci _ hc
  obtain ⟨cf, kf, fi, f, hi, hsl⟩ := hS k hk
  have hlay := hts _ (hin _ (u_in_lay hk))
  have hst := (u_facts hfc hkC (u_lays hts hin hk) hi).1
  have last : ∀ H' : Heap, H'[a]? = some (cell.setSlot (D.2 ci k) v) → va_at D cl (a, .inr (ci, fs.set k v)) H' := fun H' e1 => ⟨_, hc, t_OB.to (V := updV (vp_V fs) k v) ⟨_, e1, q2, q3, t_set q4 hap hk v⟩ (fun j _ => vp_updV_set hl v j)⟩
  rcases hfin with hfin | ⟨hfin, hin2, hdecl⟩
  · unfold u_lay at hlay
    rw [if_neg (by rw [hfin]; decide)] at hlay
    have h6 := u_store hfc hkC hkind hlay hi hd hn hfit
    refine W.putK hexec hb (f := f) ⟨hown, hlink, ⟨_, _, _, hsame _ hi⟩, hst⟩ (by rw [q2]; exact h6) q1 q3 (by rw [hsl]; exact k2_hasslot (q4 k hk)) rfl rfl hdg fun H' e1 e2 e3 => ?_
    rw [hsl] at e1 ⊢
    exact kk H' _ (last H' e1) e2 e3
  · unfold u_lay at hlay
    rw [if_pos hfin] at hlay
    have hcf : m.cls = cf := by
      obtain ⟨_, _, c', _, _, _, -, -, hf', -, -, -, hown2, -⟩ := Cond.laysFinal_spec hlay
      have e1 : c' = cf := by have := hi.symm.trans hf'; simp at this; exact this.1.symm
      rw [hdecl] at hown2
      rw [← e1]; exact Option.some.inj (hown.symm.trans hown2)
    have h6 := u_fits hfc hkC hkind (Or.inr hlay) hi hd hn hfit
    refine W.putFinK hexec hb hown hlink (hsame _ hi) hst hcf hin2 (by rw [q2]; exact h6) q1 q3 (by rw [hsl]; exact k2_hasslot (q4 k hk)) rfl rfl hdg fun H' e1 e2 e3 => ?_
    rw [hsl] at e1 ⊢
    exact kk H' _ (last H' e1) e2 e3
theorem sm_in {x : Int32} {n : Nat} (h : sm_ix x n = true) : vp_in x n := by
  simp [sm_ix] at h
  intro z
  rcases z with z | z
  · exact absurd z (Int32.not_lt.mpr h.1)
  · omega
theorem sm_upd_i (cA : ClassId) (n k : Nat) (f : Nat → Int32) (x : Int32) : (vp_cell cA (n, .inl f)).setSlot k (.int x) = vp_cell cA (n, .inl (upd f k x)) := by
  rw [vp_cell_i, vp_cell_i, arrV_store]
  congr 1
  funext q
  by_cases hq : q = k
  · subst hq
    simp [updV, upd]
  · simp [updV, upd, hq]
theorem sm_upd_l (cA : ClassId) (n k : Nat) (f : Nat → Int64) (x : Int64) : (vp_cell cA (n, .inr (.inl f))).setSlot k (.long x) = vp_cell cA (n, .inr (.inl (vp_updL f k x))) := by
  rw [vp_cell_l, vp_cell_l, arrV_store]
  congr 1
  funext q
  by_cases hq : q = k
  · subst hq
    simp [updV, vp_updL]
  · simp [updV, vp_updL, hq]
theorem sm_tys {t : Nat} {ty : FieldType} (hT : sm_T tys) (ht : sm_ty t = some ty) : tys[t]? = some ((tys.getD t (0, .int)).1, ty) := by
  obtain ⟨cA, hc⟩ := hT t ty ht
  rw [hc, List.getD_eq_getElem?_getD, hc]
  rfl
theorem sm_nchr (x : Int32) : narrow .char (.int x) = .int (sm_chr x) := congrArg Value.int (lg_i2c_nf x).symm
end SMR
end
section
/-! STRING.CHECKINDEX within its range. It reads a static of which no more is known than that it is a reference or null: so it is a step of its own, by a contract. -/
def sm_yS : MethodName := ⟨"java/lang/String", "checkIndex", "(II)V"⟩
def sm_yP : MethodName := ⟨"jdk/internal/util/Preconditions", "checkIndex", "(IILjava/util/function/BiFunction;)I"⟩
def sm_cS : ByteArray := ⟨#[0x1a, 0x1b, 0xb2, 0x04, 0x1d, 0xb8, 0x04, 0x23, 0x57, 0xb1]⟩
def sm_cP : ByteArray := ⟨#[0x1a, 0x9b, 0x00, 0x08, 0x1a, 0x1b, 0xa1, 0x00, 0x0a, 0x2c, 0x1a, 0x1b, 0xb8, 0x00, 0x5f, 0xbf, 0x1a, 0xac]⟩
/-- the static, among what was there before -/
def sm_Zs (N0 : Nat) (U : State) : Prop := va_Zq "jdk/internal/util/Preconditions" "SIOOBE_FORMATTER" "Ljava/util/function/BiFunction;" (fun a => N0 ≤ a) U U.heap
def sm_wP : List Cond := [Cond.code sm_yP sm_cP 3 (some .int)]
def sm_wS : List Cond := [Cond.code sm_yS sm_cS 2 none, .fieldLink "java/lang/String" 1053 "jdk/internal/util/Preconditions" "SIOOBE_FORMATTER" "Ljava/util/function/BiFunction;", .methodLink "java/lang/String" 1059 sm_yP, .static sm_yP, .initialized sm_yP.cls, Cond.code sm_yP sm_cP 3 (some .int)]
def sm_rP : Room := { frames := 0, cells := 0, slots := 0, locals := 0 }
def sm_rS : Room := { frames := 1, cells := 0, slots := 0, locals := 22 }
section SMCHK
variable {l : Launch}
def sm_PP : Array Value → State → Prop := fun v _ => ∃ (i n : Int32) (w : Value), v = [.int i, .int n, w].toArray ∧ ¬ i < 0 ∧ i < n
def sm_QP : Array Value → State → Outcome → State → Prop := fun v s o t => (∃ x, v[0]? = some x ∧ o = .returned (some x)) ∧ t.heap = s.heap
theorem sm_metP : Met l sm_yP sm_wP sm_rP sm_PP sm_QP 0 0 (fun _ => False) := by
  refine Met.ofW (cc := sm_cP) (maxL := 3) (ret := some .int) (by decide +kernel) rfl ?_
  intro p e s m args below meth c s₁ B hml hv
  obtain ⟨i, n, w, rfl, h0, hn⟩ := hv
  rw [lg_entry_eq]
  refine lv_iload_n (k := 0) (i := 0) (x := i) B.exec B.bytes (by decide +kernel) rfl rfl ?_
  refine lv_if_lt (tgt := 9) B.exec B.bytes (off := 8) (by decide +kernel) (by decide) (fun z => absurd z h0) (fun _ => ?_)
  refine lv_iload_n (k := 0) (i := 0) (x := i) B.exec B.bytes (by decide +kernel) rfl rfl ?_
  refine lv_iload_n (k := 1) (i := 1) (x := n) B.exec B.bytes (by decide +kernel) rfl rfl ?_
  refine lv_icmp_lt (tgt := 16) B.exec B.bytes (off := 10) (by decide +kernel) (by decide) (fun _ => ?_) (fun z => absurd hn z)
  refine lv_iload_n (k := 0) (i := 0) (x := i) B.exec B.bytes (by decide +kernel) rfl rfl ?_
  exact W.iret B.exec B.bytes B.returns (fun t ht _ => ⟨⟨_, rfl, rfl⟩, ht⟩) (fun q hq => by cases hq) (by decide +kernel) (hlocks := B.notSynchronized)
def sm_PS (N0 : Nat) : Array Value → State → Prop := fun v U => ∃ (i n : Int32), v = [.int i, .int n].toArray ∧ ¬ i < 0 ∧ i < n ∧ sm_Zs N0 U
def sm_QS : Array Value → State → Outcome → State → Prop := fun _ s o t => o = .returned none ∧ t.heap = s.heap
theorem sm_PPb : FrameBlind sm_PP := fun _ _ _ _ q => q
theorem sm_goodP : GoodIn sm_wS sm_wP := fun w hw => by
  rw [List.mem_singleton.mp hw]
  exact ⟨by simp [sm_wS], good_of_word (by decide +kernel)⟩
theorem sm_metS {N0 : Nat} : Met l sm_yS sm_wS sm_rS (sm_PS N0) sm_QS 0 0 (fun _ => False) := by
  refine Met.ofW (cc := sm_cS) (maxL := 2) (ret := none) (by decide +kernel) rfl ?_
  intro p e s m args below meth c s₁ B hml hv
  obtain ⟨i, n, rfl, h0, hn, hZ⟩ := hv
  have hts := atoms_spec (ws := sm_wS) B.pre
  have hown := findClass_of_methodNamed B.named
  rw [lg_entry_eq]
  refine lv_iload_n (k := 0) (i := 0) (x := i) B.exec B.bytes (by decide +kernel) rfl rfl ?_
  refine lv_iload_n (k := 1) (i := 1) (x := n) B.exec B.bytes (by decide +kernel) rfl rfl ?_
  have hSS : va_S (fun a => N0 ≤ a) s.heap s.heap [] := ⟨Nat.le_refl _, fun _ _ _ => rfl, fun x hx => by cases hx⟩
  have key : ∀ v : Value, W p l e (headSpec sm_wS sm_rS).room s m [Value.int i, Value.int n].toArray below meth c s.heap [] 0 0 (MQ below sm_QS [Value.int i, Value.int n].toArray s 0 0 (fun _ => False)) (F0 m 5 ((lg_sl [Value.int i, Value.int n] ++ List.replicate (2 - (lg_sl [Value.int i, Value.int n]).length) Slot.unset).toArray) [v, .int n, .int i]) := by
    intro v
    have hrun := va_runS (l := l) (p := p) (e := e) (R := (headSpec sm_wS sm_rS).room) (below := below) (meth := meth) (H := s.heap) (locs := []) (cells := 0) (slots := 0) (As := [.int i, .int n, v]) (rest := []) (index := 1059) (g := F0 m 5 ((lg_sl [Value.int i, Value.int n] ++ List.replicate (2 - (lg_sl [Value.int i, Value.int n]).length) Slot.unset).toArray) [v, .int n, .int i]) (own := "java/lang/String") (cc := sm_cS) (nL := 2) (Ts := sm_wS) ⟨B.exec, B.bytes, hml, hown, hts⟩ (sm_metP (l := l)) ⟨callB_of 3 hts sm_goodP rfl rfl rfl (hts _ (by simp [sm_wS])) (hts _ (by simp [sm_wS])) ⟨by decide, by decide, by decide +kernel⟩ ⟨by decide, by decide⟩, hts _ (by simp [sm_wS])⟩ ⟨sm_PPb, fun U _ _ => ⟨i, n, v, rfl, h0, hn⟩⟩ rfl rfl rfl rfl (show 2 * 0 + 0 ≤ 8 by decide) (show decode sm_cS 5 = .ok (.invokestatic 1059, 3) by decide +kernel) ⟨Nat.le_refl _, Nat.le_refl _⟩
    intro T hT X
    obtain ⟨v', st₀, t, T', L, e0, X', hL, e1, e2, ⟨⟨x, hx, hv⟩, hh⟩, st⟩ := hrun T hT X
    cases hv
    cases hx
    have hLn : L = [] := List.eq_nil_iff_forall_not_mem.mpr fun q hq => hL q hq
    subst hLn
    have hheap : T'.heap = s.heap := by rw [e1, hh, e0]
    have kk : W p l e (headSpec sm_wS sm_rS).room s m [Value.int i, Value.int n].toArray below meth c s.heap [] 0 0 (MQ below sm_QS [Value.int i, Value.int n].toArray s 0 0 (fun _ => False)) (F0 m 8 ((lg_sl [Value.int i, Value.int n] ++ List.replicate (2 - (lg_sl [Value.int i, Value.int n]).length) Slot.unset).toArray) [.int i]) := by
      refine lv_pop B.exec B.bytes (by decide +kernel) rfl ?_
      exact W.vret B.exec B.bytes B.returns (fun t ht _ => ⟨rfl, ht⟩) (fun q hq => by cases hq) (by decide +kernel) (hlocks := B.notSynchronized)
    obtain ⟨t2, a1, b1⟩ := kk T' hheap X'
    exact ⟨t2, st t2 a1, b1⟩
  rcases hZ with hZ | ⟨t, hZ⟩
  · exact va_gets B.exec B.bytes hZ hSS hown (hts (.fieldLink "java/lang/String" 1053 "jdk/internal/util/Preconditions" "SIOOBE_FORMATTER" "Ljava/util/function/BiFunction;") (by simp [sm_wS])) (fun x hx => hx) (by decide +kernel) (key _)
  · exact va_gets B.exec B.bytes hZ hSS hown (hts (.fieldLink "java/lang/String" 1053 "jdk/internal/util/Preconditions" "SIOOBE_FORMATTER" "Ljava/util/function/BiFunction;") (by simp [sm_wS])) (fun x hx => hx) (by decide +kernel) (key _)
variable {p : Program} {e : Env} {R : Room} {s : State} {m : MethodId} {args : Array Value} {below : List Frame} {meth : Method} {c : Code} {H : Heap} {locs : List Loc} {cells slots : Nat} {Q : State → Prop} {cc : ByteArray} {pc N0 : Nat} {LS : Array Slot} {rest : List Value} {Ts : List Cond} {own : String} {index : Nat}
theorem sm_PSb : FrameBlind (sm_PS N0) := fun a U g mk q => by
  obtain ⟨i, n, h1, h2, h3, h4⟩ := q
  exact ⟨i, n, h1, h2, h3, va_Zq.moved (u := U) (U := U.calling g mk a) (Vm.Alike.refl U.vm) h4⟩
theorem sm_goodS (hin : ∀ w ∈ sm_wS, w ∈ Ts) : GoodIn Ts sm_wS := fun w hw => ⟨hin w hw, good_of_word (by
  have h : sm_wS.all goodWord = true := by decide +kernel
  exact List.all_eq_true.mp h w hw)⟩
/-- the step -/
theorem sm_chk (hexec : p.tables.exec = Jvm.exec) (hb : c.code = cc) (hml : c.maxLocals = LS.size) (hown : s.vm.findClass own = some m.cls) (hts : ∀ w ∈ Ts, w.before args s = true) (hin : ∀ w ∈ sm_wS, w ∈ Ts) (hlink : Cond.methodLink own index sm_yS ∈ Ts) (hstat : Cond.static sm_yS ∈ Ts) (hini : Cond.initialized "java/lang/String" ∈ Ts) (hZ : sm_Zs N0 s) (hF : ∀ q, q < N0 → H[q]? = s.heap[q]?)
    (hR : 2 ≤ R.frames ∧ 43 ≤ R.locals) (hc : cells ≤ R.cells) (hsl : slots ≤ R.slots) {i n : Int32} (h0 : ¬ i < 0) (hn : i < n) (hW : (rest.map fun v => v.category).sum ≤ 8) (hdg : decode cc pc = .ok (.invokestatic index, 3))
    (kk : W p l e R s m args below meth c H locs cells slots Q (F0 m (pc + 3) LS rest)) : W p l e R s m args below meth c H locs cells slots Q (F0 m pc LS (.int n :: .int i :: rest)) := by
  have hrun := va_runS (l := l) (p := p) (e := e) (R := R) (below := below) (meth := meth) (H := H) (locs := locs) (cells := cells) (slots := slots) (As := [.int i, .int n]) (rest := rest) (index := index) (g := F0 m pc LS (.int n :: .int i :: rest)) (own := own) (cc := cc) (nL := LS.size) (Ts := Ts) ⟨hexec, hb, hml, hown, hts⟩ (sm_metS (l := l) (N0 := N0)) ⟨callB_of 2 hts (sm_goodS hin) rfl rfl rfl (hts _ hini) (hts _ hlink) ⟨by decide, by decide, by decide +kernel⟩ ⟨hR.1, hR.2⟩, hts _ hstat⟩ ⟨sm_PSb, fun U hU hW => ⟨i, n, rfl, h0, hn, va_Zq.moved hW.alike (va_Zq.kept hZ (fun a _ h2 => by rw [hU]; exact hF a (Nat.not_le.mp h2)))⟩⟩ rfl rfl rfl rfl (by show 2 * 0 + _ ≤ 8; omega) hdg ⟨hc, hsl⟩
  intro T hT X
  obtain ⟨v', st₀, t, T', L, e0, X', hL, e1, e2, ⟨hv, hh⟩, st⟩ := hrun T hT X
  cases hv
  have hLn : L = [] := List.eq_nil_iff_forall_not_mem.mpr fun q hq => hL q hq
  subst hLn
  rw [List.append_nil] at X'
  obtain ⟨t2, a1, b1⟩ := kk T' (by rw [e1, hh, e0]) X'
  exact ⟨t2, st t2 a1, b1⟩
end SMCHK
end
section
/-! ONE STEP of the small machine that goes on in its method is a step of the JVM -/
def sm_lenOk (i : Instr) (n : Nat) : Bool := match i with
  | .bipush _ | .ldc _ | .iload _ | .lload _ | .aload _ | .istore _ | .lstore _ | .astore _ | .newarray _ => n == 2
  | .sipush _ | .ldc_w _ | .ldc2_w _ | .iinc _ _ | .if_icmp _ _ | .ifCond _ _ | .goto _ | .getstatic _ | .getfield _ | .putfield _ | .new _ | .invokestatic _ | .invokespecial _ | .invokevirtual _ => n == 3
  | .tableswitch _ _ _ _ => true
  | _ => n == 1
def sm_tk (t : Nat) (ty : FieldType) : Prop := (t = 0 ∧ ty = .int) ∨ (t = 1 ∧ ty = .long) ∨ (t = 2 ∧ ((∃ n, ty = .object n) ∨ ∃ n, ty = .array n)) ∨ (t = 3 ∧ ty = .boolean) ∨ (t = 4 ∧ ty = .char)
/-- what the tables must hold of an instruction -/
def sm_okI (Ts : List Cond) (sx : List (String × Nat × String × Nat)) (zx : List (String × String × String × Nat)) (oc : (List (Nat × Nat × String × String × String × Value) × List (String × Nat × MethodName × String))) (K : sm_H) (cl : List vw_C) (own mn : String) (pc : Nat) (i : Instr) (rs : List Nat) : Prop := match i, rs with
  | .if_icmp _ off, _ => 0 ≤ (pc : Int) + off
  | .ifCond _ off, _ => 0 ≤ (pc : Int) + off
  | .goto off, _ => 0 ≤ (pc : Int) + off
  | .tableswitch d _ _ offs, _ => 0 ≤ (pc : Int) + d ∧ ∀ o ∈ offs.toList, 0 ≤ (pc : Int) + o
  | .getstatic idx, [n] => ∃ (C nm d ref : String), (C, nm, d, n) ∈ zx ∧ Cond.fieldLink own idx ref nm d ∈ Ts ∧ (ref = C ∨ Cond.sameField ref C nm d ∈ Ts)
  | .getfield idx, k :: 1 :: cs => ∀ ci ∈ cs, ∀ a fs v, a < sm_C → K[a]? = some (.inr (ci, fs)) → fs[k]? = some v → ∃ (o nm d ref : String), (a, k, o, nm, d, v) ∈ oc.1 ∧ Cond.fieldLink own idx ref nm d ∈ Ts ∧ (ref = o ∨ Cond.sameField ref o nm d ∈ Ts)
  | .getfield _, _ :: (_ + 2) :: _ => False
  | .getfield idx, k :: 0 :: cs => ∀ ci ∈ cs, ∃ (C : String) (T : u_T) (N : Nat) (ref : String), cl[ci]? = some (C, T, N) ∧ k < N ∧ (∀ w ∈ u_ws C T N, w ∈ Ts) ∧ Cond.fieldLink own idx ref (T k).2.1 (T k).2.2.1 ∈ Ts ∧ (ref = (T k).1 ∨ Cond.sameField ref (T k).1 (T k).2.1 (T k).2.2.1 ∈ Ts)
  | .putfield idx, k :: t :: _ :: cs => ∀ ci ∈ cs, ∃ (C : String) (T : u_T) (N : Nat) (ref : String) (ty0 : Nat → FieldType), cl[ci]? = some (C, T, N) ∧ k < N ∧ (∀ w ∈ u_ws C T N, w ∈ Ts) ∧ Cond.fieldLink own idx ref (T k).2.1 (T k).2.2.1 ∈ Ts ∧ (ref = (T k).1 ∨ Cond.sameField ref (T k).1 (T k).2.1 (T k).2.2.1 ∈ Ts) ∧ (∀ k, k < N → parseFieldDescriptor (T k).2.2.1 = some (ty0 k)) ∧ (∀ a, a < N → ∀ b, b < N → a ≠ b → (T a).2.1 ≠ (T b).2.1) ∧ ((T k).2.2.2 = false ∨ ((T k).2.2.2 = true ∧ mn = "<init>" ∧ (T k).1 = own)) ∧ sm_tk t (ty0 k)
  | .new _, 1000 :: _ => True
  | .new idx, ci :: ts => ∃ (C : String) (T : u_T) (N : Nat) (ty0 : Nat → FieldType), cl[ci]? = some (C, T, N) ∧ (∀ w ∈ u_ws C T N, w ∈ Ts) ∧ (∀ k, k < N → parseFieldDescriptor (T k).2.2.1 = some (ty0 k)) ∧ Cond.classLink own idx C ∈ Ts ∧ Cond.instantiable C N ∈ Ts ∧ Cond.initialized C ∈ Ts ∧ ts.length = N ∧ ∀ j, j < N → defaultValue (ty0 j) = sm_dflt (ts.getD j 0)
  | .newarray at', [t] => sm_ty t = some (newarray.typeOf at') ∧ Cond.arrayClass (newarray.typeOf at') ∈ Ts
  | .invokestatic idx, [_, k] => (k = 0 ∧ Cond.methodLink own idx Lib.Math.max.name ∈ Ts ∧ Cond.static Lib.Math.max.name ∈ Ts ∧ Cond.initialized "java/lang/Math" ∈ Ts ∧ Cond.code Lib.Math.max.name Lib.Math.max.code 2 (some .int) ∈ Ts) ∨ (k = 1 ∧ Cond.methodLink own idx Lib.Math.min.name ∈ Ts ∧ Cond.static Lib.Math.min.name ∈ Ts ∧ Cond.initialized "java/lang/Math" ∈ Ts ∧ Cond.code Lib.Math.min.name Lib.Math.min.code 2 (some .int) ∈ Ts)
  | .invokestatic idx, [_, _, _, _] => (∀ w ∈ sm_wS, w ∈ Ts) ∧ Cond.methodLink own idx sm_yS ∈ Ts ∧ Cond.static sm_yS ∈ Ts ∧ Cond.initialized "java/lang/String" ∈ Ts
  | .invokespecial idx, [_] => Cond.methodLink own idx objectInit ∈ Ts ∧ Cond.instanceMethod objectInit ∈ Ts ∧ Cond.code objectInit ⟨#[0xb1]⟩ 1 none ∈ Ts
  | .ldc idx, [0, n] => Cond.constant own idx (Int32.ofNat n) ∈ Ts
  | .ldc idx, [1, n] => ∃ tx, (own, idx, tx, n) ∈ sx
  | .ldc_w idx, [0, n] => Cond.constant own idx (Int32.ofNat n) ∈ Ts
  | .ldc2_w idx, [n] => Cond.constantLong own idx (Int64.ofNat n) ∈ Ts
  | _, _ => True

theorem sm_bin_inv {f : Int32 → Int32 → Int32} {pc pc' : Nat} {ls ls' : sm_L} {st st' : List Value} {h h' : sm_H} (hs : sm_bin f pc ls st h = some (.inl (pc', ls', st', h'))) : ∃ x y r, st = .int y :: .int x :: r ∧ pc' = pc + 1 ∧ ls' = ls ∧ st' = .int (f x y) :: r ∧ h' = h := by
  unfold sm_bin at hs
  split at hs
  · next y x r => simp [sm_nx] at hs; exact ⟨x, y, r, rfl, hs.1.symm, hs.2.1.symm, hs.2.2.1.symm, hs.2.2.2.symm⟩
  · cases hs
theorem sm_binL_inv {f : Int64 → Int64 → Int64} {pc pc' : Nat} {ls ls' : sm_L} {st st' : List Value} {h h' : sm_H} (hs : sm_binL f pc ls st h = some (.inl (pc', ls', st', h'))) : ∃ x y r, st = .long y :: .long x :: r ∧ pc' = pc + 1 ∧ ls' = ls ∧ st' = .long (f x y) :: r ∧ h' = h := by
  unfold sm_binL at hs
  split at hs
  · next y x r => simp [sm_nx] at hs; exact ⟨x, y, r, rfl, hs.1.symm, hs.2.1.symm, hs.2.2.1.symm, hs.2.2.2.symm⟩
  · cases hs
theorem sm_nx_inv {pc pc' : Nat} {ls ls' : sm_L} {st st' : List Value} {h h' : sm_H} (hs : sm_nx pc ls st h = some (.inl (pc', ls', st', h'))) : pc' = pc ∧ ls' = ls ∧ st' = st ∧ h' = h := by
  simp [sm_nx] at hs; exact ⟨hs.1.symm, hs.2.1.symm, hs.2.2.1.symm, hs.2.2.2.symm⟩
theorem sm_loadK_inv {k : Value → Bool} {n i pc pc' : Nat} {ls ls' : sm_L} {st st' : List Value} {h h' : sm_H} (hs : sm_loadK k n i pc ls st h = some (.inl (pc', ls', st', h'))) : ∃ v, sm_lget ls i = some v ∧ k v = true ∧ pc' = pc + n ∧ ls' = ls ∧ st' = v :: st ∧ h' = h := by
  unfold sm_loadK at hs
  split at hs
  · next v hv =>
    split at hs
    · next hk => exact ⟨v, hv, hk, sm_nx_inv hs⟩
    · cases hs
  · cases hs
theorem sm_store1_inv {k : Value → Bool} {n i pc pc' : Nat} {ls ls' : sm_L} {st st' : List Value} {h h' : sm_H} (hs : sm_store1 k n i pc ls st h = some (.inl (pc', ls', st', h'))) : ∃ v, st = v :: st' ∧ k v = true ∧ sm_put1 ls i v = some ls' ∧ pc' = pc + n ∧ h' = h := by
  unfold sm_store1 at hs
  split at hs
  · next v r =>
    split at hs
    · next hk =>
      cases hp : sm_put1 ls i v with
      | none => rw [hp] at hs; cases hs
      | some l2 =>
        rw [hp] at hs
        obtain ⟨rfl, rfl, rfl, rfl⟩ := sm_nx_inv hs
        exact ⟨v, rfl, hk, hp, rfl, rfl⟩
    · cases hs
  · cases hs
theorem sm_store2_inv {n i pc pc' : Nat} {ls ls' : sm_L} {st st' : List Value} {h h' : sm_H} (hs : sm_store2 n i pc ls st h = some (.inl (pc', ls', st', h'))) : ∃ v, st = .long v :: st' ∧ sm_put2 ls i (.long v) = some ls' ∧ pc' = pc + n ∧ h' = h := by
  unfold sm_store2 at hs
  split at hs
  · next v r =>
    cases hp : sm_put2 ls i (.long v) with
    | none => rw [hp] at hs; cases hs
    | some l2 =>
      rw [hp] at hs
      obtain ⟨rfl, rfl, rfl, rfl⟩ := sm_nx_inv hs
      exact ⟨v, rfl, hp, rfl, rfl⟩
  · cases hs
theorem sm_isI_inv {v : Value} (h : sm_isI v = true) : ∃ x, v = .int x := by cases v <;> simp [sm_isI] at h; exact ⟨_, rfl⟩
theorem sm_isL_inv {v : Value} (h : sm_isL v = true) : ∃ x, v = .long x := by cases v <;> simp [sm_isL] at h; exact ⟨_, rfl⟩
theorem sm_isA_inv {v : Value} (h : sm_isA v = true) : ∃ x, v = .ref x := by cases v <;> simp [sm_isA] at h; exact ⟨_, rfl⟩
theorem sm_jmp_ok {pc : Nat} {off : Int} (h : 0 ≤ (pc : Int) + off) : (pc : Int) + off = ((sm_jmp pc off : Nat) : Int) := (Int.toNat_of_nonneg h).symm
theorem sm_ald_inv {t pc pc' : Nat} {ls ls' : sm_L} {st st' : List Value} {h h' : sm_H} (hs : sm_ald t pc ls st h = some (.inl (pc', ls', st', h'))) : ∃ i a n f r, st = .int i :: .ref a :: r ∧ h[a]? = some (.inl (t, n, .inl f)) ∧ (sm_ix i n = true ∧ (sm_C ≤ a ∨ t = 0 ∨ t = 4)) ∧ pc' = pc + 1 ∧ ls' = ls ∧ st' = .int (f i.toNatClampNeg) :: r ∧ h' = h := by
  unfold sm_ald at hs
  split at hs
  · next i a r =>
    split at hs
    · next t' n f ha =>
      split at hs
      · next hc =>
        obtain ⟨rfl, hc2⟩ := hc
        exact ⟨i, a, n, f, r, rfl, ha, hc2, sm_nx_inv hs⟩
      · cases hs
    · cases hs
  · cases hs
theorem sm_ast_inv {t pc pc' : Nat} {g : Int32 → Int32} {ls ls' : sm_L} {st st' : List Value} {h h' : sm_H} (hs : sm_ast t g pc ls st h = some (.inl (pc', ls', st', h'))) : ∃ x i a n f, st = .int x :: .int i :: .ref a :: st' ∧ h[a]? = some (.inl (t, n, .inl f)) ∧ sm_ix i n = true ∧ sm_C ≤ a ∧ pc' = pc + 1 ∧ ls' = ls ∧ h' = h.set a (.inl (t, n, .inl (upd f i.toNatClampNeg (g x)))) := by
  unfold sm_ast at hs
  split at hs
  · next x i a r =>
    split at hs
    · next t' n f ha =>
      split at hs
      · next hc =>
        obtain ⟨rfl, hc2, hc3⟩ := hc
        obtain ⟨rfl, rfl, rfl, rfl⟩ := sm_nx_inv hs
        exact ⟨x, i, a, n, f, rfl, ha, hc2, hc3, rfl, rfl, rfl⟩
      · cases hs
    · cases hs
  · cases hs

/-- the name of a class number; the number behind the last one is String's -/
def sm_nm (cl : List vw_C) (ci : Nat) : Option String := if ci = cl.length then some "java/lang/String" else (cl[ci]?).map (fun r => r.1)
theorem sm_nm_of {cl : List vw_C} {ci : Nat} {r : vw_C} (h : cl[ci]? = some r) : sm_nm cl ci = some r.1 := by
  unfold sm_nm
  rw [if_neg (Nat.ne_of_lt (List.getElem?_eq_some_iff.mp h).1), h]
  rfl
/-- arrays and objects that were there before -/
def sm_OA (cl : List vw_C) (K : sm_H) (N0 : Nat) (cs : Nat → Nat) (U : State) : Prop := ∀ k, k < sm_C → cs k < N0 ∧
  (∀ t n f, K[k]? = some (.inl (t, n, f)) → ∃ (ty : FieldType) (cell : Cell) (f0 : Nat → Int32), f = .inl f0 ∧ sm_ty t = some ty ∧ U.heap[cs k]? = some cell ∧ U.isArrayOf cell ty ∧ cell.vm ≠ .unknown ∧ (n ≤ cell.slots.size ∧ cell.slots.size.toInt32 = Int32.ofNat n) ∧ ∀ j, j < n → cell.slots[j]? = some (.int (f0 j))) ∧
  (∀ ci fs, K[k]? = some (.inr (ci, fs)) → ∃ (C : String) (cell : Cell), sm_nm cl ci = some C ∧ U.heap[cs k]? = some cell ∧ cell.vm.isStatics = false ∧ U.vm.findClass C = some cell.cls)
theorem sm_OA.moved {cl : List vw_C} {K : sm_H} {N0 : Nat} {cs : Nat → Nat} {u U : State} (h : sm_OA cl K N0 cs u) (hvm : u.vm.Alike U.vm) (hF : ∀ q, q < N0 → U.heap[q]? = u.heap[q]?) : sm_OA cl K N0 cs U := fun k hk => by
  obtain ⟨h0, h1, h2⟩ := h k hk
  refine ⟨h0, fun t n f he => ?_, fun ci fs he => ?_⟩
  · obtain ⟨ty, cell, f0, q1, q2, q3, q4, q5⟩ := h1 t n f he
    exact ⟨ty, cell, f0, q1, q2, by rw [hF _ h0]; exact q3, State.isArrayOf_alike hvm q4, q5⟩
  · obtain ⟨r, cell, q1, q2, q3, q4⟩ := h2 ci fs he
    exact ⟨r, cell, q1, by rw [hF _ h0]; exact q2, q3, by rw [hvm.findClass]; exact q4⟩
/-- what was there before, and stays: text constants, statics, fields of constants -/
def sm_X (cl : List vw_C) (K : sm_H) (sx : List (String × Nat × String × Nat)) (zx : List (String × String × String × Nat)) (oc : (List (Nat × Nat × String × String × String × Value) × List (String × Nat × MethodName × String))) (N0 : Nat) (cs : Nat → Nat) (U : State) : Prop :=
  (∀ q ∈ sx, vk_R q.1 q.2.1 q.2.2.1 (sm_ad N0 cs q.2.2.2) U) ∧ (∀ q ∈ zx, va_Z q.1 q.2.1 q.2.2.1 (.int (Int32.ofNat q.2.2.2)) (fun a => N0 ≤ a) U U.heap) ∧ (∀ q ∈ oc.1, va_OF q.2.2.1 q.2.2.2.1 q.2.2.2.2.1 (sm_mv (sm_ad N0 cs) q.2.2.2.2.2) (sm_ad N0 cs q.1) (fun a => N0 ≤ a) U U.heap) ∧ (∀ q ∈ oc.2, va_Nw (.methodLinkNest q.1 q.2.1 q.2.2.1 q.2.2.2) U) ∧ sm_Zs N0 U ∧ sm_OA cl K N0 cs U
section SMN
variable {p : Program} {l : Launch} {e : Env} {R : Room} {s : State} {m : MethodId} {args : Array Value} {below : List Frame} {meth : Method} {c : Code} {H : Heap} {locs : List Loc} {cells slots : Nat} {Q : State → Prop}
variable {cc : ByteArray} {D : va_G} {cl : List vw_C} {tys : List (ClassId × FieldType)} {N0 : Nat} {cs : Nat → Nat} {K h h' : sm_H} {Ts : List Cond} {sx : List (String × Nat × String × Nat)} {zx : List (String × String × String × Nat)} {oc : (List (Nat × Nat × String × String × String × Value) × List (String × Nat × MethodName × String))} {own : String} {pc pc' : Nat} {ls ls' : sm_L} {LS : Array Slot} {st st' : List Value}
/-- an array's cell of a picture -/
theorem sm_cell {a t n : Nat} {f : (Nat → Int32) ⊕ (Nat → Int64) ⊕ (Nat → UInt32) ⊕ (Nat → UInt64) ⊕ (Nat → Option Nat)} (hP : sm_P D cl tys N0 cs K h H) (hC : sm_C ≤ a) (ha : h[a]? = some (.inl (t, n, f))) : H[sm_ad N0 cs a]? = some (vp_cell (tys.getD t (0, .int)).1 (n, f)) := hP.2.2.2 a _ hC ha
theorem sm_obj {a ci : Nat} {fs : List Value} (hP : sm_P D cl tys N0 cs K h H) (hC : sm_C ≤ a) (ha : h[a]? = some (.inr (ci, fs))) : va_at D cl (sm_ad N0 cs a, .inr (ci, fs.map (sm_mv (sm_ad N0 cs)))) H := hP.2.2.2 a _ hC ha
theorem sm_adN {a : Nat} (h : sm_C ≤ a) : N0 ≤ sm_ad N0 cs a := by rw [sm_ad_ge h]; exact Nat.le_add_right _ _
theorem sm_P1 {q : Nat × va_E} (h : va_at D cl q H) : va_P D cl [q] H := fun k x hx => by
  have hz : k < 1 := (List.getElem?_eq_some_iff.mp hx).1
  rw [show k = 0 by omega] at hx
  cases hx
  exact h
theorem sm_same {ref o n d : String} (hts : ∀ w ∈ Ts, w.before args s = true) (hsame : ref = o ∨ Cond.sameField ref o n d ∈ Ts) : ∀ x, s.fieldFound? o n d = some x → s.fieldFound? ref n d = some x := by
  rcases hsame with rfl | h
  · exact fun x h => h
  · exact fun x hx => u_same (hts _ h) x hx
/-- an array of ints, old or new -/
theorem sm_arr {a t n : Nat} {f : Nat → Int32} {ty : FieldType} (hP : sm_P D cl tys N0 cs K h H) (hO : sm_OA cl K N0 cs s) (hF : ∀ q, q < N0 → H[q]? = s.heap[q]?) (hK : va_K D cl tys s) (hT : sm_T tys) (ht : sm_ty t = some ty) (ha : h[a]? = some (.inl (t, n, .inl f))) :
    ∃ cell, H[sm_ad N0 cs a]? = some cell ∧ s.isArrayOf cell ty ∧ cell.vm ≠ .unknown ∧ n ≤ cell.slots.size ∧ ∀ j, j < n → cell.slots[j]? = some (.int (f j)) := by
  by_cases hC : a < sm_C
  · obtain ⟨h0, h1, -⟩ := hO a hC
    obtain ⟨ty', cell, f0, q1, q2, q3, q4, q5, q6, q7⟩ := h1 t n _ ((hP.2.2.1 a hC).2.symm.trans ha)
    cases q1
    cases ht.symm.trans q2
    exact ⟨cell, by rw [sm_ad_lt hC, hF _ h0]; exact q3, q4, q5, q6.1, q7⟩
  · have h1 := sm_cell hP (Nat.not_lt.mp hC) ha
    refine ⟨_, h1, (hK.2 t _ (sm_tys hT ht)).1 _ _, fun z => (by cases z), Nat.le_of_eq (arrV_size _ _ _).symm, fun j hj => arrV_read _ _ hj⟩
/-- an array's length, old -/
theorem sm_len {a t n : Nat} {f : (Nat → Int32) ⊕ (Nat → Int64) ⊕ (Nat → UInt32) ⊕ (Nat → UInt64) ⊕ (Nat → Option Nat)} {ty : FieldType} (hP : sm_P D cl tys N0 cs K h H) (hO : sm_OA cl K N0 cs s) (hF : ∀ q, q < N0 → H[q]? = s.heap[q]?) (ht : sm_ty t = some ty) (hC : a < sm_C) (ha : h[a]? = some (.inl (t, n, f))) :
    ∃ cell, H[sm_ad N0 cs a]? = some cell ∧ s.isArrayOf cell ty ∧ cell.slots.size.toInt32 = Int32.ofNat n := by
  obtain ⟨h0, h1, -⟩ := hO a hC
  obtain ⟨ty', cell, f0, q1, q2, q3, q4, q5, q6, q7⟩ := h1 t n _ ((hP.2.2.1 a hC).2.symm.trans ha)
  cases ht.symm.trans q2
  exact ⟨cell, by rw [sm_ad_lt hC, hF _ h0]; exact q3, q4, q6.2⟩
/-- the object of a call, old or new -/
theorem sm_recv {b ci : Nat} {fs : List Value} {C : String} (hP : sm_P D cl tys N0 cs K h H) (hO : sm_OA cl K N0 cs s) (hF : ∀ q, q < N0 → H[q]? = s.heap[q]?) (hK : va_K D cl tys s) (hb : h[b]? = some (.inr (ci, fs))) (hc : sm_nm cl ci = some C) :
    ∃ cell : Cell, H[sm_ad N0 cs b]? = some cell ∧ cell.vm.isStatics = false ∧ s.vm.findClass C = some cell.cls := by
  by_cases hC : b < sm_C
  · obtain ⟨h0, -, h2⟩ := hO b hC
    obtain ⟨r, cell, q1, q2, q3, q4⟩ := h2 ci fs ((hP.2.2.1 b hC).2.symm.trans hb)
    cases hc.symm.trans q1
    exact ⟨cell, by rw [sm_ad_lt hC, hF _ h0]; exact q2, q3, q4⟩
  · have h1 := sm_obj hP (Nat.not_lt.mp hC) hb
    obtain ⟨r, hr, -⟩ := id h1
    cases hc.symm.trans (sm_nm_of hr)
    exact va_recv hK (sm_P1 h1) (q0 := 0) hr rfl

set_option maxHeartbeats 16000000 in
set_option maxRecDepth 100000 in
theorem sm_next {i : Instr} {len : Nat} {rs : List Nat} (hexec : p.tables.exec = Jvm.exec) (hb : c.code = cc) (hts : ∀ w ∈ Ts, w.before args s = true) (hown : s.vm.findClass own = some m.cls) (hK : va_K D cl tys s) (hT : sm_T tys)
    (hX : sm_X cl K sx zx oc N0 cs s) (hF : ∀ q, q < N0 → H[q]? = s.heap[q]?) (hZ0 : s.heap.size ≤ H.size) (hok : sm_okI Ts sx zx oc K cl own meth.name pc i rs) (hlen : sm_lenOk i len = true) (hd : decode cc pc = .ok (i, len))
    (hP : sm_P D cl tys N0 cs K h H) (hL : sm_LR (sm_ad N0 cs) ls LS) (hlocs : ∀ x ∈ locs, N0 ≤ x.base) (hR1 : 2 ≤ R.frames ∧ 43 ≤ R.locals) (hml : c.maxLocals = ls.length)
    (hroom : cells + (h'.length - h.length) ≤ R.cells ∧ slots + (sm_sl h' - sm_sl h) ≤ R.slots) (hs : sm_step (i, len, rs) pc ls st h = some (.inl (pc', ls', st', h')))
    (kk : ∀ (H' : Heap) (locs' : List Loc) (LS' : Array Slot), sm_P D cl tys N0 cs K h' H' → sm_LR (sm_ad N0 cs) ls' LS' → (∀ q, q < N0 → H'[q]? = H[q]?) → (∀ x ∈ locs', N0 ≤ x.base) →
      W p l e R s m args below meth c H' locs' (cells + (h'.length - h.length)) (slots + (sm_sl h' - sm_sl h)) Q (F0 m pc' LS' (st'.map (sm_mv (sm_ad N0 cs))))) :
    W p l e R s m args below meth c H locs cells slots Q (F0 m pc LS (st.map (sm_mv (sm_ad N0 cs)))) := by
  have hSS : va_S (fun a => N0 ≤ a) s.heap H locs := ⟨hZ0, fun q _ h2 => hF q (Nat.not_le.mp h2), hlocs⟩
  have k0 : h' = h → ∀ LS' : Array Slot, sm_LR (sm_ad N0 cs) ls' LS' → W p l e R s m args below meth c H locs cells slots Q (F0 m pc' LS' (st'.map (sm_mv (sm_ad N0 cs)))) := by
    intro e1 LS' hLR
    subst e1
    have := kk H locs LS' hP hLR (fun _ _ => rfl) hlocs
    simpa using this
  cases i with
  | iadd =>
    simp only [sm_lenOk, beq_iff_eq] at hlen
    subst hlen
    obtain ⟨x, y, r, rfl, rfl, rfl, rfl, rfl⟩ := sm_bin_inv hs
    exact lv_iadd hexec hb hd (k0 rfl LS hL)
  | isub =>
    simp only [sm_lenOk, beq_iff_eq] at hlen
    subst hlen
    obtain ⟨x, y, r, rfl, rfl, rfl, rfl, rfl⟩ := sm_bin_inv hs
    exact lv_isub hexec hb hd (k0 rfl LS hL)
  | imul =>
    simp only [sm_lenOk, beq_iff_eq] at hlen
    subst hlen
    obtain ⟨x, y, r, rfl, rfl, rfl, rfl, rfl⟩ := sm_bin_inv hs
    exact lv_imul hexec hb hd (k0 rfl LS hL)
  | iand =>
    simp only [sm_lenOk, beq_iff_eq] at hlen
    subst hlen
    obtain ⟨x, y, r, rfl, rfl, rfl, rfl, rfl⟩ := sm_bin_inv hs
    exact lv_iand hexec hb hd (k0 rfl LS hL)
  | ior =>
    simp only [sm_lenOk, beq_iff_eq] at hlen
    subst hlen
    obtain ⟨x, y, r, rfl, rfl, rfl, rfl, rfl⟩ := sm_bin_inv hs
    exact lv_ior hexec hb hd (k0 rfl LS hL)
  | ixor =>
    simp only [sm_lenOk, beq_iff_eq] at hlen
    subst hlen
    obtain ⟨x, y, r, rfl, rfl, rfl, rfl, rfl⟩ := sm_bin_inv hs
    exact lv_ixor hexec hb hd (k0 rfl LS hL)
  | ishl =>
    simp only [sm_lenOk, beq_iff_eq] at hlen
    subst hlen
    obtain ⟨x, y, r, rfl, rfl, rfl, rfl, rfl⟩ := sm_bin_inv hs
    exact lv_ishl hexec hb hd (k0 rfl LS hL)
  | ishr =>
    simp only [sm_lenOk, beq_iff_eq] at hlen
    subst hlen
    obtain ⟨x, y, r, rfl, rfl, rfl, rfl, rfl⟩ := sm_bin_inv hs
    exact lv_ishr hexec hb hd (k0 rfl LS hL)
  | iushr =>
    simp only [sm_lenOk, beq_iff_eq] at hlen
    subst hlen
    obtain ⟨x, y, r, rfl, rfl, rfl, rfl, rfl⟩ := sm_bin_inv hs
    exact lv_iushr hexec hb hd rfl (k0 rfl LS hL)
  | ladd =>
    simp only [sm_lenOk, beq_iff_eq] at hlen
    subst hlen
    obtain ⟨x, y, r, rfl, rfl, rfl, rfl, rfl⟩ := sm_binL_inv hs
    exact lv_ladd hexec hb hd (k0 rfl LS hL)
  | lsub =>
    simp only [sm_lenOk, beq_iff_eq] at hlen
    subst hlen
    obtain ⟨x, y, r, rfl, rfl, rfl, rfl, rfl⟩ := sm_binL_inv hs
    exact lv_lsub hexec hb hd (k0 rfl LS hL)
  | lmul =>
    simp only [sm_lenOk, beq_iff_eq] at hlen
    subst hlen
    obtain ⟨x, y, r, rfl, rfl, rfl, rfl, rfl⟩ := sm_binL_inv hs
    exact lv_lmul hexec hb hd (k0 rfl LS hL)
  | land =>
    simp only [sm_lenOk, beq_iff_eq] at hlen
    subst hlen
    obtain ⟨x, y, r, rfl, rfl, rfl, rfl, rfl⟩ := sm_binL_inv hs
    exact lv_land hexec hb hd (k0 rfl LS hL)
  | lor =>
    simp only [sm_lenOk, beq_iff_eq] at hlen
    subst hlen
    obtain ⟨x, y, r, rfl, rfl, rfl, rfl, rfl⟩ := sm_binL_inv hs
    exact lv_lor hexec hb hd (k0 rfl LS hL)
  | lxor =>
    simp only [sm_lenOk, beq_iff_eq] at hlen
    subst hlen
    obtain ⟨x, y, r, rfl, rfl, rfl, rfl, rfl⟩ := sm_binL_inv hs
    exact lv_lxor hexec hb hd (k0 rfl LS hL)
  | iconst n =>
    simp only [sm_lenOk, beq_iff_eq] at hlen
    subst hlen
    obtain ⟨rfl, rfl, rfl, rfl⟩ := sm_nx_inv hs
    exact lv_iconst hexec hb hd rfl (k0 rfl LS hL)
  | bipush n =>
    simp only [sm_lenOk, beq_iff_eq] at hlen
    subst hlen
    obtain ⟨rfl, rfl, rfl, rfl⟩ := sm_nx_inv hs
    exact lv_bipush hexec hb hd rfl (k0 rfl LS hL)
  | sipush n =>
    simp only [sm_lenOk, beq_iff_eq] at hlen
    subst hlen
    obtain ⟨rfl, rfl, rfl, rfl⟩ := sm_nx_inv hs
    exact lv_sipush hexec hb hd rfl (k0 rfl LS hL)
  | lconst n =>
    simp only [sm_lenOk, beq_iff_eq] at hlen
    subst hlen
    obtain ⟨rfl, rfl, rfl, rfl⟩ := sm_nx_inv hs
    exact lv_lconst hexec hb hd rfl (k0 rfl LS hL)
  | aconst_null  =>
    simp only [sm_lenOk, beq_iff_eq] at hlen
    subst hlen
    obtain ⟨rfl, rfl, rfl, rfl⟩ := sm_nx_inv hs
    exact lv_null hexec hb hd (k0 rfl LS hL)
  | iload_n k =>
    simp only [sm_lenOk, beq_iff_eq] at hlen
    subst hlen
    obtain ⟨v, hv, hk, rfl, rfl, rfl, rfl⟩ := sm_loadK_inv hs
    obtain ⟨x, rfl⟩ := sm_isI_inv hk
    exact lv_iload_n hexec hb hd rfl (sm_lget_at hL hv) (k0 rfl LS hL)
  | iload k =>
    simp only [sm_lenOk, beq_iff_eq] at hlen
    subst hlen
    obtain ⟨v, hv, hk, rfl, rfl, rfl, rfl⟩ := sm_loadK_inv hs
    obtain ⟨x, rfl⟩ := sm_isI_inv hk
    exact lv_iload hexec hb hd (sm_lget_at hL hv) (k0 rfl LS hL)
  | lload_n k =>
    simp only [sm_lenOk, beq_iff_eq] at hlen
    subst hlen
    obtain ⟨v, hv, hk, rfl, rfl, rfl, rfl⟩ := sm_loadK_inv hs
    obtain ⟨x, rfl⟩ := sm_isL_inv hk
    exact lv_lload_n hexec hb hd rfl (sm_lget_at hL hv) (k0 rfl LS hL)
  | lload k =>
    simp only [sm_lenOk, beq_iff_eq] at hlen
    subst hlen
    obtain ⟨v, hv, hk, rfl, rfl, rfl, rfl⟩ := sm_loadK_inv hs
    obtain ⟨x, rfl⟩ := sm_isL_inv hk
    exact lv_lload hexec hb hd (sm_lget_at hL hv) (k0 rfl LS hL)
  | aload_n k =>
    simp only [sm_lenOk, beq_iff_eq] at hlen
    subst hlen
    obtain ⟨v, hv, hk, rfl, rfl, rfl, rfl⟩ := sm_loadK_inv hs
    obtain ⟨x, rfl⟩ := sm_isA_inv hk
    exact lv_aload_n hexec hb hd rfl (sm_lget_at hL hv) (k0 rfl LS hL)
  | aload k =>
    simp only [sm_lenOk, beq_iff_eq] at hlen
    subst hlen
    obtain ⟨v, hv, hk, rfl, rfl, rfl, rfl⟩ := sm_loadK_inv hs
    obtain ⟨x, rfl⟩ := sm_isA_inv hk
    exact lv_aload hexec hb hd (sm_lget_at hL hv) (k0 rfl LS hL)
  | istore_n k =>
    simp only [sm_lenOk, beq_iff_eq] at hlen
    subst hlen
    obtain ⟨v, rfl, hk, hp, rfl, rfl⟩ := sm_store1_inv hs
    obtain ⟨x, rfl⟩ := sm_isI_inv hk
    exact lv_istore_n hexec hb hd rfl hL.has (sm_put1_len hp).1 rfl (fun LS' hl => k0 rfl LS' (sm_LR.put1 (LS := LS) hp hl))
  | istore k =>
    simp only [sm_lenOk, beq_iff_eq] at hlen
    subst hlen
    obtain ⟨v, rfl, hk, hp, rfl, rfl⟩ := sm_store1_inv hs
    obtain ⟨x, rfl⟩ := sm_isI_inv hk
    exact lv_istore hexec hb hd hL.has (sm_put1_len hp).1 rfl (fun LS' hl => k0 rfl LS' (sm_LR.put1 (LS := LS) hp hl))
  | astore_n k =>
    simp only [sm_lenOk, beq_iff_eq] at hlen
    subst hlen
    obtain ⟨v, rfl, hk, hp, rfl, rfl⟩ := sm_store1_inv hs
    obtain ⟨x, rfl⟩ := sm_isA_inv hk
    exact lv_astore_n hexec hb hd rfl hL.has (sm_put1_len hp).1 rfl (fun LS' hl => k0 rfl LS' (sm_LR.put1 (LS := LS) hp hl))
  | astore k =>
    simp only [sm_lenOk, beq_iff_eq] at hlen
    subst hlen
    obtain ⟨v, rfl, hk, hp, rfl, rfl⟩ := sm_store1_inv hs
    obtain ⟨x, rfl⟩ := sm_isA_inv hk
    exact lv_astore hexec hb hd hL.has (sm_put1_len hp).1 rfl (fun LS' hl => k0 rfl LS' (sm_LR.put1 (LS := LS) hp hl))
  | lstore_n k =>
    simp only [sm_lenOk, beq_iff_eq] at hlen
    subst hlen
    obtain ⟨v, rfl, hp, rfl, rfl⟩ := sm_store2_inv hs
    exact lv_lstore_n hexec hb hd rfl hL.has (sm_put2_len hp).1 rfl (fun LS' hl => k0 rfl LS' (sm_LR.put2 (LS := LS) hp hl))
  | lstore k =>
    simp only [sm_lenOk, beq_iff_eq] at hlen
    subst hlen
    obtain ⟨v, rfl, hp, rfl, rfl⟩ := sm_store2_inv hs
    exact lv_lstore hexec hb hd hL.has (sm_put2_len hp).1 rfl (fun LS' hl => k0 rfl LS' (sm_LR.put2 (LS := LS) hp hl))
  | ineg =>
    simp only [sm_lenOk, beq_iff_eq] at hlen
    subst hlen
    simp only [sm_step] at hs
    split at hs
    · next x r =>
      obtain ⟨rfl, rfl, rfl, rfl⟩ := sm_nx_inv hs
      exact lv_ineg hexec hb hd (k0 rfl LS hL)
    · cases hs
  | i2l =>
    simp only [sm_lenOk, beq_iff_eq] at hlen
    subst hlen
    simp only [sm_step] at hs
    split at hs
    · next x r =>
      obtain ⟨rfl, rfl, rfl, rfl⟩ := sm_nx_inv hs
      exact lv_i2l hexec hb hd rfl (k0 rfl LS hL)
    · cases hs
  | l2i =>
    simp only [sm_lenOk, beq_iff_eq] at hlen
    subst hlen
    simp only [sm_step] at hs
    split at hs
    · next x r =>
      obtain ⟨rfl, rfl, rfl, rfl⟩ := sm_nx_inv hs
      exact lv_l2i hexec hb hd rfl (k0 rfl LS hL)
    · cases hs
  | i2c =>
    simp only [sm_lenOk, beq_iff_eq] at hlen
    subst hlen
    simp only [sm_step] at hs
    split at hs
    · next x r =>
      obtain ⟨rfl, rfl, rfl, rfl⟩ := sm_nx_inv hs
      exact lv_i2c hexec hb hd rfl (k0 rfl LS hL)
    · cases hs
  | i2b =>
    simp only [sm_lenOk, beq_iff_eq] at hlen
    subst hlen
    simp only [sm_step] at hs
    split at hs
    · next x r =>
      obtain ⟨rfl, rfl, rfl, rfl⟩ := sm_nx_inv hs
      exact lv_i2b hexec hb hd rfl (k0 rfl LS hL)
    · cases hs
  | lushr =>
    simp only [sm_lenOk, beq_iff_eq] at hlen
    subst hlen
    simp only [sm_step] at hs
    split at hs
    · next y x r =>
      obtain ⟨rfl, rfl, rfl, rfl⟩ := sm_nx_inv hs
      exact lv_lushr hexec hb hd rfl (k0 rfl LS hL)
    · cases hs
  | lshl =>
    simp only [sm_lenOk, beq_iff_eq] at hlen
    subst hlen
    simp only [sm_step] at hs
    split at hs
    · next y x r =>
      obtain ⟨rfl, rfl, rfl, rfl⟩ := sm_nx_inv hs
      exact lv_lshl hexec hb hd rfl (k0 rfl LS hL)
    · cases hs
  | lshr =>
    simp only [sm_lenOk, beq_iff_eq] at hlen
    subst hlen
    simp only [sm_step] at hs
    split at hs
    · next y x r =>
      obtain ⟨rfl, rfl, rfl, rfl⟩ := sm_nx_inv hs
      exact lv_lshr hexec hb hd rfl (k0 rfl LS hL)
    · cases hs
  | lcmp =>
    simp only [sm_lenOk, beq_iff_eq] at hlen
    subst hlen
    simp only [sm_step] at hs
    split at hs
    · next y x r =>
      obtain ⟨rfl, rfl, rfl, rfl⟩ := sm_nx_inv hs
      exact W.lcmp hexec hb hd (k0 rfl LS hL)
    · cases hs
  | idiv =>
    simp only [sm_lenOk, beq_iff_eq] at hlen
    subst hlen
    simp only [sm_step] at hs
    split at hs
    · next y x r =>
      split at hs
      · cases hs
      · next hne =>
        obtain ⟨rfl, rfl, rfl, rfl⟩ := sm_nx_inv hs
        exact lv_idiv hexec hb hd hne (k0 rfl LS hL)
    · cases hs
  | irem =>
    simp only [sm_lenOk, beq_iff_eq] at hlen
    subst hlen
    simp only [sm_step] at hs
    split at hs
    · next y x r =>
      split at hs
      · cases hs
      · next hne =>
        obtain ⟨rfl, rfl, rfl, rfl⟩ := sm_nx_inv hs
        exact lv_irem hexec hb hd hne (k0 rfl LS hL)
    · cases hs
  | ldiv =>
    simp only [sm_lenOk, beq_iff_eq] at hlen
    subst hlen
    simp only [sm_step] at hs
    split at hs
    · next y x r =>
      split at hs
      · cases hs
      · next hne =>
        obtain ⟨rfl, rfl, rfl, rfl⟩ := sm_nx_inv hs
        exact lv_ldiv hexec hb hd hne (k0 rfl LS hL)
    · cases hs
  | lrem =>
    simp only [sm_lenOk, beq_iff_eq] at hlen
    subst hlen
    simp only [sm_step] at hs
    split at hs
    · next y x r =>
      split at hs
      · cases hs
      · next hne =>
        obtain ⟨rfl, rfl, rfl, rfl⟩ := sm_nx_inv hs
        exact lv_lrem hexec hb hd hne (k0 rfl LS hL)
    · cases hs
  | dup =>
    simp only [sm_lenOk, beq_iff_eq] at hlen
    subst hlen
    simp only [sm_step] at hs
    split at hs
    · next v r =>
      split at hs
      · next hc =>
        obtain ⟨rfl, rfl, rfl, rfl⟩ := sm_nx_inv hs
        exact lv_dup hexec hb hd ((sm_cat _ _).trans hc) (k0 rfl LS hL)
      · cases hs
    · cases hs
  | pop =>
    simp only [sm_lenOk, beq_iff_eq] at hlen
    subst hlen
    simp only [sm_step] at hs
    split at hs
    · next v r =>
      split at hs
      · next hc =>
        obtain ⟨rfl, rfl, rfl, rfl⟩ := sm_nx_inv hs
        exact lv_pop hexec hb hd ((sm_cat _ _).trans hc) (k0 rfl LS hL)
      · cases hs
    · cases hs
  | dup_x1 =>
    simp only [sm_lenOk, beq_iff_eq] at hlen
    subst hlen
    simp only [sm_step] at hs
    split at hs
    · next v u r =>
      split at hs
      · next hc =>
        obtain ⟨rfl, rfl, rfl, rfl⟩ := sm_nx_inv hs
        exact lv_dup_x1 hexec hb hd ((sm_cat _ _).trans hc.1) ((sm_cat _ _).trans hc.2) (k0 rfl LS hL)
      · cases hs
    · cases hs
  | dup2 =>
    simp only [sm_lenOk, beq_iff_eq] at hlen
    subst hlen
    simp only [sm_step] at hs
    split at hs
    · obtain ⟨rfl, rfl, rfl, rfl⟩ := sm_nx_inv hs
      exact lv_dup2_2 hexec hb hd rfl (k0 rfl LS hL)
    · split at hs
      · next hc =>
        obtain ⟨rfl, rfl, rfl, rfl⟩ := sm_nx_inv hs
        exact lv_dup2_11 hexec hb hd ((sm_cat _ _).trans hc.1) ((sm_cat _ _).trans hc.2) (k0 rfl LS hL)
      · cases hs
    · cases hs
  | pop2 =>
    simp only [sm_lenOk, beq_iff_eq] at hlen
    subst hlen
    simp only [sm_step] at hs
    split at hs
    · obtain ⟨rfl, rfl, rfl, rfl⟩ := sm_nx_inv hs
      exact lv_pop2_2 hexec hb hd rfl (k0 rfl LS hL)
    · split at hs
      · next hc =>
        obtain ⟨rfl, rfl, rfl, rfl⟩ := sm_nx_inv hs
        exact lv_pop2_11 hexec hb hd ((sm_cat _ _).trans hc.1) ((sm_cat _ _).trans hc.2) (k0 rfl LS hL)
      · cases hs
    · cases hs
  | iinc k n =>
    simp only [sm_lenOk, beq_iff_eq] at hlen
    subst hlen
    simp only [sm_step] at hs
    split at hs
    · next x hx =>
      cases hp : sm_put1 ls k (.int (x + Int32.ofInt n)) with
      | none => rw [hp] at hs; cases hs
      | some l2 =>
        rw [hp] at hs
        obtain ⟨rfl, rfl, rfl, rfl⟩ := sm_nx_inv hs
        have hm : (k, Value.int x) ∈ sm_al (sm_ad N0 cs) ls := by
          refine sm_al_mem.mpr ⟨.int x, ?_, rfl⟩
          unfold sm_lget at hx
          split at hx
          · next w hw => cases hx; exact hw
          · cases hx
        obtain ⟨j, hj⟩ := List.getElem?_of_mem hm
        exact lv_iinc hexec hb hd hL.has hj rfl (sm_put1_len hp).1 rfl (fun LS' hl => k0 rfl LS' (sm_LR.put1 (LS := LS) hp hl))
    · cases hs
  | if_icmp cd off =>
    simp only [sm_lenOk, beq_iff_eq] at hlen
    subst hlen
    simp only [sm_step] at hs
    split at hs
    · next y x r =>
      obtain ⟨e1, rfl, rfl, rfl⟩ := sm_nx_inv hs
      have hk := k0 rfl LS hL
      rw [e1] at hk
      have ho : (pc : Int) + off = ((sm_jmp pc off : Nat) : Int) := sm_jmp_ok hok
      cases cd with
      | eq => exact lv_icmp_eq hexec hb hd ho (fun z => by simpa [sm_cmp, z] using hk) (fun z => by simpa [sm_cmp, z] using hk)
      | ne => exact lv_icmp_ne hexec hb hd ho (fun z => by simpa [sm_cmp, z] using hk) (fun z => by simpa [sm_cmp, z] using hk)
      | lt => exact lv_icmp_lt hexec hb hd ho (fun z => by simpa [sm_cmp, z] using hk) (fun z => by simpa [sm_cmp, z] using hk)
      | ge => exact lv_icmp_ge hexec hb hd ho (fun z => by simpa [sm_cmp, z] using hk) (fun z => by simpa [sm_cmp, z] using hk)
      | gt => exact lv_icmp_gt hexec hb hd ho (fun z => by simpa [sm_cmp, z] using hk) (fun z => by simpa [sm_cmp, z] using hk)
      | le => exact lv_icmp_le hexec hb hd ho (fun z => by simpa [sm_cmp, z] using hk) (fun z => by simpa [sm_cmp, z] using hk)
    · cases hs
  | ifCond cd off =>
    simp only [sm_lenOk, beq_iff_eq] at hlen
    subst hlen
    simp only [sm_step] at hs
    split at hs
    · next x r =>
      obtain ⟨e1, rfl, rfl, rfl⟩ := sm_nx_inv hs
      have hk := k0 rfl LS hL
      rw [e1] at hk
      have ho : (pc : Int) + off = ((sm_jmp pc off : Nat) : Int) := sm_jmp_ok hok
      cases cd with
      | eq => exact lv_if_eq hexec hb hd ho (fun z => by simpa [sm_cmp, z] using hk) (fun z => by simpa [sm_cmp, z] using hk)
      | ne => exact lv_if_ne hexec hb hd ho (fun z => by simpa [sm_cmp, z] using hk) (fun z => by simpa [sm_cmp, z] using hk)
      | lt => exact lv_if_lt hexec hb hd ho (fun z => by simpa [sm_cmp, z] using hk) (fun z => by simpa [sm_cmp, z] using hk)
      | ge => exact lv_if_ge hexec hb hd ho (fun z => by simpa [sm_cmp, z] using hk) (fun z => by simpa [sm_cmp, z] using hk)
      | gt => exact lv_if_gt hexec hb hd ho (fun z => by simpa [sm_cmp, z] using hk) (fun z => by simpa [sm_cmp, z] using hk)
      | le => exact lv_if_le hexec hb hd ho (fun z => by simpa [sm_cmp, z] using hk) (fun z => by simpa [sm_cmp, z] using hk)
    · cases hs
  | dup_x2 =>
    simp only [sm_lenOk, beq_iff_eq] at hlen
    subst hlen
    simp only [sm_step] at hs
    split at hs
    · next v u z r =>
      split at hs
      · next hc =>
        obtain ⟨rfl, rfl, rfl, rfl⟩ := sm_nx_inv hs
        exact lv_dup_x2 hexec hb hd ((sm_cat _ _).trans hc.1) ((sm_cat _ _).trans hc.2.1) ((sm_cat _ _).trans hc.2.2) (k0 rfl LS hL)
      · cases hs
    · cases hs
  | goto off =>
    simp only [sm_lenOk, beq_iff_eq] at hlen
    subst hlen
    obtain ⟨rfl, rfl, rfl, rfl⟩ := sm_nx_inv hs
    exact lv_goto hexec hb hd (sm_jmp_ok hok) (k0 rfl LS hL)
  | tableswitch dd lo hi offs =>
    simp only [sm_step] at hs
    split at hs
    · next x r =>
      split at hs
      · next hc =>
        obtain ⟨rfl, rfl, rfl, rfl⟩ := sm_nx_inv hs
        exact lv_tableOut hexec hb hd hc (sm_jmp_ok hok.1) (k0 rfl LS hL)
      · next hc =>
        split at hs
        · next off ho =>
          obtain ⟨rfl, rfl, rfl, rfl⟩ := sm_nx_inv hs
          have hm : off ∈ offs.toList := Array.mem_toList_iff.mpr (Array.mem_of_getElem? ho)
          exact lv_tableIn hexec hb hd (fun z => hc (Or.inl z)) (fun z => hc (Or.inr z)) ho (sm_jmp_ok (hok.2 off hm)) (k0 rfl LS hL)
        · cases hs
    · cases hs
  | arraylength =>
    simp only [sm_lenOk, beq_iff_eq] at hlen
    subst hlen
    simp only [sm_step] at hs
    split at hs
    · next a r =>
      split at hs
      · next t n f ha =>
        split at hs
        · next hc =>
          obtain ⟨rfl, rfl, rfl, rfl⟩ := sm_nx_inv hs
          obtain ⟨ty, hty⟩ := Option.isSome_iff_exists.mp hc
          by_cases hC : a < sm_C
          · obtain ⟨cell, q1, q2, q3⟩ := sm_len hP hX.2.2.2.2.2 hF hty hC ha
            exact W.alen hexec hb q1 q2 q3 rfl rfl hd (k0 rfl LS hL)
          have h1 := sm_cell hP (Nat.not_lt.mp hC) ha
          exact va_alen (D := D) (cl := cl) (ws := [(sm_ad N0 cs a, .inl ((tys.getD t (0, .int)).1, n, f))]) hexec hb hK (sm_P1 h1) 0 t rfl (sm_tys hT hty) rfl hd (k0 rfl LS hL)
        · cases hs
      · cases hs
    · cases hs
  | iaload =>
    simp only [sm_lenOk, beq_iff_eq] at hlen
    subst hlen
    obtain ⟨i, a, n, f, r, rfl, ha, ⟨hi, hC⟩, rfl, rfl, rfl, rfl⟩ := sm_ald_inv hs
    obtain ⟨cell, q1, q2, q3, q4, q5⟩ := sm_arr hP hX.2.2.2.2.2 hF hK hT (ty := .int) rfl ha
    have hin := sm_in hi
    exact W.iald hexec hb q1 q2 q3 (fun z => hin (z.imp id (fun w => Nat.le_trans q4 w))) (q5 _ (Nat.not_le.mp fun z => hin (Or.inr z))) rfl rfl hd (k0 rfl LS hL)
  | caload =>
    simp only [sm_lenOk, beq_iff_eq] at hlen
    subst hlen
    obtain ⟨i, a, n, f, r, rfl, ha, ⟨hi, hC⟩, rfl, rfl, rfl, rfl⟩ := sm_ald_inv hs
    have h1 := sm_cell hP (hC.resolve_right (by decide)) ha
    exact va_cald (D := D) (cl := cl) (ws := [(sm_ad N0 cs a, .inl ((tys.getD 2 (0, .int)).1, n, .inl f))]) hexec hb hK (sm_P1 h1) 0 2 rfl (sm_tys hT rfl) (sm_in hi) hd (k0 rfl LS hL)
  | baload =>
    simp only [sm_lenOk, beq_iff_eq] at hlen
    subst hlen
    simp only [sm_step] at hs
    split at hs
    · next r0 hr0 =>
      cases hs
      obtain ⟨i, a, n, f, r, rfl, ha, ⟨hi, hC⟩, rfl, rfl, rfl, rfl⟩ := sm_ald_inv hr0
      have h1 := sm_cell hP (hC.resolve_right (by decide)) ha
      exact va_zald (D := D) (cl := cl) (ws := [(sm_ad N0 cs a, .inl ((tys.getD 3 (0, .int)).1, n, .inl f))]) hexec hb hK (sm_P1 h1) 0 3 rfl (sm_tys hT rfl) (sm_in hi) hd (k0 rfl LS hL)
    · obtain ⟨i, a, n, f, r, rfl, ha, ⟨hi, hC⟩, rfl, rfl, rfl, rfl⟩ := sm_ald_inv hs
      obtain ⟨cell, q1, q2, q3, q4, q5⟩ := sm_arr hP hX.2.2.2.2.2 hF hK hT (ty := .byte) rfl ha
      have hin := sm_in hi
      exact W.bald hexec hb q1 q2 q3 (fun z => hin (z.imp id (fun w => Nat.le_trans q4 w))) (q5 _ (Nat.not_le.mp fun z => hin (Or.inr z))) rfl rfl hd (k0 rfl LS hL)
  | laload =>
    simp only [sm_lenOk, beq_iff_eq] at hlen
    subst hlen
    simp only [sm_step, sm_aldL] at hs
    split at hs
    · next i a r =>
      split at hs
      · next t' n f ha =>
        split at hs
        · next hc =>
          obtain ⟨rfl, hi, hC⟩ := hc
          obtain ⟨rfl, rfl, rfl, rfl⟩ := sm_nx_inv hs
          have h1 := sm_cell hP hC ha
          exact va_lald (D := D) (cl := cl) (ws := [(sm_ad N0 cs a, .inl ((tys.getD 1 (0, .int)).1, n, .inr (.inl f)))]) hexec hb hK (sm_P1 h1) 0 1 rfl (sm_tys hT rfl) (sm_in hi) hd (k0 rfl LS hL)
        · cases hs
      · cases hs
    · cases hs
  | iastore =>
    simp only [sm_lenOk, beq_iff_eq] at hlen
    subst hlen
    obtain ⟨x, i, a, n, f, rfl, ha, hi, hC, rfl, rfl, rfl⟩ := sm_ast_inv hs
    have h1 := sm_cell hP hC ha
    have hin := sm_in hi
    refine W.iast hexec hb h1 ((hK.2 0 _ (sm_tys hT rfl)).1 n (fun j => .int (f j))) (fun z => by cases z) (by show ¬ (i < 0 ∨ (arrV _ _ _).slots.size ≤ _); rw [arrV_size]; exact hin) rfl rfl hd fun H1 e1 z o => ?_
    have hP1 := hP.put (H1 := H1) (e1 := .inl (0, n, .inl (upd f i.toNatClampNeg x))) ha hC (by show H1[sm_ad N0 cs a]? = some (vp_cell _ _); rw [e1]; exact congrArg some (sm_upd_i _ _ _ _ _)) z o
    have e2 : (h.set a (.inl (0, n, .inl (upd f i.toNatClampNeg x)))).length - h.length = 0 := by rw [List.length_set]; omega
    have e3 := sm_sl_set (e := .inl (0, n, .inl f)) (e' := .inl (0, n, .inl (upd f i.toNatClampNeg x))) rfl h a ha
    have := kk H1 (locs ++ [⟨sm_ad N0 cs a, i.toNatClampNeg⟩]) LS hP1 hL (fun q hq => o q (Nat.ne_of_lt (Nat.lt_of_lt_of_le hq (sm_adN hC)))) (fun x hx => (List.mem_append.mp hx).elim (hlocs x) (fun hx => by rw [List.mem_singleton.mp hx]; exact sm_adN hC))
    rw [e2, e3, Nat.sub_self] at this
    exact this
  | castore =>
    simp only [sm_lenOk, beq_iff_eq] at hlen
    subst hlen
    obtain ⟨x, i, a, n, f, rfl, ha, hi, hC, rfl, rfl, rfl⟩ := sm_ast_inv hs
    have h1 := sm_cell hP hC ha
    have hin := sm_in hi
    refine W.cast hexec hb h1 ((hK.2 2 _ (sm_tys hT rfl)).1 n (fun j => .int (f j))) (fun z => by cases z) (by show ¬ (i < 0 ∨ (arrV _ _ _).slots.size ≤ _); rw [arrV_size]; exact hin) rfl rfl hd fun H1 e1 z o => ?_
    have hP1 := hP.put (H1 := H1) (e1 := .inl (2, n, .inl (upd f i.toNatClampNeg (sm_chr x)))) ha hC (by show H1[sm_ad N0 cs a]? = some (vp_cell _ _); rw [e1]; rw [sm_nchr]; exact congrArg some (sm_upd_i _ _ _ _ _)) z o
    have e2 : (h.set a (.inl (2, n, .inl (upd f i.toNatClampNeg (sm_chr x))))).length - h.length = 0 := by rw [List.length_set]; omega
    have e3 := sm_sl_set (e := .inl (2, n, .inl f)) (e' := .inl (2, n, .inl (upd f i.toNatClampNeg (sm_chr x)))) rfl h a ha
    have := kk H1 (locs ++ [⟨sm_ad N0 cs a, i.toNatClampNeg⟩]) LS hP1 hL (fun q hq => o q (Nat.ne_of_lt (Nat.lt_of_lt_of_le hq (sm_adN hC)))) (fun x hx => (List.mem_append.mp hx).elim (hlocs x) (fun hx => by rw [List.mem_singleton.mp hx]; exact sm_adN hC))
    rw [e2, e3, Nat.sub_self] at this
    exact this
  | bastore =>
    simp only [sm_lenOk, beq_iff_eq] at hlen
    subst hlen
    obtain ⟨x, i, a, n, f, rfl, ha, hi, hC, rfl, rfl, rfl⟩ := sm_ast_inv hs
    have h1 := sm_cell hP hC ha
    have hin := sm_in hi
    refine W.zast hexec hb h1 ((hK.2 3 _ (sm_tys hT rfl)).1 n (fun j => .int (f j))) (fun z => by cases z) (by show ¬ (i < 0 ∨ (arrV _ _ _).slots.size ≤ _); rw [arrV_size]; exact hin) rfl rfl hd fun H1 e1 z o => ?_
    have hP1 := hP.put (H1 := H1) (e1 := .inl (3, n, .inl (upd f i.toNatClampNeg (x &&& 1)))) ha hC (by show H1[sm_ad N0 cs a]? = some (vp_cell _ _); rw [e1]; exact congrArg some (sm_upd_i _ _ _ _ _)) z o
    have e2 : (h.set a (.inl (3, n, .inl (upd f i.toNatClampNeg (x &&& 1))))).length - h.length = 0 := by rw [List.length_set]; omega
    have e3 := sm_sl_set (e := .inl (3, n, .inl f)) (e' := .inl (3, n, .inl (upd f i.toNatClampNeg (x &&& 1)))) rfl h a ha
    have := kk H1 (locs ++ [⟨sm_ad N0 cs a, i.toNatClampNeg⟩]) LS hP1 hL (fun q hq => o q (Nat.ne_of_lt (Nat.lt_of_lt_of_le hq (sm_adN hC)))) (fun x hx => (List.mem_append.mp hx).elim (hlocs x) (fun hx => by rw [List.mem_singleton.mp hx]; exact sm_adN hC))
    rw [e2, e3, Nat.sub_self] at this
    exact this
  | lastore =>
    simp only [sm_lenOk, beq_iff_eq] at hlen
    subst hlen
    simp only [sm_step, sm_astL] at hs
    split at hs
    · next x i a r =>
      split at hs
      · next t' n f ha =>
        split at hs
        · next hc =>
          obtain ⟨rfl, hi, hC⟩ := hc
          obtain ⟨rfl, rfl, rfl, rfl⟩ := sm_nx_inv hs
          have h1 := sm_cell hP hC ha
          have hin := sm_in hi
          refine W.last hexec hb h1 ((hK.2 1 _ (sm_tys hT rfl)).1 n (fun j => .long (f j))) (fun z => by cases z) (by show ¬ (i < 0 ∨ (arrV _ _ _).slots.size ≤ _); rw [arrV_size]; exact hin) rfl rfl hd fun H1 e1 z o => ?_
          have hP1 := hP.put (H1 := H1) (e1 := .inl (1, n, .inr (.inl (vp_updL f i.toNatClampNeg x)))) ha hC (by show H1[sm_ad N0 cs a]? = some (vp_cell _ _); rw [e1]; exact congrArg some (sm_upd_l _ _ _ _ _)) z o
          have e2 : (h.set a (.inl (1, n, .inr (.inl (vp_updL f i.toNatClampNeg x))))).length - h.length = 0 := by rw [List.length_set]; omega
          have e3 := sm_sl_set (e := .inl (1, n, .inr (.inl f))) (e' := .inl (1, n, .inr (.inl (vp_updL f i.toNatClampNeg x)))) rfl h a ha
          have := kk H1 (locs ++ [⟨sm_ad N0 cs a, i.toNatClampNeg⟩]) LS hP1 hL (fun q hq => o q (Nat.ne_of_lt (Nat.lt_of_lt_of_le hq (sm_adN hC)))) (fun x hx => (List.mem_append.mp hx).elim (hlocs x) (fun hx => by rw [List.mem_singleton.mp hx]; exact sm_adN hC))
          rw [e2, e3, Nat.sub_self] at this
          exact this
        · cases hs
      · cases hs
    · cases hs
  | getstatic idx =>
    simp only [sm_lenOk, beq_iff_eq] at hlen
    subst hlen
    simp only [sm_step] at hs
    split at hs
    · next n =>
      obtain ⟨rfl, rfl, rfl, rfl⟩ := sm_nx_inv hs
      obtain ⟨C, nm, dd, ref, g1, g2, g3⟩ := hok
      exact va_gets hexec hb (hX.2.1 _ g1) hSS hown (hts _ g2) (sm_same hts g3) hd (k0 rfl LS hL)
    · cases hs
  | getfield idx =>
    simp only [sm_lenOk, beq_iff_eq] at hlen
    subst hlen
    simp only [sm_step, sm_getf] at hs
    split at hs
    · next a r k z cs' =>
      split at hs
      · next ci fs ha =>
        split at hs
        · next hc =>
          obtain ⟨hc, hz⟩ := hc
          split at hs
          · next v hv =>
            obtain ⟨rfl, rfl, rfl, rfl⟩ := sm_nx_inv hs
            match z, hok, hz with
            | 0, hok, hz =>
              obtain ⟨C, T, N, ref, g1, g2, g3, g4, g5⟩ := hok ci hc
              have h1 := sm_obj hP (hz.elim (fun w => w.2) (fun w => absurd rfl w.1)) ha
              exact va_get (D := D) (cl := cl) (ws := [(sm_ad N0 cs a, .inr (ci, fs.map (sm_mv (sm_ad N0 cs))))]) hexec hb hts g3 hown hK (sm_P1 h1) 0 rfl g1 k g2 (hts _ g4) (sm_same hts g5) (v := sm_mv (sm_ad N0 cs) v) (by rw [List.getElem?_map, hv]; rfl) hd (k0 rfl LS hL)
            | 1, hok, hz =>
              have hz : a < sm_C := hz.elim (fun w => absurd w.1 (by decide)) (fun w => w.2)
              obtain ⟨o, nm, dd, ref, g1, g2, g3⟩ := hok ci hc a fs v hz ((hP.2.2.1 a hz).2.symm.trans ha) hv
              exact vk_getf hexec hb (hX.2.2.1 _ g1) hSS hown (hts _ g2) (sm_same hts g3) hd (k0 rfl LS hL)
            | z + 2, hok, hz => exact hok.elim
          · cases hs
        · cases hs
      · cases hs
    · cases hs
  | putfield idx =>
    simp only [sm_lenOk, beq_iff_eq] at hlen
    subst hlen
    simp only [sm_step, sm_putf] at hs
    split at hs
    · next v a r k t fin cs' =>
      split at hs
      · next ci fs ha =>
        split at hs
        · next hc =>
          obtain ⟨hc1, hc2, hc3, hC⟩ := hc
          obtain ⟨rfl, rfl, rfl, rfl⟩ := sm_nx_inv hs
          obtain ⟨C, T, N, ref, ty0, g1, g2, g3, g4, g5, g6, g7, g8, g9⟩ := hok ci hc1
          have h1 := sm_obj hP hC ha
          obtain ⟨f1, f2⟩ := sm_fit_ok (ad := sm_ad N0 cs) hc3 g9
          refine sm_Wput hexec hb hts g3 ty0 g6 g7 hown hK h1 g1 k g2 (hts _ g4) (sm_same hts g5) g8 f1 f2 (by rw [List.length_map]; exact hc2) hd fun H1 j e1 z o => ?_
          have hP1 := hP.put (H1 := H1) (e1 := .inr (ci, fs.set k v)) ha hC (by show va_at D cl (sm_ad N0 cs a, .inr (ci, (fs.set k v).map (sm_mv (sm_ad N0 cs)))) H1; rw [List.map_set]; exact e1) z o
          have e2 : (h.set a (.inr (ci, fs.set k v))).length - h.length = 0 := by rw [List.length_set]; omega
          have e3 := sm_sl_set (e := .inr (ci, fs)) (e' := .inr (ci, fs.set k v)) (by simp [sm_sz]) h a ha
          have := kk H1 (locs ++ [⟨sm_ad N0 cs a, j⟩]) LS hP1 hL (fun q hq => o q (Nat.ne_of_lt (Nat.lt_of_lt_of_le hq (sm_adN hC)))) (fun x hx => (List.mem_append.mp hx).elim (hlocs x) (fun hx => by rw [List.mem_singleton.mp hx]; exact sm_adN hC))
          rw [e2, e3, Nat.sub_self] at this
          exact this
        · cases hs
      · cases hs
    · cases hs
  | new idx =>
    simp only [sm_lenOk, beq_iff_eq] at hlen
    subst hlen
    simp only [sm_step, sm_newo] at hs
    split at hs
    · next ci ts =>
      split at hs
      · cases hs
      · next hc1000 =>
        obtain ⟨rfl, rfl, rfl, rfl⟩ := sm_nx_inv hs
        have hok2 : ∃ (C : String) (T : u_T) (N : Nat) (ty0 : Nat → FieldType), cl[ci]? = some (C, T, N) ∧ (∀ w ∈ u_ws C T N, w ∈ Ts) ∧ (∀ k, k < N → parseFieldDescriptor (T k).2.2.1 = some (ty0 k)) ∧ Cond.classLink own idx C ∈ Ts ∧ Cond.instantiable C N ∈ Ts ∧ Cond.initialized C ∈ Ts ∧ ts.length = N ∧ ∀ j, j < N → defaultValue (ty0 j) = sm_dflt (ts.getD j 0) := by
          unfold sm_okI at hok
          split at hok <;> first | (rename_i hz; cases hz; done) | (simp_all; done) | simp_all
        obtain ⟨C, T, N, ty0, g1, g2, g3, g4, g5, g6, g7, g8⟩ := hok2
        have hKn := hK.1 ci _ g1
        have e2 : (h ++ [(.inr (ci, ts.map sm_dflt) : sm_E)]).length - h.length = 1 := by simp
        have e3 : sm_sl (h ++ [(.inr (ci, ts.map sm_dflt) : sm_E)]) - sm_sl h = N := by rw [sm_sl_app]; simp [sm_sz, g7]
        rw [e2, e3] at hroom
        refine W.newcK hexec hb hown (hts _ g4) (hts _ g5) (hts _ g6) rfl hd hroom.1 hroom.2 hKn.2.1 rfl fun H1 kC hkC e1 z o => ?_
        have hfs : ∀ j, j < N → defaultValue (ty0 j) = vp_V ((ts.map sm_dflt).map (sm_mv (sm_ad N0 cs))) j := fun j hj => by
          rw [g8 j hj]
          have hj2 : j < ts.length := by omega
          unfold vp_V
          rw [List.getD_eq_getElem?_getD, List.getD_eq_getElem?_getD, List.getElem?_map, List.getElem?_map, List.getElem?_eq_getElem hj2]
          show sm_dflt ts[j] = sm_mv _ (sm_dflt ts[j])
          unfold sm_dflt
          split <;> rfl
        have hP1 := hP.make (H1 := H1) (e1 := .inr (ci, ts.map sm_dflt)) ⟨_, g1, (u_born ty0 hts g2 hKn hkC e1 g3).to hfs⟩ z o
        have := kk H1 locs LS hP1 hL (fun q hq => o q (Nat.lt_of_lt_of_le hq (by have h1 := hP.1; have h2 := hP.2.1; omega))) hlocs
        rw [e2, e3] at this
        have e4 := sm_top hP
        rw [e4]
        exact this
    · cases hs
  | newarray at' =>
    simp only [sm_lenOk, beq_iff_eq] at hlen
    subst hlen
    simp only [sm_step, sm_newa] at hs
    split at hs
    · next n r t =>
      split at hs
      · next hc =>
        obtain ⟨hc1, hc2⟩ := hc
        obtain ⟨rfl, rfl, rfl, rfl⟩ := sm_nx_inv hs
        obtain ⟨g1, g2⟩ := hok
        have e2 : ∀ E : sm_E, (h ++ [E]).length - h.length = 1 := by simp
        have e3 : ∀ x, sm_sl (h ++ [(.inl (t, n.toNatClampNeg, x) : sm_E)]) - sm_sl h = n.toNatClampNeg := fun x => by rw [sm_sl_app]; simp [sm_sz]
        rw [e2, e3] at hroom
        have hby : n.toNatClampNeg * componentBytes (newarray.typeOf at') ≤ 536870912 := by
          have : componentBytes (newarray.typeOf at') ≤ 8 := by cases at' <;> decide
          calc _ ≤ 65536 * 8 := Nat.mul_le_mul hc2 this
            _ ≤ _ := by decide
        refine va_newaK hexec hb (hts _ g2) rfl hd rfl hc1 rfl hby hroom.1 hroom.2 rfl fun H1 cA e1 z o hAr hNm => ?_
        have hcA : (tys.getD t (0, .int)).1 = cA := by
          have h1 := sm_tys hT g1
          have h2 := (hK.2 t _ h1).2
          have h3 : s.vm.findClass ("[" ++ (newarray.typeOf at').toString) = some (tys.getD t (0, .int)).1 := by cases at' <;> exact h2
          exact Option.some.inj (h3.symm.trans hNm)
        have hat : va_at D cl (H.size, sm_me (sm_ad N0 cs) tys (.inl (t, n.toNatClampNeg, if t = 1 then .inr (.inl (fun _ => 0)) else .inl (fun _ => 0)))) H1 := by
          show H1[H.size]? = some (vp_cell (tys.getD t (0, .int)).1 _)
          rw [hcA, e1]
          congr 1
          unfold sm_ty at g1
          split at g1
          · cases at' <;> cases g1; rfl
          · cases at' <;> cases g1; rfl
          · cases at' <;> cases g1; rfl
          · cases at' <;> cases g1; rfl
          · cases at' <;> cases g1; rfl
          · cases g1
        have hP1 := hP.make (H1 := H1) hat z o
        have := kk H1 locs LS hP1 hL (fun q hq => o q (Nat.lt_of_lt_of_le hq (by have h1 := hP.1; have h2 := hP.2.1; omega))) hlocs
        rw [e2, e3] at this
        have e4 := sm_top hP
        rw [e4]
        exact this
      · cases hs
    · cases hs
  | ldc idx =>
    simp only [sm_lenOk, beq_iff_eq] at hlen
    subst hlen
    simp only [sm_step] at hs
    split at hs
    · next n =>
      obtain ⟨rfl, rfl, rfl, rfl⟩ := sm_nx_inv hs
      exact lv_ldc hexec hb hown (hts _ hok) hd (k0 rfl LS hL)
    · next n =>
      obtain ⟨rfl, rfl, rfl, rfl⟩ := sm_nx_inv hs
      obtain ⟨tx, hm⟩ := hok
      exact va_ldcS hexec hb hown (hX.1 _ hm) hd (k0 rfl LS hL)
    · cases hs
  | ldc_w idx =>
    simp only [sm_lenOk, beq_iff_eq] at hlen
    subst hlen
    simp only [sm_step] at hs
    split at hs
    · next n =>
      obtain ⟨rfl, rfl, rfl, rfl⟩ := sm_nx_inv hs
      exact lv_ldcw hexec hb hown (hts _ hok) hd (k0 rfl LS hL)
    · cases hs
  | ldc2_w idx =>
    simp only [sm_lenOk, beq_iff_eq] at hlen
    subst hlen
    simp only [sm_step] at hs
    split at hs
    · next n =>
      obtain ⟨rfl, rfl, rfl, rfl⟩ := sm_nx_inv hs
      exact lv_ldc2 hexec hb hown (hts _ hok) hd (k0 rfl LS hL)
    · cases hs
  | ireturn =>
    simp only [sm_step] at hs
    split at hs
    · simp [sm_ret] at hs
    · cases hs
  | lreturn =>
    simp only [sm_step] at hs
    split at hs
    · simp [sm_ret] at hs
    · cases hs
  | areturn =>
    simp only [sm_step] at hs
    split at hs
    · simp [sm_ret] at hs
    · cases hs
  | return_ =>
    simp only [sm_step] at hs
    split at hs
    · simp [sm_ret] at hs
    · cases hs
  | invokestatic idx =>
    simp only [sm_lenOk, beq_iff_eq] at hlen
    subst hlen
    simp only [sm_step] at hs
    split at hs
    · next k0' k1 =>
      split at hs
      · next y x r =>
        split at hs
        · next hc =>
          obtain ⟨rfl, rfl, rfl, rfl⟩ := sm_nx_inv hs
          have hc2 : ((r.map (sm_mv (sm_ad N0 cs))).map fun v => v.category).sum ≤ 8 := by
            rw [List.map_map, show ((fun v : Value => v.category) ∘ sm_mv (sm_ad N0 cs)) = fun v : Value => v.category from funext fun v => sm_cat _ v]
            exact hc
          have hkk := k0 rfl LS hL
          rcases hok with ⟨rfl, g1, g2, g3, g4⟩ | ⟨rfl, g1, g2, g3, g4⟩
          · exact va_mmax hexec hb (by rw [hml]; exact hL.1.symm) hown (hts _ g1) (hts _ g2) (hts _ g3) (hts _ g4) (by omega) (by omega) (by omega) (by omega) hd (by simpa [sm_mv] using hkk)
          · exact va_mmin hexec hb (by rw [hml]; exact hL.1.symm) hown (hts _ g1) (hts _ g2) (hts _ g3) (hts _ g4) (by omega) (by omega) (by omega) (by omega) hd (by simpa [sm_mv] using hkk)
        · cases hs
      · cases hs
    · next k0' k1 k2 k3 =>
      split at hs
      · next n x r =>
        split at hs
        · next hc =>
          obtain ⟨rfl, rfl, rfl, rfl⟩ := sm_nx_inv hs
          obtain ⟨hc0, hc1, hc⟩ := hc
          have hc2 : ((st'.map (sm_mv (sm_ad N0 cs))).map fun v => v.category).sum ≤ 8 := by
            rw [List.map_map, show ((fun v : Value => v.category) ∘ sm_mv (sm_ad N0 cs)) = fun v : Value => v.category from funext fun v => sm_cat _ v]
            exact hc
          obtain ⟨g1, g2, g3, g4⟩ := hok
          exact sm_chk hexec hb (by rw [hml]; exact hL.1.symm) hown hts g1 g2 g3 g4 hX.2.2.2.2.1 hF hR1 (by omega) (by omega) hc0 hc1 hc2 hd (k0 rfl LS hL)
        · cases hs
      · cases hs
    · simp only [sm_callS] at hs
      split at hs
      · split at hs
        · simp [sm_call] at hs
        · cases hs
      · cases hs
  | invokespecial idx =>
    simp only [sm_lenOk, beq_iff_eq] at hlen
    subst hlen
    simp only [sm_step] at hs
    split at hs
    · next k1 =>
      split at hs
      · next a r =>
        split at hs
        · next hc =>
          obtain ⟨rfl, rfl, rfl, rfl⟩ := sm_nx_inv hs
          obtain ⟨g1, g2, g3⟩ := hok
          have hc2 : ((st'.map (sm_mv (sm_ad N0 cs))).map fun v => v.category).sum ≤ 8 := by
            rw [List.map_map, show ((fun v : Value => v.category) ∘ sm_mv (sm_ad N0 cs)) = fun v : Value => v.category from funext fun v => sm_cat _ v]
            exact hc
          exact W.objInit hexec hb hown (hts _ g1) (hts _ g2) (hts _ g3) rfl (by rw [hml]; exact hL.1) rfl hd (by omega) (by show 2 * 0 + _ + 12 ≤ _; omega) (k0 rfl LS hL)
        · cases hs
      · cases hs
    · simp only [sm_callI] at hs
      split at hs
      · split at hs
        · simp [sm_call] at hs
        · cases hs
      · cases hs
  | invokevirtual idx =>
    simp only [sm_step, sm_callV] at hs
    split at hs
    · split at hs
      · split at hs
        · split at hs
          · simp [sm_call] at hs
          · cases hs
        · cases hs
      · cases hs
    · cases hs
  | _ => simp [sm_step] at hs
end SMN
end
section
/-! A RUN of the small machine is a run of the JVM -/
theorem sm_step_mono {q : sm_I} {pc pc' : Nat} {ls ls' : sm_L} {st st' : List Value} {h h' : sm_H} (hs : sm_step q pc ls st h = some (.inl (pc', ls', st', h'))) : h.length ≤ h'.length ∧ sm_sl h ≤ sm_sl h' := by
  have k0 : h' = h → h.length ≤ h'.length ∧ sm_sl h ≤ sm_sl h' := fun z => by subst z; exact ⟨Nat.le_refl _, Nat.le_refl _⟩
  obtain ⟨i, len, rs⟩ := q
  cases i with
  | iastore =>
    obtain ⟨x, i, a, n, f, rfl, ha, hi, hC, rfl, rfl, rfl⟩ := sm_ast_inv hs
    exact ⟨by rw [List.length_set]; exact Nat.le_refl _, Nat.le_of_eq (sm_sl_set (by simp [sm_sz]) h a ha).symm⟩
  | castore =>
    obtain ⟨x, i, a, n, f, rfl, ha, hi, hC, rfl, rfl, rfl⟩ := sm_ast_inv hs
    exact ⟨by rw [List.length_set]; exact Nat.le_refl _, Nat.le_of_eq (sm_sl_set (by simp [sm_sz]) h a ha).symm⟩
  | bastore =>
    obtain ⟨x, i, a, n, f, rfl, ha, hi, hC, rfl, rfl, rfl⟩ := sm_ast_inv hs
    exact ⟨by rw [List.length_set]; exact Nat.le_refl _, Nat.le_of_eq (sm_sl_set (by simp [sm_sz]) h a ha).symm⟩
  | lastore =>
    simp only [sm_step, sm_astL] at hs
    split at hs
    · split at hs
      · next ha =>
        split at hs
        · obtain ⟨rfl, rfl, rfl, rfl⟩ := sm_nx_inv hs
          exact ⟨by rw [List.length_set]; exact Nat.le_refl _, Nat.le_of_eq (sm_sl_set (by simp [sm_sz]) h _ ha).symm⟩
        · cases hs
      · cases hs
    · cases hs
  | putfield idx =>
    simp only [sm_step, sm_putf] at hs
    split at hs
    · split at hs
      · next ha =>
        split at hs
        · obtain ⟨rfl, rfl, rfl, rfl⟩ := sm_nx_inv hs
          exact ⟨by rw [List.length_set]; exact Nat.le_refl _, Nat.le_of_eq (sm_sl_set (by simp [sm_sz]) h _ ha).symm⟩
        · cases hs
      · cases hs
    · cases hs
  | new idx =>
    simp only [sm_step, sm_newo] at hs
    split at hs
    · split at hs
      · cases hs
      · obtain ⟨rfl, rfl, rfl, rfl⟩ := sm_nx_inv hs
        exact ⟨by simp, by rw [sm_sl_app]; exact Nat.le_add_right _ _⟩
    · cases hs
  | baload =>
    simp only [sm_step] at hs
    split at hs
    · next r0 hr0 =>
      cases hs
      obtain ⟨i, a, n, f, r, rfl, ha, hi, rfl, rfl, rfl, rfl⟩ := sm_ald_inv hr0
      exact ⟨Nat.le_refl _, Nat.le_refl _⟩
    · obtain ⟨i, a, n, f, r, rfl, ha, hi, rfl, rfl, rfl, rfl⟩ := sm_ald_inv hs
      exact ⟨Nat.le_refl _, Nat.le_refl _⟩
  | newarray idx =>
    simp only [sm_step, sm_newa] at hs
    split at hs
    · split at hs
      · obtain ⟨rfl, rfl, rfl, rfl⟩ := sm_nx_inv hs
        exact ⟨by simp, by rw [sm_sl_app]; exact Nat.le_add_right _ _⟩
      · cases hs
    · cases hs
  | _ =>
    refine k0 ?_
    simp only [sm_step, sm_bin, sm_binL, sm_loadK, sm_store1, sm_store2, sm_ald, sm_aldL, sm_getf, sm_callS, sm_callI, sm_callV, sm_if, sm_nx, sm_ret, sm_call, Option.bind] at hs
    repeat' split at hs
    all_goals first
      | (cases hs; done)
      | (simp at hs; exact hs.2.2.2.symm)
      | (simp at hs; done)
      | (cases hs; rfl)
theorem sm_run_mono {P : Nat → Option sm_M} : ∀ (n d m pc : Nat) (ls : sm_L) (st : List Value) (h : sm_H) (v : Option Value) (h' : sm_H), sm_run P n d m pc ls st h = some (v, h') → h.length ≤ h'.length ∧ sm_sl h ≤ sm_sl h' := by
  intro n
  induction n with
  | zero => intro d m pc ls st h v h' hr; simp [sm_run] at hr
  | succ n ih =>
    intro d m pc ls st h v h' hr
    unfold sm_run at hr
    split at hr
    · cases hr
    · next k tab hP =>
      split at hr
      · next q hq =>
        split at hr
        · next pc1 ls1 st1 h1 hs =>
          have h1 := sm_step_mono hs
          have h2 := ih _ _ _ _ _ _ _ _ hr
          exact ⟨Nat.le_trans h1.1 h2.1, Nat.le_trans h1.2 h2.2⟩
        · split at hr
          · cases hr; exact ⟨Nat.le_refl _, Nat.le_refl _⟩
          · cases hr
        · split at hr
          · split at hr
            · split at hr
              · next v1 h1 hc =>
                have g1 := ih _ _ _ _ _ _ _ _ hc
                have g2 := ih _ _ _ _ _ _ _ _ hr
                exact ⟨Nat.le_trans g1.1 g2.1, Nat.le_trans g1.2 g2.2⟩
              · cases hr
            · cases hr
          · cases hr
        · cases hr
      · cases hr
theorem sm_step_len {q : sm_I} {pc pc' : Nat} {ls ls' : sm_L} {st st' : List Value} {h h' : sm_H} (hs : sm_step q pc ls st h = some (.inl (pc', ls', st', h'))) : ls'.length = ls.length := by
  have k1 : ∀ {i : Nat} {v : Value} {l2 : sm_L}, sm_put1 ls i v = some l2 → l2.length = ls.length := fun hp => by
    obtain ⟨-, rfl⟩ := sm_put1_len hp
    rw [List.length_set, sm_kill_len]
  have k2 : ∀ {i : Nat} {v : Value} {l2 : sm_L}, sm_put2 ls i v = some l2 → l2.length = ls.length := fun hp => by
    obtain ⟨-, rfl⟩ := sm_put2_len hp
    rw [List.length_set, List.length_set, sm_kill_len]
  obtain ⟨i, len, rs⟩ := q
  cases i with
  | istore k => obtain ⟨v, rfl, hk, hp, rfl, rfl⟩ := sm_store1_inv hs; exact k1 hp
  | istore_n k => obtain ⟨v, rfl, hk, hp, rfl, rfl⟩ := sm_store1_inv hs; exact k1 hp
  | astore k => obtain ⟨v, rfl, hk, hp, rfl, rfl⟩ := sm_store1_inv hs; exact k1 hp
  | astore_n k => obtain ⟨v, rfl, hk, hp, rfl, rfl⟩ := sm_store1_inv hs; exact k1 hp
  | lstore k => obtain ⟨v, rfl, hp, rfl, rfl⟩ := sm_store2_inv hs; exact k2 hp
  | lstore_n k => obtain ⟨v, rfl, hp, rfl, rfl⟩ := sm_store2_inv hs; exact k2 hp
  | iinc k n =>
    simp only [sm_step] at hs
    split at hs
    · next x hx =>
      cases hp : sm_put1 ls k (.int (x + Int32.ofInt n)) with
      | none => rw [hp] at hs; cases hs
      | some l2 =>
        rw [hp] at hs
        obtain ⟨rfl, rfl, rfl, rfl⟩ := sm_nx_inv hs
        exact k1 hp
    · cases hs
  | baload =>
    simp only [sm_step] at hs
    split at hs
    · next r0 hr0 =>
      cases hs
      obtain ⟨i, a, n, f, r, rfl, ha, hi, rfl, rfl, rfl, rfl⟩ := sm_ald_inv hr0
      rfl
    · obtain ⟨i, a, n, f, r, rfl, ha, hi, rfl, rfl, rfl, rfl⟩ := sm_ald_inv hs
      rfl
  | _ =>
    refine congrArg List.length (?_ : ls' = ls)
    simp only [sm_step, sm_bin, sm_binL, sm_loadK, sm_ald, sm_aldL, sm_ast, sm_astL, sm_getf, sm_putf, sm_newo, sm_newa, sm_callS, sm_callI, sm_callV, sm_if, sm_nx, sm_ret, sm_call] at hs
    repeat' split at hs
    all_goals first
      | (cases hs; done)
      | (simp at hs; exact hs.2.1.symm)
      | (simp at hs; done)
      | (cases hs; rfl)
theorem sm_ret_inv {q : sm_I} {pc : Nat} {ls : sm_L} {st : List Value} {h : sm_H} {v : Option Value} (hs : sm_step q pc ls st h = some (.inr (.inl v))) :
    (q.1 = .ireturn ∧ ∃ x, st = [.int x] ∧ v = some (.int x)) ∨ (q.1 = .lreturn ∧ ∃ x, st = [.long x] ∧ v = some (.long x)) ∨ (q.1 = .areturn ∧ ∃ x, st = [.ref x] ∧ v = some (.ref x)) ∨ (q.1 = .return_ ∧ st = [] ∧ v = none) := by
  obtain ⟨i, len, rs⟩ := q
  cases i with
  | ireturn =>
    simp only [sm_step, sm_ret] at hs
    split at hs
    · next x => cases hs; exact Or.inl ⟨rfl, x, rfl, rfl⟩
    · cases hs
  | lreturn =>
    simp only [sm_step, sm_ret] at hs
    split at hs
    · next x => cases hs; exact Or.inr (Or.inl ⟨rfl, x, rfl, rfl⟩)
    · cases hs
  | areturn =>
    simp only [sm_step, sm_ret] at hs
    split at hs
    · next x => cases hs; exact Or.inr (Or.inr (Or.inl ⟨rfl, x, rfl, rfl⟩))
    · cases hs
  | return_ =>
    simp only [sm_step, sm_ret] at hs
    split at hs
    · cases hs; exact Or.inr (Or.inr (Or.inr ⟨rfl, rfl, rfl⟩))
    · cases hs
  | baload =>
    exfalso
    simp only [sm_step] at hs
    split at hs
    · next r0 hr0 =>
      cases hs
      simp only [sm_ald, sm_nx] at hr0
      repeat' split at hr0
      all_goals first | (cases hr0; done) | (simp at hr0; done)
    · simp only [sm_ald, sm_nx] at hs
      repeat' split at hs
      all_goals first | (cases hs; done) | (simp at hs; done)
  | _ =>
    exfalso
    simp only [sm_step, sm_bin, sm_binL, sm_loadK, sm_store1, sm_store2, sm_ald, sm_aldL, sm_ast, sm_astL, sm_getf, sm_putf, sm_newo, sm_newa, sm_callS, sm_callI, sm_callV, sm_if, sm_nx, sm_call, Option.bind] at hs
    repeat' split at hs
    all_goals first
      | (cases hs; done)
      | (simp at hs; done)
theorem sm_args_inv {n : Nat} {st as r : List Value} (h : sm_args n st = some (as, r)) : st = as.reverse ++ r ∧ as.length = n := by
  unfold sm_args at h
  split at h
  · next hl =>
    cases h
    refine ⟨by rw [List.reverse_reverse, List.take_append_drop], by simp; omega⟩
  · cases h
theorem sm_call_inv {q : sm_I} {pc : Nat} {ls : sm_L} {st : List Value} {h : sm_H} {m : Nat} {as r : List Value} (hs : sm_step q pc ls st h = some (.inr (.inr (m, as, r)))) :
    (∃ idx k n, q.1 = .invokestatic idx ∧ q.2.2 = [k, m, n] ∧ sm_args n st = some (as, r)) ∨ (∃ idx k n b bs, q.1 = .invokespecial idx ∧ q.2.2 = [k, m, n] ∧ sm_args n st = some (as, r) ∧ as = .ref b :: bs) ∨
    (∃ idx k n ps b bs ci fs, q.1 = .invokevirtual idx ∧ q.2.2 = k :: n :: ps ∧ sm_args (n + 1) st = some (as, r) ∧ as = .ref b :: bs ∧ h[b]? = some (.inr (ci, fs)) ∧ sm_pick ci ps = some m) := by
  obtain ⟨i, len, rs⟩ := q
  cases i with
  | invokestatic idx =>
    simp only [sm_step, sm_callS] at hs
    split at hs
    · split at hs
      · split at hs
        · simp [sm_nx] at hs
        · cases hs
      · cases hs
    · split at hs
      · split at hs
        · simp [sm_nx] at hs
        · cases hs
      · cases hs
    · split at hs
      · next k m1 n _ _ =>
        split at hs
        · next as1 r1 ha =>
          simp only [sm_call] at hs
          cases hs
          exact Or.inl ⟨idx, k, n, rfl, rfl, ha⟩
        · cases hs
      · cases hs
  | invokespecial idx =>
    simp only [sm_step, sm_callI] at hs
    split at hs
    · split at hs
      · split at hs
        · simp [sm_nx] at hs
        · cases hs
      · cases hs
    · split at hs
      · next k m1 n _ =>
        split at hs
        · next b as1 r1 ha =>
          simp only [sm_call] at hs
          cases hs
          exact Or.inr (Or.inl ⟨idx, k, n, b, as1, rfl, rfl, ha, rfl⟩)
        · cases hs
      · cases hs
  | invokevirtual idx =>
    simp only [sm_step, sm_callV] at hs
    split at hs
    · next k n ps =>
      split at hs
      · next b as1 r1 ha =>
        split at hs
        · next ci fs hb =>
          split at hs
          · next m1 hp =>
            simp only [sm_call] at hs
            cases hs
            exact Or.inr (Or.inr ⟨idx, k, n, ps, b, as1, ci, fs, rfl, rfl, ha, rfl, hb, hp⟩)
          · cases hs
        · cases hs
      · cases hs
    · cases hs
  | baload =>
    exfalso
    simp only [sm_step] at hs
    split at hs
    · next r0 hr0 =>
      cases hs
      simp only [sm_ald, sm_nx] at hr0
      repeat' split at hr0
      all_goals first | (cases hr0; done) | (simp at hr0; done)
    · simp only [sm_ald, sm_nx] at hs
      repeat' split at hs
      all_goals first | (cases hs; done) | (simp at hs; done)
  | _ =>
    exfalso
    simp only [sm_step, sm_bin, sm_binL, sm_loadK, sm_store1, sm_store2, sm_ald, sm_aldL, sm_ast, sm_astL, sm_getf, sm_putf, sm_newo, sm_newa, sm_if, sm_nx, sm_ret, Option.bind] at hs
    repeat' split at hs
    all_goals first
      | (cases hs; done)
      | (simp at hs; done)
end
section
/-! SOUNDNESS: contracts out of runs. -/
/-- a method's name, bytes, kind of answer -/
abbrev sm_Y : Type := MethodName × ByteArray × Option FieldType
def sm_room (d mc ms : Nat) : Room := { frames := d + 2, cells := mc, slots := ms, locals := 64 * d + 64 }
def sm_par (d : String) : Option Nat := (parseMethodDescriptor d).map (fun z => z.parameters.length)
def sm_nmh (c : String) : Prop := c ≠ "java/lang/invoke/MethodHandle" ∧ c ≠ "java/lang/invoke/VarHandle"
/-- what the tables must hold of a call -/
def sm_okC (Ts : List Cond) (oc : (List (Nat × Nat × String × String × String × Value) × List (String × Nat × MethodName × String))) (cl : List vw_C) (Y : Nat → sm_Y) (own : String) (i : Instr) (rs : List Nat) : Prop := match i, rs with
  | .invokestatic idx, [_, mi, n] => Cond.static (Y mi).1 ∈ Ts ∧ Cond.initialized (Y mi).1.cls ∈ Ts ∧ sm_par (Y mi).1.desc = some n ∧ (Cond.methodLink own idx (Y mi).1 ∈ Ts ∨ ∃ host, (own, idx, (Y mi).1, host) ∈ oc.2)
  | .invokespecial idx, [_, mi, n] => (Y mi).1.name = "<init>" ∧ (Y mi).2.2 = none ∧ Cond.instanceMethod (Y mi).1 ∈ Ts ∧ Cond.initialized (Y mi).1.cls ∈ Ts ∧ (∃ k, n = k + 1 ∧ sm_par (Y mi).1.desc = some k) ∧ (Cond.methodLink own idx (Y mi).1 ∈ Ts ∨ ∃ host, (own, idx, (Y mi).1, host) ∈ oc.2)
  | .invokevirtual idx, _ :: n :: ps => ∀ ci mi, sm_pick ci ps = some mi → ∃ (C : String), sm_nm cl ci = some C ∧ Cond.instanceMethod (Y mi).1 ∈ Ts ∧ Cond.initialized (Y mi).1.cls ∈ Ts ∧
      ((Cond.methodLink own idx (Y mi).1 ∈ Ts ∧ Cond.selects C (Y mi).1 (Y mi).1 ∈ Ts ∧ sm_par (Y mi).1.desc = some n) ∨
       (∃ host, (own, idx, (Y mi).1, host) ∈ oc.2 ∧ Cond.selects C (Y mi).1 (Y mi).1 ∈ Ts ∧ sm_par (Y mi).1.desc = some n) ∨
       (∃ (x : MethodName) (owner : String), Cond.methodLink own idx x ∈ Ts ∧ Cond.sameMethod x.cls owner x.name x.desc ∈ Ts ∧ sm_nmh owner ∧ Cond.selects C x (Y mi).1 ∈ Ts ∧ sm_par x.desc = some n ∧
         (Cond.declares ⟨owner, x.name, x.desc⟩ ∈ Ts ∨ (Cond.instanceMethod ⟨owner, x.name, x.desc⟩ ∈ Ts ∧ ∃ b m r, Cond.code ⟨owner, x.name, x.desc⟩ b m r ∈ Ts))))
  | _, _ => True
/-- kinds of answers -/
def sm_rk (k : Nat) (ret : Option FieldType) : Prop := (k = 0 ∧ ret = none) ∨ (k = 1 ∧ ret = some .int) ∨ (k = 2 ∧ ret = some .long) ∨ (k = 3 ∧ ((∃ n, ret = some (.object n)) ∨ ∃ n, ret = some (.array n))) ∨ (k = 4 ∧ ret = some .boolean) ∨ (k = 5 ∧ ret = some .char) ∨ (k = 6 ∧ ret = some .byte)
/-- the tables are right of a method -/
def sm_okM (Ts : List Cond) (sx : List (String × Nat × String × Nat)) (zx : List (String × String × String × Nat)) (oc : (List (Nat × Nat × String × String × String × Value) × List (String × Nat × MethodName × String))) (K : sm_H) (cl : List vw_C) (Y : Nat → sm_Y) (mi : Nat) (M : sm_M) : Prop :=
  Cond.code (Y mi).1 (Y mi).2.1 M.1 (Y mi).2.2 ∈ Ts ∧ plainName (Y mi).1.cls = true ∧ sm_nmh (Y mi).1.cls ∧ M.1 ≤ 45 ∧ sm_rk M.2.1 (Y mi).2.2 ∧
  ∀ (pc : Nat) (q : sm_I), M.2.2[pc]? = some (some q) → decode (Y mi).2.1 pc = .ok (q.1, q.2.1) ∧ sm_lenOk q.1 q.2.1 = true ∧ sm_okI Ts sx zx oc K cl (Y mi).1.cls (Y mi).1.name pc q.1 q.2.2 ∧ sm_okC Ts oc cl Y (Y mi).1.cls q.1 q.2.2
def sm_Good (Ts : List Cond) (sx : List (String × Nat × String × Nat)) (zx : List (String × String × String × Nat)) (oc : (List (Nat × Nat × String × String × String × Value) × List (String × Nat × MethodName × String))) (K : sm_H) (cl : List vw_C) (Y : Nat → sm_Y) (P : Nat → Option sm_M) : Prop := ∀ mi M, P mi = some M → sm_okM Ts sx zx oc K cl Y mi M
def sm_Pc (D : va_G) (cl : List vw_C) (tys : List (ClassId × FieldType)) (sx : List (String × Nat × String × Nat)) (zx : List (String × String × String × Nat)) (oc : (List (Nat × Nat × String × String × String × Value) × List (String × Nat × MethodName × String))) (K : sm_H) (N0 : Nat) (cs : Nat → Nat) (as : List Value) (h : sm_H) : Array Value → State → Prop :=
  fun v U => v = (as.map (sm_mv (sm_ad N0 cs))).toArray ∧ sm_P D cl tys N0 cs K h U.heap ∧ va_K D cl tys U ∧ sm_X cl K sx zx oc N0 cs U
def sm_Qc (D : va_G) (cl : List vw_C) (tys : List (ClassId × FieldType)) (N0 : Nat) (cs : Nat → Nat) (K : sm_H) (v : Option Value) (h : sm_H) : Array Value → State → Outcome → State → Prop :=
  fun _ st o t => o = .returned (v.map (sm_mv (sm_ad N0 cs))) ∧ sm_P D cl tys N0 cs K h t.heap ∧ ∀ q, q < N0 → t.heap[q]? = st.heap[q]?
theorem sm_blind {D : va_G} {cl : List vw_C} {tys : List (ClassId × FieldType)} {sx : List (String × Nat × String × Nat)} {zx : List (String × String × String × Nat)} {oc : (List (Nat × Nat × String × String × String × Value) × List (String × Nat × MethodName × String))} {K : sm_H} {N0 : Nat} {cs : Nat → Nat} {as : List Value} {h : sm_H} : FrameBlind (sm_Pc D cl tys sx zx oc K N0 cs as h) := by
  intro a U g mk q
  obtain ⟨h1, h2, h3, h4⟩ := q
  exact ⟨h1, h2, va_K.moved (u := U) (U := U.calling g mk a) (Vm.Alike.refl U.vm) h3, ⟨fun z hz => vk_R.same rfl (h4.1 z hz), fun z hz => va_Z.moved (u := U) (U := U.calling g mk a) (Vm.Alike.refl U.vm) (h4.2.1 z hz), fun z hz => va_OF.moved (u := U) (U := U.calling g mk a) (Vm.Alike.refl U.vm) (h4.2.2.1 z hz), fun z hz => va_Nw.same rfl rfl (h4.2.2.2.1 z hz), va_Zq.moved (u := U) (U := U.calling g mk a) (Vm.Alike.refl U.vm) h4.2.2.2.2.1, sm_OA.moved (u := U) (U := U.calling g mk a) h4.2.2.2.2.2 (Vm.Alike.refl U.vm) (fun _ _ => rfl)⟩⟩
/-- what was there before is there at a call -/
theorem sm_X.at_ {cl : List vw_C} {K : sm_H} {sx : List (String × Nat × String × Nat)} {zx : List (String × String × String × Nat)} {oc : (List (Nat × Nat × String × String × String × Value) × List (String × Nat × MethodName × String))} {N0 : Nat} {cs : Nat → Nat} {s U : State} (hX : sm_X cl K sx zx oc N0 cs s) (hW : s.WarmedH U.vm) (hF : ∀ q, q < N0 → U.heap[q]? = s.heap[q]?) : sm_X cl K sx zx oc N0 cs U :=
  ⟨fun z hz => vk_R.warm hW (hX.1 z hz), fun z hz => va_Z.moved hW.alike ((hX.2.1 z hz).kept (fun a _ h2 => hF a (Nat.not_le.mp h2))), fun z hz => va_OF.moved hW.alike ((hX.2.2.1 z hz).kept (fun a _ h2 => hF a (Nat.not_le.mp h2))), fun z hz => va_Nw.warmM hW (hX.2.2.2.1 z hz), va_Zq.moved hW.alike (va_Zq.kept hX.2.2.2.2.1 (fun a _ h2 => hF a (Nat.not_le.mp h2))), sm_OA.moved hX.2.2.2.2.2 hW.alike hF⟩
section SMS
variable {p : Program} {l : Launch} {e : Env} {R : Room} {s : State} {m : MethodId} {args : Array Value} {below : List Frame} {meth : Method} {c : Code} {H : Heap} {locs : List Loc} {cells slots : Nat} {Q : State → Prop}
variable {D : va_G} {cl : List vw_C} {tys : List (ClassId × FieldType)} {N0 : Nat} {cs : Nat → Nat} {K h1 : sm_H} {pc : Nat} {LS : Array Slot} {rest st0 : List Value} {mc ms : Nat} {a : Array Value} {v : Option Value}
/-- behind a call -/
theorem sm_after (hr : va_Run p l e R s m args below meth c H locs cells slots mc ms (F0 m pc LS st0) rest (sm_Qc D cl tys N0 cs K v h1 a) (fun q => N0 ≤ q)) (hlocs : ∀ x ∈ locs, N0 ≤ x.base)
    (kk : ∀ (H1 : Heap) (locs1 : List Loc), sm_P D cl tys N0 cs K h1 H1 → (∀ q, q < N0 → H1[q]? = H[q]?) → (∀ x ∈ locs1, N0 ≤ x.base) → W p l e R s m args below meth c H1 locs1 (cells + mc) (slots + ms) Q (F0 m (pc + 3) LS ((v.map (sm_mv (sm_ad N0 cs))).toList ++ rest))) :
    W p l e R s m args below meth c H locs cells slots Q (F0 m pc LS st0) := by
  intro T hT X
  obtain ⟨v', st₀, t, T', L, h0, X', hL, e1, e2, ⟨hv, hp, hk⟩, st⟩ := hr T hT X
  cases hv
  rw [h0] at hk
  rw [← e1] at hp hk
  obtain ⟨t2, a1, b1⟩ := kk T'.heap (locs ++ L) hp hk (fun x hx => (List.mem_append.mp hx).elim (hlocs x) (hL x)) T' rfl X'
  exact ⟨t2, st t2 a1, b1⟩
end SMS
end
section
/-! THE SOUNDNESS THEOREM -/
section SMM
variable {l : Launch} {D : va_G} {cl : List vw_C} {tys : List (ClassId × FieldType)} {N0 : Nat} {cs : Nat → Nat} {Ts : List Cond} {sx : List (String × Nat × String × Nat)} {zx : List (String × String × String × Nat)} {oc : (List (Nat × Nat × String × String × String × Value) × List (String × Nat × MethodName × String))} {K : sm_H} {Y : Nat → sm_Y} {P : Nat → Option sm_M}
/-- a run from any place of a method leads the JVM to the method's end -/
def sm_Cl (l : Launch) (D : va_G) (cl : List vw_C) (tys : List (ClassId × FieldType)) (N0 : Nat) (cs : Nat → Nat) (Ts : List Cond) (sx : List (String × Nat × String × Nat)) (zx : List (String × String × String × Nat)) (oc : (List (Nat × Nat × String × String × String × Value) × List (String × Nat × MethodName × String))) (K : sm_H) (Y : Nat → sm_Y) (P : Nat → Option sm_M) (n : Nat) : Prop :=
  ∀ (d mi pc : Nat) (ls : sm_L) (st : List Value) (h : sm_H) (v : Option Value) (h' : sm_H) (M : sm_M), P mi = some M → sm_run P n d mi pc ls st h = some (v, h') → ls.length = M.1 →
  ∀ (p : Program) (e : Env) (s : State) (m : MethodId) (args : Array Value) (below : List Frame) (meth : Method) (c : Code) (H : Heap) (locs : List Loc) (LS : Array Slot) (h0 : sm_H), p.tables.exec = Jvm.exec → c.code = (Y mi).2.1 → meth.sig.returnType = (Y mi).2.2 → c.maxLocals = M.1 → s.vm.findClass (Y mi).1.cls = some m.cls → meth.name = (Y mi).1.name → (∀ w ∈ Ts, w.before args s = true) → meth.locks = false → va_K D cl tys s → sm_X cl K sx zx oc N0 cs s →
    sm_P D cl tys N0 cs K h H → sm_LR (sm_ad N0 cs) ls LS → (∀ q, q < N0 → H[q]? = s.heap[q]?) → s.heap.size ≤ H.size → (∀ x ∈ locs, N0 ≤ x.base) → h0.length ≤ h.length → sm_sl h0 ≤ sm_sl h →
    W p l e (sm_room d (h'.length - h0.length) (sm_sl h' - sm_sl h0)) s m args below meth c H locs (h.length - h0.length) (sm_sl h - sm_sl h0) (MQ below (sm_Qc D cl tys N0 cs K v h') args s (h'.length - h0.length) (sm_sl h' - sm_sl h0) (fun q => N0 ≤ q)) (F0 m pc LS (st.map (sm_mv (sm_ad N0 cs))))
/-- a contract out of a run from the start -/
theorem sm_metof {n : Nat} (hC : sm_Cl l D cl tys N0 cs Ts sx zx oc K Y P n) (hG : sm_Good Ts sx zx oc K cl Y P) {d mi : Nat} {M : sm_M} {as : List Value} {h h' : sm_H} {v : Option Value} (hM : P mi = some M) (hr : sm_run P n d mi 0 (sm_entry M.1 as) [] h = some (v, h')) (hl : (sm_slots as).length ≤ M.1) :
    Met l (Y mi).1 (Cond.code (Y mi).1 (Y mi).2.1 M.1 (Y mi).2.2 :: Ts) (sm_room d (h'.length - h.length) (sm_sl h' - sm_sl h)) (sm_Pc D cl tys sx zx oc K N0 cs as h) (sm_Qc D cl tys N0 cs K v h') (h'.length - h.length) (sm_sl h' - sm_sl h) (fun q => N0 ≤ q) := by
  obtain ⟨-, g2, -⟩ := hG mi M hM
  refine Met.ofW (cc := (Y mi).2.1) (maxL := M.1) (ret := (Y mi).2.2) g2 rfl ?_
  intro p e s m args below meth c s₁ B hml hv
  obtain ⟨rfl, hP, hK, hS⟩ := hv
  have hts := atoms_spec (ws := Cond.code (Y mi).1 (Y mi).2.1 M.1 (Y mi).2.2 :: Ts) B.pre
  rw [lg_entry_eq]
  have := hC d mi 0 (sm_entry M.1 as) [] h v h' M hM hr (by simp [sm_entry]; omega) p e s m _ below meth c s.heap [] _ h B.exec B.bytes B.returns hml (findClass_of_methodNamed B.named) (name_of_methodNamed B.named B.method).1 (fun w hw => hts w (List.mem_cons_of_mem _ hw)) B.notSynchronized hK hS hP (sm_entry_LR hl) (fun _ _ => rfl) (Nat.le_refl _) (fun x hx => by cases hx) (Nat.le_refl _) (Nat.le_refl _)
  rw [Nat.sub_self, Nat.sub_self] at this
  exact this
theorem sm_goodIn (hgw : ∀ w ∈ Ts, goodWord w = true) {w0 : Cond} (h0 : w0 ∈ Ts) : GoodIn Ts (w0 :: Ts) := fun w hw => by
  have hm : w ∈ Ts := (List.mem_cons.mp hw).elim (fun z => z ▸ h0) id
  exact ⟨hm, good_of_word (hgw w hm)⟩
theorem sm_back_eq {ad : Nat → Nat} {v : Option Value} {r : List Value} : (sm_back v r).map (sm_mv ad) = (v.map (sm_mv ad)).toList ++ r.map (sm_mv ad) := by
  cases v <;> rfl
theorem sm_catsum {ad : Nat → Nat} {r : List Value} (h : (r.map fun v => v.category).sum ≤ 8) : 2 * 0 + ((r.map (sm_mv ad)).map fun v => v.category).sum ≤ 8 := by
  rw [List.map_map, show ((fun v : Value => v.category) ∘ sm_mv ad) = fun v : Value => v.category from funext fun v => sm_cat _ v]
  omega
set_option maxHeartbeats 4000000 in
theorem sm_sound (hG : sm_Good Ts sx zx oc K cl Y P) (hgw : ∀ w ∈ Ts, goodWord w = true) (hT : sm_T tys) : ∀ n, sm_Cl l D cl tys N0 cs Ts sx zx oc K Y P n := by
  intro n
  induction n with
  | zero => intro d mi pc ls st h v h' M hM hr; simp [sm_run] at hr
  | succ n ih =>
    intro d mi pc ls st h v h' M hM hr hlen p e s m args below meth c H locs LS h0 hx hb hrt hml hown hmn hts hlocks hK hS hP hL hF hZ0 hlocs hz1 hz2
    obtain ⟨g1, g2, g3, g4, g5, g6⟩ := hG mi M hM
    obtain ⟨nl, kr, tab⟩ := M
    have hmono := sm_run_mono _ _ _ _ _ _ _ _ _ hr
    unfold sm_run at hr
    rw [hM] at hr
    dsimp only at hr hlen hml g1 g4 g5 g6
    split at hr
    · next q hq =>
      obtain ⟨d1, d2, d3, d4⟩ := g6 pc q hq
      obtain ⟨i, len, rs⟩ := q
      dsimp only at d1 d2 d3 d4
      split at hr
      · next pc1 ls1 st1 h1 hs =>
        have hm1 := sm_step_mono hs
        have hm2 := sm_run_mono _ _ _ _ _ _ _ _ _ hr
        refine sm_next (h' := h1) hx hb hts hown hK hT hS hF hZ0 (by rw [hmn]; exact d3) d2 d1 hP hL hlocs ⟨by show 2 ≤ d + 2; omega, by show 43 ≤ 64 * d + 64; omega⟩ (by rw [hml, hlen]) ⟨by show _ ≤ h'.length - h0.length; omega, by show _ ≤ sm_sl h' - sm_sl h0; omega⟩ hs ?_
        intro H' locs' LS' hP' hL' hF' hlocs'
        have e1 : h.length - h0.length + (h1.length - h.length) = h1.length - h0.length := by omega
        have e2 : sm_sl h - sm_sl h0 + (sm_sl h1 - sm_sl h) = sm_sl h1 - sm_sl h0 := by omega
        rw [e1, e2]
        exact ih d mi pc1 ls1 st1 h1 v h' _ hM hr (by rw [sm_step_len hs]; exact hlen) p e s m args below meth c H' locs' LS' h0 hx hb hrt hml hown hmn hts hlocks hK hS hP' hL' (fun q hq => (hF' q hq).trans (hF q hq)) (by have z1 := hP.1; have z2 := hP'.1; omega) hlocs' (by omega) (by omega)
      · next v1 hs =>
        split at hr
        · next hkr =>
          cases hr
          have hQQ : ∀ (o : Option Value) (t : State), o = v.map (sm_mv (sm_ad N0 cs)) → t.heap = H → sm_Qc D cl tys N0 cs K v h args s (.returned o) t := fun o t ho ht => ⟨by rw [ho], by rw [ht]; exact hP, fun q hq => by rw [ht]; exact hF q hq⟩
          rcases sm_ret_inv hs with ⟨rfl, x, rfl, rfl⟩ | ⟨rfl, x, rfl, rfl⟩ | ⟨rfl, x, rfl, rfl⟩ | ⟨rfl, rfl, rfl⟩
          · simp only [sm_lenOk, beq_iff_eq] at d2
            subst d2
            rcases g5 with ⟨rfl, -⟩ | ⟨rfl, h5⟩ | ⟨rfl, -⟩ | ⟨rfl, -⟩ | ⟨rfl, h5⟩ | ⟨rfl, h5⟩ | ⟨rfl, h5⟩
            · simp [sm_okret] at hkr
            · exact W.iret hx hb (hrt.trans h5) (fun t ht _ => hQQ _ t rfl ht) hlocs d1 (hlocks := hlocks)
            · simp [sm_okret] at hkr
            · simp [sm_okret] at hkr
            · exact W.zret hx hb (hrt.trans h5) (sm_fit_ok (ad := id) (t := 3) (v := .int x) (by simpa [sm_okret, sm_fit] using hkr) (Or.inr (Or.inr (Or.inr (Or.inl ⟨rfl, rfl⟩))))).1 (fun t ht _ => hQQ _ t rfl ht) hlocs d1 (hlocks := hlocks)
            · exact W.zret hx hb (hrt.trans h5) (sm_fit_ok (ad := id) (t := 4) (v := .int x) (by simpa [sm_okret, sm_fit] using hkr) (Or.inr (Or.inr (Or.inr (Or.inr ⟨rfl, rfl⟩))))).1 (fun t ht _ => hQQ _ t rfl ht) hlocs d1 (hlocks := hlocks)
            · have hb2 : x = 0 ∨ x = 1 := by simpa [sm_okret] using hkr
              exact W.zret hx hb (hrt.trans h5) (by rcases hb2 with rfl | rfl <;> rfl) (fun t ht _ => hQQ _ t rfl ht) hlocs d1 (hlocks := hlocks)
          · simp only [sm_lenOk, beq_iff_eq] at d2
            subst d2
            rcases g5 with ⟨rfl, -⟩ | ⟨rfl, -⟩ | ⟨rfl, h5⟩ | ⟨rfl, -⟩ | ⟨rfl, -⟩ | ⟨rfl, -⟩ | ⟨rfl, h5⟩
            · simp [sm_okret] at hkr
            · simp [sm_okret] at hkr
            · exact W.lret hx hb (hrt.trans h5) (fun t ht _ => hQQ _ t rfl ht) hlocs d1 (hlocks := hlocks)
            · simp [sm_okret] at hkr
            · simp [sm_okret] at hkr
            · simp [sm_okret] at hkr
            · simp [sm_okret] at hkr
          · simp only [sm_lenOk, beq_iff_eq] at d2
            subst d2
            rcases g5 with ⟨rfl, -⟩ | ⟨rfl, -⟩ | ⟨rfl, -⟩ | ⟨rfl, h5⟩ | ⟨rfl, -⟩ | ⟨rfl, -⟩ | ⟨rfl, h5⟩
            · simp [sm_okret] at hkr
            · simp [sm_okret] at hkr
            · simp [sm_okret] at hkr
            · rcases h5 with ⟨nm, h5⟩ | ⟨nm, h5⟩
              · exact W.aret hx hb (hrt.trans h5) (Or.inl ⟨_, rfl⟩) (Or.inr ⟨_, rfl⟩) (fun t ht _ => hQQ _ t rfl ht) hlocs d1 (hlocks := hlocks)
              · exact W.aret hx hb (hrt.trans h5) (Or.inr ⟨_, rfl⟩) (Or.inr ⟨_, rfl⟩) (fun t ht _ => hQQ _ t rfl ht) hlocs d1 (hlocks := hlocks)
            · simp [sm_okret] at hkr
            · simp [sm_okret] at hkr
            · simp [sm_okret] at hkr
          · simp only [sm_lenOk, beq_iff_eq] at d2
            subst d2
            rcases g5 with ⟨rfl, h5⟩ | ⟨rfl, -⟩ | ⟨rfl, -⟩ | ⟨rfl, -⟩ | ⟨rfl, -⟩ | ⟨rfl, -⟩ | ⟨rfl, h5⟩
            · exact W.vret hx hb (hrt.trans h5) (fun t ht _ => hQQ _ t rfl ht) hlocs d1 (hlocks := hlocks)
            · simp [sm_okret] at hkr
            · simp [sm_okret] at hkr
            · simp [sm_okret] at hkr
            · simp [sm_okret] at hkr
            · simp [sm_okret] at hkr
            · simp [sm_okret] at hkr
        · cases hr
      · next m1 as r hs =>
        split at hr
        · next d1' nl1 k1 tab1 hM1 =>
          split at hr
          · next hc =>
            obtain ⟨hc1, hc2⟩ := hc
            split at hr
            · next v1 h1 hcall =>
              have hm1 := sm_run_mono _ _ _ _ _ _ _ _ _ hcall
              have hm2 := sm_run_mono _ _ _ _ _ _ _ _ _ hr
              obtain ⟨q1, q2, q3, q4, -, -⟩ := hG m1 _ hM1
              dsimp only at q1 q4
              have hMet := sm_metof (as := as) ih hG hM1 hcall hc1
              have hgi := sm_goodIn hgw q1
              have hfits : h.length - h0.length + (h1.length - h.length) ≤ (sm_room (d1' + 1) (h'.length - h0.length) (sm_sl h' - sm_sl h0)).cells ∧ sm_sl h - sm_sl h0 + (sm_sl h1 - sm_sl h) ≤ (sm_room (d1' + 1) (h'.length - h0.length) (sm_sl h' - sm_sl h0)).slots := ⟨by show _ ≤ h'.length - h0.length; omega, by show _ ≤ sm_sl h' - sm_sl h0; omega⟩
              have hroom : (sm_room d1' (h1.length - h.length) (sm_sl h1 - sm_sl h)).frames + 1 ≤ (sm_room (d1' + 1) (h'.length - h0.length) (sm_sl h' - sm_sl h0)).frames ∧ 8 + (nl1 + 11) + (sm_room d1' (h1.length - h.length) (sm_sl h1 - sm_sl h)).locals ≤ (sm_room (d1' + 1) (h'.length - h0.length) (sm_sl h' - sm_sl h0)).locals := ⟨by show d1' + 2 + 1 ≤ d1' + 1 + 2; omega, by show 8 + (nl1 + 11) + (64 * d1' + 64) ≤ 64 * (d1' + 1) + 64; omega⟩
              have hpre : ∀ U : State, U.heap = H → s.WarmedH U.vm → sm_Pc D cl tys sx zx oc K N0 cs as h (as.map (sm_mv (sm_ad N0 cs))).toArray U := fun U hU hW => ⟨rfl, by rw [hU]; exact hP, va_K.moved hW.alike hK, hS.at_ hW (fun q hq => by rw [hU]; exact hF q hq)⟩
              have hfix : CallFix p m c (Y mi).2.1 nl s args Ts (Y mi).1.cls := ⟨hx, hb, hml, hown, hts⟩
              have hsz : LS.size = nl := hL.1.trans hlen
              have goOn : ∀ (a : Array Value), va_Run p l e (sm_room (d1' + 1) (h'.length - h0.length) (sm_sl h' - sm_sl h0)) s m args below meth c H locs (h.length - h0.length) (sm_sl h - sm_sl h0) (h1.length - h.length) (sm_sl h1 - sm_sl h) (F0 m pc LS (st.map (sm_mv (sm_ad N0 cs)))) (r.map (sm_mv (sm_ad N0 cs))) (sm_Qc D cl tys N0 cs K v1 h1 a) (fun q => N0 ≤ q) →
                  W p l e (sm_room (d1' + 1) (h'.length - h0.length) (sm_sl h' - sm_sl h0)) s m args below meth c H locs (h.length - h0.length) (sm_sl h - sm_sl h0) (MQ below (sm_Qc D cl tys N0 cs K v h') args s (h'.length - h0.length) (sm_sl h' - sm_sl h0) (fun q => N0 ≤ q)) (F0 m pc LS (st.map (sm_mv (sm_ad N0 cs)))) := by
                intro a hrun
                refine sm_after hrun hlocs fun H1 locs1 hP1 hF1 hl1 => ?_
                have e1 : h.length - h0.length + (h1.length - h.length) = h1.length - h0.length := by omega
                have e2 : sm_sl h - sm_sl h0 + (sm_sl h1 - sm_sl h) = sm_sl h1 - sm_sl h0 := by omega
                rw [e1, e2, ← sm_back_eq]
                exact ih (d1' + 1) mi (pc + 3) ls (sm_back v1 r) h1 v h' _ hM hr hlen p e s m args below meth c H1 locs1 LS h0 hx hb hrt hml hown hmn hts hlocks hK hS hP1 hL (fun q hq => (hF1 q hq).trans (hF q hq)) (by have z1 := hP.1; have z2 := hP1.1; omega) hl1 (by omega) (by omega)
              rcases sm_call_inv hs with ⟨idx, k, n1, rfl, rfl, ha⟩ | ⟨idx, k, n1, b, bs, rfl, rfl, ha, rfl⟩ | ⟨idx, k, n1, ps, b, bs, ci, fs, rfl, rfl, ha, rfl, hbc, hpk⟩
              · simp only [sm_lenOk, beq_iff_eq] at d2
                subst d2
                obtain ⟨w1, w2, w3, w4⟩ := d4
                obtain ⟨ea, el⟩ := sm_args_inv ha
                have hst : (st.map (sm_mv (sm_ad N0 cs))) = (as.map (sm_mv (sm_ad N0 cs))).reverse ++ r.map (sm_mv (sm_ad N0 cs)) := by rw [ea, List.map_append, List.map_reverse]
                rcases w4 with w4 | ⟨host, w4⟩
                · exact goOn _ (va_runS (As := as.map (sm_mv (sm_ad N0 cs))) hfix hMet ⟨callB_of n1 hts hgi rfl rfl rfl (hts _ w2) (hts _ w4) ⟨q3.1, q3.2, w3⟩ hroom, hts _ w1⟩ ⟨sm_blind, hpre⟩ rfl (by rw [List.length_map]; exact el) hsz hst (sm_catsum hc2) d1 hfits)
                · exact goOn _ (va_runSN (As := as.map (sm_mv (sm_ad N0 cs))) hfix hMet ⟨va_cnB n1 hts hgi rfl rfl rfl (hS.2.2.2.1 _ w4) (hts _ w2) ⟨q3.1, q3.2, w3⟩ hroom, hts _ w1, trivial⟩ ⟨sm_blind, hpre⟩ rfl (by rw [List.length_map]; exact el) hsz hst (sm_catsum hc2) d1 hfits)
              · simp only [sm_lenOk, beq_iff_eq] at d2
                subst d2
                obtain ⟨w0, w1, w2, w3, ⟨k2, rfl, w4⟩, w5⟩ := d4
                obtain ⟨ea, el⟩ := sm_args_inv ha
                have hst : (st.map (sm_mv (sm_ad N0 cs))) = (bs.map (sm_mv (sm_ad N0 cs))).reverse ++ .ref (sm_ad N0 cs b) :: r.map (sm_mv (sm_ad N0 cs)) := by rw [ea]; simp [sm_mv]
                rw [w1] at hMet hgi
                rcases w5 with w5 | ⟨host, w5⟩
                · exact goOn _ (va_runI (As := bs.map (sm_mv (sm_ad N0 cs))) hfix hMet ⟨callB_of k2 hts hgi rfl rfl rfl (hts _ w3) (hts _ w5) ⟨q3.1, q3.2, w4⟩ hroom, w0, hts _ w2⟩ ⟨sm_blind, hpre⟩ rfl (by rw [List.length_map]; simpa using el) hsz hst (sm_catsum hc2) d1 hfits)
                · exact goOn _ (va_runIN (As := bs.map (sm_mv (sm_ad N0 cs))) hfix hMet ⟨va_cnB k2 hts hgi rfl rfl rfl (hS.2.2.2.1 _ w5) (hts _ w3) ⟨q3.1, q3.2, w4⟩ hroom, w0, hts _ w2⟩ ⟨sm_blind, hpre⟩ rfl (by rw [List.length_map]; simpa using el) hsz hst (sm_catsum hc2) d1 hfits)
              · simp only [sm_lenOk, beq_iff_eq] at d2
                subst d2
                obtain ⟨C, w1, w2, w3, w4⟩ := d4 ci m1 hpk
                obtain ⟨ea, el⟩ := sm_args_inv ha
                have hst : (st.map (sm_mv (sm_ad N0 cs))) = (bs.map (sm_mv (sm_ad N0 cs))).reverse ++ .ref (sm_ad N0 cs b) :: r.map (sm_mv (sm_ad N0 cs)) := by rw [ea]; simp [sm_mv]
                have hrc := sm_recv hP hS.2.2.2.2.2 hF hK hbc w1
                have hel : (bs.map (sm_mv (sm_ad N0 cs))).length = n1 := by rw [List.length_map]; simpa using el
                rcases w4 with ⟨u1, u2, u3⟩ | ⟨host, u1, u2, u3⟩ | ⟨x, owner, u1, u2, u3, u4, u5, u6⟩
                · exact goOn _ (va_runV (C := C) (As := bs.map (sm_mv (sm_ad N0 cs))) hfix hMet ⟨callB_of n1 hts hgi rfl rfl rfl (hts _ w3) (hts _ u1) ⟨q3.1, q3.2, u3⟩ hroom, hts _ w2, hts _ u2⟩ ⟨sm_blind, hrc, hpre⟩ rfl hel hsz hst (sm_catsum hc2) d1 hfits)
                · exact goOn _ (va_runVN (C := C) (As := bs.map (sm_mv (sm_ad N0 cs))) hfix hMet ⟨va_cnB n1 hts hgi rfl rfl rfl (hS.2.2.2.1 _ u1) (hts _ w3) ⟨q3.1, q3.2, u3⟩ hroom, hts _ w2, hts _ u2⟩ ⟨sm_blind, hrc, hpre⟩ rfl hel hsz hst (sm_catsum hc2) d1 hfits)
                · have hdecl : va_Decl s ⟨owner, x.name, x.desc⟩ := by
                    rcases u6 with u6 | ⟨u6, b0, m0, r0, u7⟩
                    · exact va_Decl.abs (va_Nw.of rfl (hts _ u6))
                    · exact va_Decl.of (hts _ u6) (hts _ u7)
                  exact goOn _ (va_runU (C := C) (As := bs.map (sm_mv (sm_ad N0 cs))) hfix hMet ⟨⟨rfl, rfl, hroom.1, hroom.2, pay_in hts hgi, List.mem_cons_self⟩, hts _ q1, hts _ w3, u3, (fun sig hsig => by have h2 := u5; unfold sm_par at h2; rw [hsig] at h2; exact (Option.some.inj h2).symm), hts _ u1, hts _ u2, hdecl, hts _ u4, hts _ w2⟩ ⟨sm_blind, hrc, hpre⟩ rfl hel hsz hst (sm_catsum hc2) d1 hfits)
            · cases hr
          · cases hr
        · cases hr
      · cases hr
    · cases hr
end SMM
end
section
/-! A THROW whose constructor passes the text on by another pool entry than the library's chains have (NoSuchElementException): the first link is given by its own bytes, the rest is the library's chain -/
def sm_tail (own : String) (ic : Nat) (X : String) : List Cond := (Bundle.ownAtoms own ic X []).drop 33
def sm_odd (own : String) (ic : Nat) (X Y : String) (ix : Nat) (bytes : ByteArray) (names : List String) : List Cond :=
  (Bundle.throwableAtoms ++ Bundle.throwableSAtoms) ++ (Bundle.passSAtoms X Y ix bytes ++ (Bundle.chainSAtoms Y names ++ sm_tail own ic X))
section SMODD
variable {p : Program} {l : Launch} {e : Env} {R : Room} {s : State} {m₀ : MethodId} {args : Array Value} {below : List Frame} {meth : Method} {c : Code} {V : State} {locs : List Loc} {cells slots : Nat}
set_option maxHeartbeats 4000000 in
theorem sm_oddCtor (X : Stand p l e R s m₀ args below meth c V locs cells slots) (hexec : p.tables.exec = Jvm.exec) (htr : e.platform.stackTraces = false) {own cls Y : String} {names : List String} {ic ix : Nat} {bytes : ByteArray}
    (hown : s.vm.findClass own = some m₀.cls) (hcls : Bundle.fit cls = true) (hY : Bundle.fit Y = true) (hnames : ∀ n ∈ names, Bundle.fit n = true) (h : ∀ a ∈ sm_odd own ic cls Y ix bytes names, a.before args s = true)
    (b0 : decode bytes 0 = .ok (.aload_n 0, 1)) (b1 : decode bytes 1 = .ok (.aload_n 1, 1)) (b2 : decode bytes 2 = .ok (.invokespecial ix, 3)) (b5 : decode bytes 5 = .ok (.return_, 1))
    (hlocs : ∀ x ∈ locs, ∀ cell, s.heap[x.base]? = some cell → cell.vm.isStatics = false)
    {a : Addr} {cX : ClassId} {kX : Class} (hfX : s.vm.findClass cls = some cX) (hkX : s.vm.classes[cX]? = some kX) (hcell : V.heap[a]? = some (freshCell cX kX)) (hnew : s.heap.size ≤ a)
    {msg : Value} (hmsg : msg.isRef = true) {g : JFrame} (hg : g.method = m₀) (hsize : g.locals.size = c.maxLocals) (hlocked : g.locked = none) (hentered : g.entered = []) {rest : List Value} (hstack : g.stack = msg :: .ref a :: .ref a :: rest)
    (hd6 : decode c.code g.pc = .ok (.invokespecial ic, 3)) (hd9 : decode c.code (g.pc + 3) = .ok (.athrow, 1)) (hout : ∀ x ∈ c.exceptionTable.toList, covers x (g.pc + 3) = false)
    (hfr : names.length + 1 + 3 < R.frames) (hlo : 2 * g.monitorRoom + ((Value.ref a :: rest).map fun v => v.category).sum + (13 * (names.length + 1 + 1) + 42) ≤ R.locals) (hlocks : meth.locks = false) :
    ∃ U : State, Steps p.tables e below (V.setTop g) U ∧ U.status = .running ∧ Ended U below (.threw a) ∧ s.WarmedH U.vm ∧ s.sameButNew ({ U with vm := s.vm } : State) locs cells slots ∧ ∃ ce, U.heap[a]? = some ce ∧ s.vm.findClass cls = some ce.cls ∧ ce.vm = .none := by
  have howns : e.platform.frameOwnsMonitors = true := by rw [X.admits.platform]
  have hfin : e.platform.finalization = false := by rw [X.admits.platform]
  have hpl : e.platform.magicAccessors = ({} : Platform).magicAccessors := by rw [X.admits.platform]
  have hA : ∀ x ∈ Bundle.throwableAtoms, x.before args s = true := fun x hx => h x (List.mem_append.mpr (Or.inl (List.mem_append.mpr (Or.inl hx))))
  have hS : ∀ x ∈ Bundle.throwableSAtoms, x.before args s = true := fun x hx => h x (List.mem_append.mpr (Or.inl (List.mem_append.mpr (Or.inr hx))))
  have hP : ∀ x ∈ Bundle.passSAtoms cls Y ix bytes, x.before args s = true := fun x hx => h x (List.mem_append.mpr (Or.inr (List.mem_append.mpr (Or.inl hx))))
  have hC : ∀ x ∈ Bundle.chainSAtoms Y names, x.before args s = true := fun x hx => h x (List.mem_append.mpr (Or.inr (List.mem_append.mpr (Or.inr (List.mem_append.mpr (Or.inl hx))))))
  have hT : ∀ x ∈ sm_tail own ic cls, x.before args s = true := fun x hx => h x (List.mem_append.mpr (Or.inr (List.mem_append.mpr (Or.inr (List.mem_append.mpr (Or.inr hx))))))
  have tl : ∀ (n : Nat) (x : Cond), (sm_tail own ic cls)[n]? = some x → x.before args s = true := fun n x hx => hT x (List.mem_of_getElem? hx)
  obtain ⟨T, Z0, L, -, Q⟩ := ThrowableC.of_atoms (args := args) howns hfin hpl hA
  obtain ⟨Z, M, LZ, LM, hnZ⟩ := Init0T.ofS_atoms (args := args) hpl L Q hS
  obtain ⟨P2, Ps, hlen, L2, hL, hP2m, hlink2, hlink⟩ := Bundle.chainS (args := args) hpl hnZ names Y hY hnames hC
  obtain ⟨P1, L1, hP1m, hP1s⟩ := PassC.ofS_atoms (args := args) hpl (Bundle.fit_spec hcls).1 (Bundle.fit_spec hY).2 b0 b1 b2 b5 hP
  have hlink1 : P1.sup = P2.m := Option.some.inj (hP1s.symm.trans hP2m)
  have hfound : s.vm.findClass cls = some P1.m.cls := findClass_of_methodNamed hP1m
  cases Option.some.inj (hfX.symm.trans hfound)
  obtain ⟨c1, kX', hc1, hk, hord, -, -, hn6⟩ := Cond.instantiable_spec (tl 1 _ rfl)
  cases Option.some.inj (hc1.symm.trans hfound)
  cases Option.some.inj (hkX.symm.trans hk)
  have hsel0 : selectMethod e.platform s.vm P1.m.cls T.fill0 = .method T.fill0 := by
    obtain ⟨c2, r2, m2, q1, q2, q3, q4, -⟩ := Cond.selects_spec (tl 3 _ rfl)
    cases Option.some.inj (q1.symm.trans hfound)
    cases Option.some.inj (q2.symm.trans (State.methodFound?_of_named Q.fill0 (by decide)))
    cases Option.some.inj (q3.symm.trans Q.fill0)
    rw [Launch.admits_selectMethod X.admits]
    exact q4
  have hselF : selectMethod e.platform s.vm P1.m.cls T.fill = .method T.fill := by
    obtain ⟨c2, r2, m2, q1, q2, q3, q4, -⟩ := Cond.selects_spec (tl 4 _ rfl)
    cases Option.some.inj (q1.symm.trans hfound)
    cases Option.some.inj (q2.symm.trans (State.methodFound?_of_named Q.fill (by decide)))
    cases Option.some.inj (q3.symm.trans Q.fill)
    rw [Launch.admits_selectMethod X.admits]
    exact q4
  obtain ⟨cS0, hcS0, hiss⟩ := Q.statics
  obtain ⟨u0, hu0⟩ := Cond.staticRefV Q.unassigned L.unassignedStatic L.statics hcS0 hiss (tl 9 _ rfl)
  obtain ⟨sen, hsen⟩ := Cond.staticRefV Q.sentinel L.sentinelStatic L.statics hcS0 hiss (tl 10 _ rfl)
  obtain ⟨ci198, i198, fB, hk198, hg198, ha198, hsB, -, hnB, htB, hffB⟩ := Cond.ownField (t := .object "java/lang/Object") Q.found L.cls (by decide +kernel) (tl 11 _ rfl) (tl 12 _ rfl) e.platform hpl
  obtain ⟨cellS, hcellS, heS, -, hkeep⟩ := X.same.2.2.2.2.2 T.aS cS0 hcS0
  have hout' : ∀ i, (⟨T.aS, i⟩ : Loc) ∉ locs := fun i hm => by
    have := hlocs _ hm cS0 hcS0
    rw [hiss] at this
    cases this
  have hknownS : cellS.vm ≠ .unknown := by
    rw [heS]
    intro hu
    rw [show cS0.vm = .unknown from hu] at hiss
    cases hiss
  have hneS : T.aS ≠ a := Nat.ne_of_lt (Nat.lt_of_lt_of_le (Array.getElem?_eq_some_iff.mp hcS0).1 hnew)
  obtain ⟨iM, hffM⟩ := Q.msg
  obtain ⟨tyC, dC, hdC, hdnC⟩ := Cond.laysAt hfound hk Q.cause (tl 5 _ rfl)
  obtain ⟨tyS, dS, hdS, hdnS⟩ := Cond.laysAt hfound hk Q.stack (tl 6 _ rfl)
  obtain ⟨tyP, dP, hdP, hdnP⟩ := Cond.laysAt hfound hk Q.supp (tl 7 _ rfl)
  obtain ⟨tyM, dM, hdM, hdnM⟩ := Cond.laysAt hfound hk hffM (tl 8 _ rfl)
  obtain ⟨tyB, dB, hdB, hdnB⟩ := Cond.laysAt hfound hk hffB (tl 13 _ rfl)
  have bC := Cond.laysApart hdB hdC hdnB hdnC (by rw [hnB, Q.causeName]; decide)
  have bS := Cond.laysApart hdB hdS hdnB hdnS (by rw [hnB, Q.stackName]; decide)
  have bP := Cond.laysApart hdB hdP hdnB hdnP (by rw [hnB, Q.suppName]; decide)
  have hskip : SkipFacts T e.platform s (fun u => u) u0 ((preparedCellV T.toThrowableT (freshCell P1.m.cls kX) a u0 sen).withEntry V.cur) :=
    ⟨{ ci198 := ci198, i198 := i198, fBack := fB }, ⟨hk198, hg198, ha198, hsB⟩, by
      have := fresh_default (c := P1.m.cls) tyB
      rw [htB] at this
      simpa [preparedCellV, Cell.setSlot, Cell.withEntry, Array.getElem?_setIfInBounds, bC, bS, bP, bC.symm, bS.symm, bP.symm, defaultValue] using this, fun _ _ => rfl⟩
  obtain ⟨tm, methC, cdC, kC, vm₁, hnC, -, -, -, -, -, -, -, hW₁, st1⟩ := Steps.initColdS (tb := p.tables) (e := e) (below := below) (s := s) (U := V) X.here hexec X.warmed hpl hown (t := Bundle.initS cls) rfl rfl (Bundle.fit_spec hcls).2
    (tl 0 _ rfl) (hP _ List.mem_cons_self) (bytes := bytes) (maxL := 2) (hP _ (List.mem_cons_of_mem _ List.mem_cons_self)) (f := g) hg (a := a) (msg := msg) (rest := .ref a :: rest) hstack hd6
  cases Option.some.inj (hnC.symm.trans hP1m)
  have X₁ := X.noted hW₁
  obtain ⟨vm₂, X₂, st2⟩ := X₁.ctorMessageOffV hexec (g := { g with stack := .ref a :: rest }) hg hsize T L Z LZ M LM (P1 :: P2 :: Ps)
    (fun P hP => by
      rcases List.mem_cons.mp hP with rfl | hP
      · exact L1
      · rcases List.mem_cons.mp hP with rfl | hP
        · exact L2
        · exact hL P hP) ⟨hlink1, hlink2, hlink⟩ (u0 := u0) (sen := sen) (self := a) hmsg (cell := freshCell P1.m.cls kX) (cellS := cellS)
    hcell (fun _ => by simp) (by simp) rfl rfl hsel0 hselF hcellS hneS hknownS (by rw [hkeep _ (hout' _)]; exact hu0) (by rw [hkeep _ (hout' _)]; exact hsen)
    (Takes.of_laid hk hord tyC (by rw [Q.causeType]; rfl)) (Takes.of_laid hk hord tyS (by rw [Q.stackType]; exact fits_refV_array _ u0)) (Takes.of_laid hk hord tyP (by rw [Q.suppType]; exact fits_refV_object _ sen))
    (Takes.of_laid hk hord tyM (by rw [Q.msgType]; exact fits_refV_object _ ⟨msg, hmsg⟩)) Q.objLocals hskip htr [] hd6
    (by simp only [List.length_cons, hlen]; omega) (by simp only [List.length_cons, hlen]; exact hlo)
  obtain ⟨hwalk, hrun, hended, hWU, hsame⟩ := X₂.athrowLeaves hexec (g := { g with stack := .ref a :: rest, pc := g.pc + 3 }) hg hlocked hentered hout (a := a) (rest := rest) rfl hd9
  have hlt : a < ((V.setVm vm₁).setVm vm₂).heap.size := (Array.getElem?_eq_some_iff.mp hcell).1
  have hU := heapAt_setCell_self (s := (V.setVm vm₁).setVm vm₂) (plainBareV T.toThrowableT (freshCell P1.m.cls kX) a u0 sen msg) hlt
  refine ⟨_, st1 _ (fun acts => ?_), hrun, hended, hWU, hsame.weaken (fun y hy hlt' => ?_) (Nat.le_refl _) (Nat.le_refl _), _, hU, hfound, rfl⟩
  · rw [doInvoke_state]
    exact st2 _ hwalk
  · rcases List.mem_append.mp hy with h1 | h1
    · exact h1
    · exfalso
      have hb : y.base = a := by
        simp only [List.mem_cons, List.not_mem_nil, or_false] at h1
        rcases h1 with rfl | rfl | rfl | rfl | rfl <;> rfl
      rw [hb] at hlt'
      exact Nat.not_lt.mpr hnew hlt'
end SMODD
/-- the words of a throw, of either form -/
def sm_atomsOf (own : String) (ic : Nat) (X : String) (names : List String) (G : Cond → Prop) : Prop := (∀ a ∈ Bundle.ownAtoms own ic X names, G a) ∨ ∃ (Y : String) (ns : List String) (ix : Nat) (bytes : ByteArray), names = Y :: ns ∧ decode bytes 0 = .ok (.aload_n 0, 1) ∧ decode bytes 1 = .ok (.aload_n 1, 1) ∧ decode bytes 2 = .ok (.invokespecial ix, 3) ∧ decode bytes 5 = .ok (.return_, 1) ∧ ∀ a ∈ sm_odd own ic X Y ix bytes ns, G a
theorem sm_atomsOf.mono {own : String} {ic : Nat} {X : String} {names : List String} {G G' : Cond → Prop} (h : sm_atomsOf own ic X names G) (hG : ∀ a, G a → G' a) : sm_atomsOf own ic X names G' := by
  rcases h with h | ⟨Y, ns, ix, bytes, h1, h2, h3, h4, h5, h6⟩
  · exact Or.inl fun a ha => hG a (h a ha)
  · exact Or.inr ⟨Y, ns, ix, bytes, h1, h2, h3, h4, h5, fun a ha => hG a (h6 a ha)⟩
end
section
/-! THROWS. A walk may be begun anew from where it stands: then nothing has been written yet. -/
section SMT
variable {p : Program} {l : Launch} {e : Env} {R : Room} {s : State} {m : MethodId} {args : Array Value} {below : List Frame} {meth : Method} {c : Code} {T : State} {locs : List Loc} {cells slots : Nat}
/-- the invocation, made anew in the state that is reached -/
def sm_anew (T : State) (m : MethodId) (args : Array Value) (below : List Frame) : State := T.setFrames (.invoking m args :: below)
theorem sm_rebase (X : Stand p l e R s m args below meth c T locs cells slots) (hcR : cells ≤ R.cells ∧ slots ≤ R.slots) : Stand p l e { R with cells := R.cells - cells, slots := R.slots - slots } (sm_anew T m args below) m args below meth c T [] 0 0 := by
  obtain ⟨g₀, hfr⟩ := X.frames_eq
  have hcur : T.cur < T.threads.size := State.cur_lt_of_frames hfr
  have hf : (sm_anew T m args below).frames = .invoking m args :: below := State.frames_setFrames _ hcur
  have hr := X.room
  have hme : (sm_anew T m args below).me.stackBytes = T.me.stackBytes := State.stackBytes_setFrames T _
  have hb0 : T.me.stackBytes = 0 := X.bytes.trans (State.hasRoom_plain hr)
  have hli : (sm_anew T m args below).localsInUse = s.localsInUse := by
    unfold State.localsInUse
    rw [hf, X.frames]
    show stackWeight _ + ((((T.vm.method? m).bind (·.code)).map (·.maxLocals)).getD 0 + 11) = stackWeight _ + ((((s.vm.method? m).bind (·.code)).map (·.maxLocals)).getD 0 + 11)
    rw [X.method', X.method]
  have h1 := State.hasRoom_heap hr
  have h2 := State.hasRoom_real hr
  have hsz := X.heapSize
  have hus := X.used
  have hst : s.frames.length + R.frames ≤ e.platform.maxFrames ∧ s.localsInUse + R.locals ≤ e.platform.maxStackSlots := by
    simp only [State.hasRoom, Bool.and_eq_true, decide_eq_true_eq] at hr
    exact ⟨hr.1.1.1.2.1, hr.1.1.1.2.2.2.1⟩
  refine ⟨X.admits, X.cas, X.clock, hf, ?_, ?_, X.method', X.code, X.here, X.tail, State.WarmedH.refl T, ?_, hme.symm, ?_⟩
  · refine State.hasRoom_of (hme.trans hb0) ?_ ?_ ?_ ?_ ?_ ?_
    · rw [hf, ← X.frames]; exact hst.1
    · rw [hli]; exact hst.2
    · show T.heap.size + (R.cells - cells) ≤ _
      omega
    · show T.slotsUsed + (R.slots - slots) ≤ _
      omega
    · exact X.book
    · rw [hli]; exact h2
  · have hh := X.hears
    have ha := X.warmed.alike
    cases below with
    | nil => exact (by simpa [State.hears, sm_anew, ha.method?] using hh)
    | cons f r =>
      cases f with
      | java g =>
        have e1 : (sm_anew T m args (.java g :: r)).code? g.method = s.code? g.method := by
          rw [State.code?_eq, State.code?_eq]
          show (T.vm.method? g.method).bind _ = _
          rw [ha.method?]
        simpa [State.hears, e1] using hh
      | _ => first | exact hh | (simpa [State.hears, sm_anew, ha.method?] using hh)
  · show e.platform.stackLimits T.me = e.platform.stackLimits (sm_anew T m args below).me
    rw [Platform.stackLimits_plain hb0, Platform.stackLimits_plain (hme.trans hb0)]
  · have hT : T.setVm (sm_anew T m args below).vm = T := State.setVm_self T
    rw [hT]
    have hd : (T.heap.toList.drop (sm_anew T m args below).heap.size) = [] := List.drop_eq_nil_of_le (by show T.heap.toList.length ≤ T.heap.size; simp)
    refine ⟨?_, Nat.le_refl _, Nat.le_refl _, ?_, ?_, ?_⟩
    · obtain ⟨t, ht, -⟩ := State.frames_cons hfr
      show T = ({ (T.setFrames _).setFrames T.frames with heap := T.heap, slotsUsed := T.slotsUsed } : State)
      rw [State.setFrames_setFrames, State.setFrames_self ht]
    · rw [hd]; rfl
    · rw [hd]; exact Nat.le_refl _
    · intro a c0 ha
      exact ⟨c0, ha, rfl, rfl, fun _ _ => rfl⟩
/-- a step of frames alone changes no words of the tables -/
theorem sm_anew_same {U : State} {L : List Loc} {k n : Nat} (X : Stand p l e R s m args below meth c T locs cells slots) (hB : (sm_anew T m args below).sameButNew ({ U with vm := (sm_anew T m args below).vm } : State) L k n) : s.sameButNew ({ U with vm := s.vm } : State) (locs ++ L) (cells + k) (slots + n) := by
  have hT : T.sameButNew ({ U with vm := T.vm } : State) L k n := by
    obtain ⟨h1, h2, h3, h4, h5, h6⟩ := hB
    refine ⟨?_, h2, h3, h4, h5, h6⟩
    have h1' : ({ U with vm := T.vm } : State) = ({ (T.setFrames (.invoking m args :: below)).setFrames U.frames with heap := U.heap, slotsUsed := U.slotsUsed } : State) := h1
    rw [State.setFrames_setFrames] at h1'
    exact h1'
  exact X.same.trans (hT.setVm s.vm)
/-- what holds when an exception of class X has been made and thrown out of the method -/
def sm_Thr (s : State) (below : List Frame) (X : String) (H : Heap) (locs : List Loc) (cells slots : Nat) (t : State) : Prop :=
  t.status = .running ∧ Ended t below (.threw H.size) ∧ s.WarmedH t.vm ∧ s.sameButNew ({ t with vm := s.vm } : State) locs (cells + 1) (slots + 6) ∧ t.heap.size = H.size + 1 ∧ (∀ q, q < H.size → t.heap[q]? = H[q]?) ∧ ∃ ce, t.heap[H.size]? = some ce ∧ s.vm.findClass X = some ce.cls ∧ ce.vm = .none
variable {H : Heap} {cc : ByteArray} {pc ix il ic : Nat} {LS : Array Slot} {st : List Value} {own X tx : String} {names : List String} {q : Nat} {Ts : List Cond}
theorem sm_ldcwS {Q : State → Prop} {rest : List Value} (hexec : p.tables.exec = Jvm.exec) (hb : c.code = cc) (hown : s.vm.findClass own = some m.cls) (hZ : vk_R own il tx q s) (hdg : decode cc pc = .ok (.ldc_w il, 3))
    (k : W p l e R s m args below meth c H locs cells slots Q (F0 m (pc + 3) LS (.ref q :: rest))) : W p l e R s m args below meth c H locs cells slots Q (F0 m pc LS rest) := by
  intro T hT X0
  obtain ⟨t, a1, b1⟩ := k T hT X0
  refine ⟨t, ?_, b1⟩
  obtain ⟨k, cf, i, a', hk, hcf, hcp, -, hr, hev'⟩ := Cond.stringRef_spec hown hZ.1
  cases hZ.2.symm.trans hev'
  obtain ⟨k', hk', he⟩ := X0.warmed.alike.2.2 _ _ hk
  have hr' : k'.resolved[il]? = some (some (.string q)) := by
    rcases X0.warmed.entry hk hk' il with h | ⟨h, -⟩
    · rw [h]; exact hr
    · rw [hr] at h; cases h
  have hdg' : decode c.code (F0 m pc LS rest).pc = .ok (.ldc_w il, 3) := by rw [hb]; exact hdg
  jvm_step X0.here [hexec, hdg', ldc_w.wp_string (e := e) (s := T) (f := F0 m pc LS rest) X0.here.top hk' (by rw [he]; exact hcf) hcp hr']
  exact a1
set_option maxHeartbeats 4000000 in
theorem sm_throwW {pi : Nat} (hexec : p.tables.exec = Jvm.exec) (htr : e.platform.stackTraces = false) (hb : c.code = cc) (hml : c.maxLocals = LS.size) (hlocks : meth.locks = false) (hnoh : c.exceptionTable.toList = []) (hown : s.vm.findClass own = some m.cls)
    (hts : ∀ w ∈ Ts, w.before args s = true) (hgw : ∀ w ∈ Ts, goodWord w = true)
    (h1 : Cond.classLink own ix X ∈ Ts) (h2 : Cond.instantiable X 6 ∈ Ts) (h3 : Cond.initialized X ∈ Ts) (hX1 : Bundle.fit X = true) (hX2 : ∀ n ∈ names, Bundle.fit n = true)
    (hat : sm_atomsOf own ic X names (fun a => a ∈ Ts ∨ ∀ U : State, s.WarmedH U.vm → U.heap = H → a.before args U = true))
    (hstr : vk_R own il tx q s) (hroom : cells + 1 ≤ R.cells ∧ slots + 6 ≤ R.slots) (hfr : names.length + 3 < R.frames) (hlo : (st.map fun v => v.category).sum + (13 * (names.length + 1) + 43) ≤ R.locals)
    (d0 : decode cc pc = .ok (.new ix, 3)) (d1 : decode cc (pc + 3) = .ok (.dup, 1)) (d2 : (decode cc (pc + 4) = .ok (.ldc il, 2) ∧ pi = pc + 6) ∨ (decode cc (pc + 4) = .ok (.ldc_w il, 3) ∧ pi = pc + 7)) (d3 : decode cc pi = .ok (.invokespecial ic, 3)) (d4 : decode cc (pi + 3) = .ok (.athrow, 1)) :
    W p l e R s m args below meth c H locs cells slots (sm_Thr s below X H locs cells slots) (F0 m pc LS st) := by
  intro T hT X0
  subst hT
  have X1 := sm_rebase X0 ⟨by omega, by omega⟩
  have hW : s.WarmedH (sm_anew T m args below).vm := X0.warmed
  have hwd : ∀ w ∈ Ts, w.before args (sm_anew T m args below) = true := fun w hw => word_at hW (good_of_word (hgw w hw)) (hts w hw)
  have hown' : (sm_anew T m args below).vm.findClass own = some m.cls := by rw [hW.alike.findClass]; exact hown
  obtain ⟨cX, kX, hfX, hkX, -⟩ := Cond.instantiable_spec (hwd _ h2)
  have hW2 : W p l e { R with cells := R.cells - cells, slots := R.slots - slots } (sm_anew T m args below) m args below meth c T.heap [] 0 0 (fun t => t.status = .running ∧ Ended t below (.threw T.heap.size) ∧ (sm_anew T m args below).WarmedH t.vm ∧ (sm_anew T m args below).sameButNew ({ t with vm := (sm_anew T m args below).vm } : State) [] 1 6 ∧ ∃ ce, t.heap[T.heap.size]? = some ce ∧ (sm_anew T m args below).vm.findClass X = some ce.cls ∧ ce.vm = .none) (F0 m pc LS st) := by
    refine W.newcK hexec hb hown' (hwd _ h1) (hwd _ h2) (hwd _ h3) rfl d0 (by show 0 + 1 ≤ R.cells - cells; omega) (by show 0 + 6 ≤ R.slots - slots; omega) hfX rfl fun H1 kC hkC e1 z o => ?_
    refine lv_dup hexec hb d1 rfl ?_
    have hfin : W p l e { R with cells := R.cells - cells, slots := R.slots - slots } (sm_anew T m args below) m args below meth c H1 [] (0 + 1) (0 + 6) (fun t => t.status = .running ∧ Ended t below (.threw T.heap.size) ∧ (sm_anew T m args below).WarmedH t.vm ∧ (sm_anew T m args below).sameButNew ({ t with vm := (sm_anew T m args below).vm } : State) [] 1 6 ∧ ∃ ce, t.heap[T.heap.size]? = some ce ∧ (sm_anew T m args below).vm.findClass X = some ce.cls ∧ ce.vm = .none) (F0 m pi LS (.ref q :: .ref T.heap.size :: .ref T.heap.size :: st)) := by
      intro T2 hT2 X2
      rcases hat with hat | ⟨Y0, ns, ix2, by2, rfl, b0, b1, b2, b5, hat⟩
      · obtain ⟨U, u1, u2, u3, u4, u5, ce, u6, u7⟩ := X2.ctorThrowS hexec htr (own := own) (cls := X) (names := names) (ic := ic) hown' hX1 hX2 (fun a ha => by
            rcases hat a ha with h | h
            · exact hwd a h
            · exact h (sm_anew T m args below) hW rfl) (fun x hx => by cases hx) (a := T.heap.size) hfX hkC (by rw [hT2]; exact e1) (Nat.le_refl _) (msg := .ref q) rfl (g := F0 m pi LS (.ref q :: .ref T.heap.size :: .ref T.heap.size :: st)) rfl (by rw [hml]) rfl rfl (rest := st) rfl (by rw [hb]; exact d3) (by rw [hb]; exact d4) (by rw [hnoh]; exact fun x hx => by cases hx) hfr (by show 2 * 0 + (1 + (st.map fun v => v.category).sum) + _ ≤ R.locals; omega) hlocks
        exact ⟨U, u1, u2, u3, u4, u5, ce, u6, u7.cls, u7.vm⟩
      · have hll : (Y0 :: ns).length = ns.length + 1 := List.length_cons
        exact sm_oddCtor X2 hexec htr (own := own) (cls := X) (names := ns) (ic := ic) hown' hX1 (hX2 _ List.mem_cons_self) (fun n hn => hX2 n (List.mem_cons_of_mem _ hn)) (fun a ha => by
            rcases hat a ha with h | h
            · exact hwd a h
            · exact h (sm_anew T m args below) hW rfl) b0 b1 b2 b5 (fun x hx => by cases hx) (a := T.heap.size) hfX hkC (by rw [hT2]; exact e1) (Nat.le_refl _) (msg := .ref q) rfl (g := F0 m pi LS (.ref q :: .ref T.heap.size :: .ref T.heap.size :: st)) rfl (by rw [hml]) rfl rfl (rest := st) rfl (by rw [hb]; exact d3) (by rw [hb]; exact d4) (by rw [hnoh]; exact fun x hx => by cases hx) hfr (by show 2 * 0 + (1 + (st.map fun v => v.category).sum) + _ ≤ R.locals; omega) hlocks
    rcases d2 with ⟨d2, e0⟩ | ⟨d2, e0⟩
    · subst e0
      exact va_ldcS hexec hb hown' (vk_R.warm hW hstr) d2 hfin
    · subst e0
      exact sm_ldcwS hexec hb hown' (vk_R.warm hW hstr) d2 hfin
  obtain ⟨t, t1, t2, t3, t4, t5, ce, t6, t7, t8⟩ := hW2 T rfl X1
  have hlt : T.heap.size < t.heap.size := (Array.getElem?_eq_some_iff.mp t6).1
  have hle : t.heap.size ≤ T.heap.size + 1 := t5.2.2.1
  refine ⟨t, t1, t2, t3, X0.warmed.trans t4, ?_, by omega, fun q hq => ?_, ce, t6, by rw [← hW.alike.findClass]; exact t7, t8⟩
  · have := sm_anew_same X0 t5
    rw [List.append_nil] at this
    exact this
  · have hq2 : T.heap[q]? = some T.heap[q] := Array.getElem?_eq_getElem hq
    obtain ⟨c', w1, w2, w3, w4⟩ := t5.2.2.2.2.2 q _ hq2
    have w1' : t.heap[q]? = some c' := w1
    rw [w1', hq2]
    have e2 : c'.slots = T.heap[q].slots := by
      apply Array.ext_getElem?
      intro i
      exact w4 i (fun hx => by cases hx)
    rw [w2, e2]
end SMT
end
section
/-! RUNS THAT THROW. -/
section SMU
variable {l : Launch} {D : va_G} {cl : List vw_C} {tys : List (ClassId × FieldType)} {N0 : Nat} {cs : Nat → Nat} {Ts : List Cond} {sx : List (String × Nat × String × Nat)} {zx : List (String × String × String × Nat)} {oc : (List (Nat × Nat × String × String × String × Value) × List (String × Nat × MethodName × String))} {K : sm_H} {Y : Nat → sm_Y} {P : Nat → Option sm_M}
variable {p : Program} {e : Env} {R : Room} {s : State} {m : MethodId} {args : Array Value} {below : List Frame} {meth : Method} {c : Code} {H : Heap} {locs : List Loc} {cells slots : Nat} {Q : State → Prop}
set_option maxHeartbeats 4000000 in
/-- a call that returns, in any walk -/
theorem sm_callW (hG : sm_Good Ts sx zx oc K cl Y P) (hgw : ∀ w ∈ Ts, goodWord w = true) (hT : sm_T tys) {own : String} {cc : ByteArray} {nl n d m1 nl1 k1 pc len : Nat} {tab1 : List (Option sm_I)} {i : Instr} {rs : List Nat} {ls : sm_L} {st as r : List Value} {h h1 : sm_H} {v1 : Option Value} {LS : Array Slot}
    (hx : p.tables.exec = Jvm.exec) (hb : c.code = cc) (hml : c.maxLocals = nl) (hown : s.vm.findClass own = some m.cls) (hts : ∀ w ∈ Ts, w.before args s = true) (hK : va_K D cl tys s) (hS : sm_X cl K sx zx oc N0 cs s)
    (hP : sm_P D cl tys N0 cs K h H) (hsz : LS.size = nl) (hF : ∀ q, q < N0 → H[q]? = s.heap[q]?) (hlocs : ∀ x ∈ locs, N0 ≤ x.base)
    (d1 : decode cc pc = .ok (i, len)) (d2 : sm_lenOk i len = true) (d4 : sm_okC Ts oc cl Y own i rs) (hs : sm_step (i, len, rs) pc ls st h = some (.inr (.inr (m1, as, r))))
    (hM1 : P m1 = some (nl1, k1, tab1)) (hc1 : (sm_slots as).length ≤ nl1) (hc2 : (r.map fun v => v.category).sum ≤ 8) (hcall : sm_run P n d m1 0 (sm_entry nl1 as) [] h = some (v1, h1))
    (hfr : d + 3 ≤ R.frames) (hlo : 64 * d + 128 ≤ R.locals) (hroomC : cells + (h1.length - h.length) ≤ R.cells ∧ slots + (sm_sl h1 - sm_sl h) ≤ R.slots)
    (kk : ∀ (H1 : Heap) (locs1 : List Loc), sm_P D cl tys N0 cs K h1 H1 → (∀ q, q < N0 → H1[q]? = H[q]?) → (∀ x ∈ locs1, N0 ≤ x.base) →
      W p l e R s m args below meth c H1 locs1 (cells + (h1.length - h.length)) (slots + (sm_sl h1 - sm_sl h)) Q (F0 m (pc + 3) LS ((sm_back v1 r).map (sm_mv (sm_ad N0 cs))))) :
    W p l e R s m args below meth c H locs cells slots Q (F0 m pc LS (st.map (sm_mv (sm_ad N0 cs)))) := by
  obtain ⟨q1, q2, q3, q4, -, -⟩ := hG m1 _ hM1
  dsimp only at q1 q4
  have hMet := sm_metof (l := l) (D := D) (tys := tys) (N0 := N0) (cs := cs) (as := as) (sm_sound hG hgw hT n) hG hM1 hcall hc1
  have hgi := sm_goodIn hgw q1
  have hroom : (sm_room d (h1.length - h.length) (sm_sl h1 - sm_sl h)).frames + 1 ≤ R.frames ∧ 8 + (nl1 + 11) + (sm_room d (h1.length - h.length) (sm_sl h1 - sm_sl h)).locals ≤ R.locals := ⟨by show d + 2 + 1 ≤ _; omega, by show 8 + (nl1 + 11) + (64 * d + 64) ≤ _; omega⟩
  have hpre : ∀ U : State, U.heap = H → s.WarmedH U.vm → sm_Pc D cl tys sx zx oc K N0 cs as h (as.map (sm_mv (sm_ad N0 cs))).toArray U := fun U hU hW => ⟨rfl, by rw [hU]; exact hP, va_K.moved hW.alike hK, hS.at_ hW (fun q hq => by rw [hU]; exact hF q hq)⟩
  have hfix : CallFix p m c cc nl s args Ts own := ⟨hx, hb, hml, hown, hts⟩
  have goOn : ∀ (a : Array Value), va_Run p l e R s m args below meth c H locs cells slots (h1.length - h.length) (sm_sl h1 - sm_sl h) (F0 m pc LS (st.map (sm_mv (sm_ad N0 cs)))) (r.map (sm_mv (sm_ad N0 cs))) (sm_Qc D cl tys N0 cs K v1 h1 a) (fun q => N0 ≤ q) →
      W p l e R s m args below meth c H locs cells slots Q (F0 m pc LS (st.map (sm_mv (sm_ad N0 cs)))) := by
    intro a hrun
    refine sm_after hrun hlocs fun H1 locs1 hP1 hF1 hl1 => ?_
    rw [← sm_back_eq]
    exact kk H1 locs1 hP1 hF1 hl1
  rcases sm_call_inv hs with ⟨idx, k, n1, rfl, rfl, ha⟩ | ⟨idx, k, n1, b, bs, rfl, rfl, ha, rfl⟩ | ⟨idx, k, n1, ps, b, bs, ci, fs, rfl, rfl, ha, rfl, hbc, hpk⟩
  · simp only [sm_lenOk, beq_iff_eq] at d2
    subst d2
    obtain ⟨w1, w2, w3, w4⟩ := d4
    obtain ⟨ea, el⟩ := sm_args_inv ha
    have hst : (st.map (sm_mv (sm_ad N0 cs))) = (as.map (sm_mv (sm_ad N0 cs))).reverse ++ r.map (sm_mv (sm_ad N0 cs)) := by rw [ea, List.map_append, List.map_reverse]
    rcases w4 with w4 | ⟨host, w4⟩
    · exact goOn _ (va_runS (As := as.map (sm_mv (sm_ad N0 cs))) hfix hMet ⟨callB_of n1 hts hgi rfl rfl rfl (hts _ w2) (hts _ w4) ⟨q3.1, q3.2, w3⟩ hroom, hts _ w1⟩ ⟨sm_blind, hpre⟩ rfl (by rw [List.length_map]; exact el) hsz hst (sm_catsum hc2) d1 hroomC)
    · exact goOn _ (va_runSN (As := as.map (sm_mv (sm_ad N0 cs))) hfix hMet ⟨va_cnB n1 hts hgi rfl rfl rfl (hS.2.2.2.1 _ w4) (hts _ w2) ⟨q3.1, q3.2, w3⟩ hroom, hts _ w1, trivial⟩ ⟨sm_blind, hpre⟩ rfl (by rw [List.length_map]; exact el) hsz hst (sm_catsum hc2) d1 hroomC)
  · simp only [sm_lenOk, beq_iff_eq] at d2
    subst d2
    obtain ⟨w0, w1, w2, w3, ⟨k2, rfl, w4⟩, w5⟩ := d4
    obtain ⟨ea, el⟩ := sm_args_inv ha
    have hst : (st.map (sm_mv (sm_ad N0 cs))) = (bs.map (sm_mv (sm_ad N0 cs))).reverse ++ .ref (sm_ad N0 cs b) :: r.map (sm_mv (sm_ad N0 cs)) := by rw [ea]; simp [sm_mv]
    rw [w1] at hMet hgi
    rcases w5 with w5 | ⟨host, w5⟩
    · exact goOn _ (va_runI (As := bs.map (sm_mv (sm_ad N0 cs))) hfix hMet ⟨callB_of k2 hts hgi rfl rfl rfl (hts _ w3) (hts _ w5) ⟨q3.1, q3.2, w4⟩ hroom, w0, hts _ w2⟩ ⟨sm_blind, hpre⟩ rfl (by rw [List.length_map]; simpa using el) hsz hst (sm_catsum hc2) d1 hroomC)
    · exact goOn _ (va_runIN (As := bs.map (sm_mv (sm_ad N0 cs))) hfix hMet ⟨va_cnB k2 hts hgi rfl rfl rfl (hS.2.2.2.1 _ w5) (hts _ w3) ⟨q3.1, q3.2, w4⟩ hroom, w0, hts _ w2⟩ ⟨sm_blind, hpre⟩ rfl (by rw [List.length_map]; simpa using el) hsz hst (sm_catsum hc2) d1 hroomC)
  · simp only [sm_lenOk, beq_iff_eq] at d2
    subst d2
    obtain ⟨C, w1, w2, w3, w4⟩ := d4 ci m1 hpk
    obtain ⟨ea, el⟩ := sm_args_inv ha
    have hst : (st.map (sm_mv (sm_ad N0 cs))) = (bs.map (sm_mv (sm_ad N0 cs))).reverse ++ .ref (sm_ad N0 cs b) :: r.map (sm_mv (sm_ad N0 cs)) := by rw [ea]; simp [sm_mv]
    have hrc := sm_recv hP hS.2.2.2.2.2 hF hK hbc w1
    have hel : (bs.map (sm_mv (sm_ad N0 cs))).length = n1 := by rw [List.length_map]; simpa using el
    rcases w4 with ⟨u1, u2, u3⟩ | ⟨host, u1, u2, u3⟩ | ⟨x, owner, u1, u2, u3, u4, u5, u6⟩
    · exact goOn _ (va_runV (C := C) (As := bs.map (sm_mv (sm_ad N0 cs))) hfix hMet ⟨callB_of n1 hts hgi rfl rfl rfl (hts _ w3) (hts _ u1) ⟨q3.1, q3.2, u3⟩ hroom, hts _ w2, hts _ u2⟩ ⟨sm_blind, hrc, hpre⟩ rfl hel hsz hst (sm_catsum hc2) d1 hroomC)
    · exact goOn _ (va_runVN (C := C) (As := bs.map (sm_mv (sm_ad N0 cs))) hfix hMet ⟨va_cnB n1 hts hgi rfl rfl rfl (hS.2.2.2.1 _ u1) (hts _ w3) ⟨q3.1, q3.2, u3⟩ hroom, hts _ w2, hts _ u2⟩ ⟨sm_blind, hrc, hpre⟩ rfl hel hsz hst (sm_catsum hc2) d1 hroomC)
    · have hdecl : va_Decl s ⟨owner, x.name, x.desc⟩ := by
        rcases u6 with u6 | ⟨u6, b0, m0, r0, u7⟩
        · exact va_Decl.abs (va_Nw.of rfl (hts _ u6))
        · exact va_Decl.of (hts _ u6) (hts _ u7)
      exact goOn _ (va_runU (C := C) (As := bs.map (sm_mv (sm_ad N0 cs))) hfix hMet ⟨⟨rfl, rfl, hroom.1, hroom.2, pay_in hts hgi, List.mem_cons_self⟩, hts _ q1, hts _ w3, u3, (fun sig hsig => by have h2 := u5; unfold sm_par at h2; rw [hsig] at h2; exact (Option.some.inj h2).symm), hts _ u1, hts _ u2, hdecl, hts _ u4, hts _ w2⟩ ⟨sm_blind, hrc, hpre⟩ rfl hel hsz hst (sm_catsum hc2) d1 hroomC)
end SMU
end
section
/-! A run of a method that ends in 'throw new ..' -/
def sm_thr (q : sm_I) : Option Nat := match q with
  | (.new _, _, [a, x]) => if a = 1000 then some x else none
  | _ => none
/-- the cell of an exception of class number x -/
def sm_exc (x : Nat) : sm_E := .inr (x, List.replicate 6 .null)
def sm_runT (P : Nat → Option sm_M) : Nat → Nat → Nat → Nat → sm_L → List Value → sm_H → Option (Nat × sm_H)
  | 0, _, _, _, _, _, _ => none
  | n + 1, d, m, pc, ls, st, h => match P m with
    | none => none
    | some (_, _, tab) => match tab[pc]? with
      | some (some q) => match sm_thr q with
        | some x => if st = [] then some (x, h ++ [sm_exc x]) else none
        | none => match sm_step q pc ls st h with
          | some (.inl (pc', ls', st', h')) => sm_runT P n d m pc' ls' st' h'
          | some (.inr (.inl _)) => none
          | some (.inr (.inr (m', as, r))) => match d, P m' with
            | d' + 1, some (nl, _, _) => if (sm_slots as).length ≤ nl ∧ (r.map fun v => v.category).sum ≤ 8 then (match sm_run P n d' m' 0 (sm_entry nl as) [] h with
              | some (v, h') => sm_runT P n d m (pc + 3) ls (sm_back v r) h'
              | none => none) else none
            | _, _ => none
          | none => none
      | _ => none
theorem sm_runT_mono {P : Nat → Option sm_M} : ∀ (n d m pc : Nat) (ls : sm_L) (st : List Value) (h : sm_H) (x : Nat) (h' : sm_H), sm_runT P n d m pc ls st h = some (x, h') → h.length ≤ h'.length ∧ sm_sl h ≤ sm_sl h' := by
  intro n
  induction n with
  | zero => intro d m pc ls st h v h' hr; simp [sm_runT] at hr
  | succ n ih =>
    intro d m pc ls st h v h' hr
    unfold sm_runT at hr
    split at hr
    · cases hr
    · split at hr
      · split at hr
        · split at hr
          · cases hr; exact ⟨by simp, by rw [sm_sl_app]; exact Nat.le_add_right _ _⟩
          · cases hr
        · split at hr
          · next hs =>
            have h1 := sm_step_mono hs
            have h2 := ih _ _ _ _ _ _ _ _ hr
            exact ⟨Nat.le_trans h1.1 h2.1, Nat.le_trans h1.2 h2.2⟩
          · cases hr
          · split at hr
            · split at hr
              · split at hr
                · next hc =>
                  have g1 := sm_run_mono _ _ _ _ _ _ _ _ _ hc
                  have g2 := ih _ _ _ _ _ _ _ _ hr
                  exact ⟨Nat.le_trans g1.1 g2.1, Nat.le_trans g1.2 g2.2⟩
                · cases hr
              · cases hr
            · cases hr
          · cases hr
      · cases hr
/-- what the tables must hold of 'throw new ..' at a place; ex: words that hold in every later state -/
def sm_okT (Ts : List Cond) (sx : List (String × Nat × String × Nat)) (ex : List Cond) (cl : List vw_C) (own : String) (bytes : ByteArray) (pc ix x : Nat) : Prop :=
  ∃ (X tx : String) (T : u_T) (il ic n pi : Nat) (names : List String), cl[x]? = some (X, T, 0) ∧ Cond.classLink own ix X ∈ Ts ∧ Cond.instantiable X 6 ∈ Ts ∧ Cond.initialized X ∈ Ts ∧ Bundle.fit X = true ∧ (∀ n ∈ names, Bundle.fit n = true) ∧ names.length ≤ 3 ∧
    sm_atomsOf own ic X names (fun a => a ∈ Ts ∨ a ∈ ex) ∧ (own, il, tx, n) ∈ sx ∧ decode bytes (pc + 3) = .ok (.dup, 1) ∧ ((decode bytes (pc + 4) = .ok (.ldc il, 2) ∧ pi = pc + 6) ∨ (decode bytes (pc + 4) = .ok (.ldc_w il, 3) ∧ pi = pc + 7)) ∧ decode bytes pi = .ok (.invokespecial ic, 3) ∧ decode bytes (pi + 3) = .ok (.athrow, 1)
/-- words that stay as long as the statics' cells stay -/
def sm_Ex (ex : List Cond) (N0 : Nat) (s : State) : Prop := ∀ a ∈ ex, ∀ (v : Array Value) (U : State), s.WarmedH U.vm → (∀ q, q < N0 → U.heap[q]? = s.heap[q]?) → a.before v U = true
theorem sm_Ex.at_ {ex : List Cond} {N0 : Nat} {s U : State} (h : sm_Ex ex N0 s) (hW : s.WarmedH U.vm) (hF : ∀ q, q < N0 → U.heap[q]? = s.heap[q]?) : sm_Ex ex N0 U := fun a ha v V h1 h2 => h a ha v V (hW.trans h1) (fun q hq => (h2 q hq).trans (hF q hq))
def sm_roomT (d mc ms : Nat) : Room := { frames := d + 8, cells := mc, slots := ms, locals := 64 * d + 160 }
section SMV
variable {l : Launch} {D : va_G} {cl : List vw_C} {tys : List (ClassId × FieldType)} {N0 : Nat} {cs : Nat → Nat} {Ts : List Cond} {sx : List (String × Nat × String × Nat)} {zx : List (String × String × String × Nat)} {oc : (List (Nat × Nat × String × String × String × Value) × List (String × Nat × MethodName × String))} {K : sm_H} {Y : Nat → sm_Y} {P : Nat → Option sm_M} {ex : List Cond}
/-- what holds when a method has thrown -/
def sm_QT (D : va_G) (cl : List vw_C) (tys : List (ClassId × FieldType)) (N0 : Nat) (cs : Nat → Nat) (K : sm_H) (s : State) (below : List Frame) (h : sm_H) (mc ms : Nat) (t : State) : Prop :=
  t.status = .running ∧ Ended t below (.threw (sm_ad N0 cs (h.length - 1))) ∧ s.WarmedH t.vm ∧ (∃ L, s.sameButNew ({ t with vm := s.vm } : State) L mc ms ∧ ∀ q ∈ L, N0 ≤ q.base) ∧ sm_P D cl tys N0 cs K h t.heap ∧ ∀ q, q < N0 → t.heap[q]? = s.heap[q]?
set_option maxHeartbeats 4000000 in
theorem sm_soundT (hG : sm_Good Ts sx zx oc K cl Y P) (hgw : ∀ w ∈ Ts, goodWord w = true) (hT : sm_T tys) (hfl : l.flags = pinnedFlags ++ [noTraceFlag])
    (hGT : ∀ mi M pc q x, P mi = some M → M.2.2[pc]? = some (some q) → sm_thr q = some x → ∃ ix, q.1 = .new ix ∧ sm_okT Ts sx ex cl (Y mi).1.cls (Y mi).2.1 pc ix x) : ∀ (n d mi pc : Nat) (ls : sm_L) (st : List Value) (h : sm_H) (x : Nat) (h' : sm_H) (M : sm_M), P mi = some M → sm_runT P n d mi pc ls st h = some (x, h') → ls.length = M.1 →
  ∀ (p : Program) (e : Env) (s : State) (m : MethodId) (args : Array Value) (below : List Frame) (meth : Method) (c : Code) (H : Heap) (locs : List Loc) (LS : Array Slot) (h0 : sm_H), p.tables.exec = Jvm.exec → c.code = (Y mi).2.1 → c.maxLocals = M.1 → c.exceptionTable.toList = [] → s.vm.findClass (Y mi).1.cls = some m.cls → meth.name = (Y mi).1.name → (∀ w ∈ Ts, w.before args s = true) → sm_Ex ex N0 s → meth.locks = false → va_K D cl tys s → sm_X cl K sx zx oc N0 cs s →
    sm_P D cl tys N0 cs K h H → sm_LR (sm_ad N0 cs) ls LS → (∀ q, q < N0 → H[q]? = s.heap[q]?) → s.heap.size ≤ H.size → (∀ x ∈ locs, N0 ≤ x.base) → h0.length ≤ h.length → sm_sl h0 ≤ sm_sl h →
    W p l e (sm_roomT d (h'.length - h0.length) (sm_sl h' - sm_sl h0)) s m args below meth c H locs (h.length - h0.length) (sm_sl h - sm_sl h0) (sm_QT D cl tys N0 cs K s below h' (h'.length - h0.length) (sm_sl h' - sm_sl h0)) (F0 m pc LS (st.map (sm_mv (sm_ad N0 cs)))) := by
  intro n
  induction n with
  | zero => intro d mi pc ls st h v h' M hM hr; simp [sm_runT] at hr
  | succ n ih =>
    intro d mi pc ls st h x h' M hM hr hlen p e s m args below meth c H locs LS h0 hx hb hml hnoh hown hmn hts hEx hlocks hK hS hP hL hF hZ0 hlocs hz1 hz2
    obtain ⟨g1, g2, g3, g4, g5, g6⟩ := hG mi M hM
    have hgt := hGT mi M pc
    obtain ⟨nl, kr, tab⟩ := M
    unfold sm_runT at hr
    rw [hM] at hr
    dsimp only at hr hlen hml g1 g4 g5 g6 hgt
    split at hr
    · next q hq =>
      obtain ⟨d1, d2, d3, d4⟩ := g6 pc q hq
      split at hr
      · next x1 hthr =>
        obtain ⟨ix, hqi, X, tx, TX, il, ic, nn, pi, names, o1, o2, o3, o4, o5, o6, o7, o8, o9, o10, o11, o12, o13⟩ := hgt q x1 hM hq hthr
        split at hr
        · next hst =>
          cases hr
          subst hst
          obtain ⟨i, len, rs⟩ := q
          dsimp only at d1 d2 hqi
          subst hqi
          simp only [sm_lenOk, beq_iff_eq] at d2
          subst d2
          have hsl : sm_sl (h ++ [sm_exc x]) = sm_sl h + 6 := by rw [sm_sl_app]; simp [sm_exc, sm_sz]
          have hln : (h ++ [sm_exc x]).length = h.length + 1 := by simp
          intro T hT2 X0
          have htr := Launch.traces_off hfl X0.admits
          have hW := sm_throwW (X := X) (tx := tx) (names := names) (Ts := Ts) (st := []) (pi := pi) (H := H) (locs := locs) (cells := h.length - h0.length) (slots := sm_sl h - sm_sl h0) (R := sm_roomT d ((h ++ [sm_exc x]).length - h0.length) (sm_sl (h ++ [sm_exc x]) - sm_sl h0)) (p := p) (l := l) (e := e) (s := s) (m := m) (args := args) (below := below) (meth := meth) (c := c) (LS := LS) (pc := pc) (cc := (Y mi).2.1) hx htr hb (by rw [hml, ← hlen, hL.1]) hlocks hnoh hown hts hgw o2 o3 o4 o5 o6 (o8.mono (fun a ha => by
              rcases ha with z | z
              · exact Or.inl z
              · exact Or.inr (fun U hU1 hU2 => hEx a z args U hU1 (fun q hq => by rw [hU2]; exact hF q hq)))) (hS.1 _ o9) ⟨by show _ ≤ (h ++ [sm_exc x]).length - h0.length; omega, by show _ ≤ sm_sl (h ++ [sm_exc x]) - sm_sl h0; omega⟩ (by show names.length + 3 < d + 8; omega) (by show 0 + _ ≤ 64 * d + 160; omega) d1 o10 o11 o12 o13
          obtain ⟨t, t1, t2⟩ := hW T hT2 X0
          refine ⟨t, t1, ?_⟩
          obtain ⟨u1, u2, u3, u4, u5, u6, ce, u7, u8, u9⟩ := t2
          have hPs := hP.1
          have hPl := hP.2.1
          have hnew : sm_P D cl tys N0 cs K (h ++ [sm_exc x]) t.heap := by
            refine hP.make ⟨_, o1, ce, u7, ?_, u9, fun k hk => absurd hk (Nat.not_lt_zero k)⟩ u5 u6
            exact Option.some.inj (u8.symm.trans (hK.1 x _ o1).2.1)
          refine ⟨u1, ?_, u3, ⟨locs, ?_, hlocs⟩, hnew, fun q hq => (u6 q (by omega)).trans (hF q hq)⟩
          · rw [hln, Nat.add_sub_cancel, sm_ad_ge hPl, show N0 + (h.length - sm_C) = H.size by omega]
            exact u2
          · rw [hln, hsl]
            have e1 : h.length - h0.length + 1 = h.length + 1 - h0.length := by omega
            have e2 : sm_sl h - sm_sl h0 + 6 = sm_sl h + 6 - sm_sl h0 := by omega
            rw [e1, e2] at u4
            exact u4
        · cases hr
      · obtain ⟨i, len, rs⟩ := q
        dsimp only at d1 d2 d3 d4
        split at hr
        · next pc1 ls1 st1 h1 hs =>
          have hm1 := sm_step_mono hs
          have hm2 := sm_runT_mono _ _ _ _ _ _ _ _ _ hr
          refine sm_next (h' := h1) hx hb hts hown hK hT hS hF hZ0 (by rw [hmn]; exact d3) d2 d1 hP hL hlocs ⟨by show 2 ≤ d + 8; omega, by show 43 ≤ 64 * d + 160; omega⟩ (by rw [hml, hlen]) ⟨by show _ ≤ h'.length - h0.length; omega, by show _ ≤ sm_sl h' - sm_sl h0; omega⟩ hs ?_
          intro H' locs' LS' hP' hL' hF' hlocs'
          have e1 : h.length - h0.length + (h1.length - h.length) = h1.length - h0.length := by omega
          have e2 : sm_sl h - sm_sl h0 + (sm_sl h1 - sm_sl h) = sm_sl h1 - sm_sl h0 := by omega
          rw [e1, e2]
          exact ih d mi pc1 ls1 st1 h1 x h' _ hM hr (by rw [sm_step_len hs]; exact hlen) p e s m args below meth c H' locs' LS' h0 hx hb hml hnoh hown hmn hts hEx hlocks hK hS hP' hL' (fun q hq => (hF' q hq).trans (hF q hq)) (by have z1 := hP.1; have z2 := hP'.1; omega) hlocs' (by omega) (by omega)
        · cases hr
        · next m1 as r hs =>
          split at hr
          · next d1' nl1 k1 tab1 hM1 =>
            split at hr
            · next hc =>
              obtain ⟨hc1, hc2⟩ := hc
              split at hr
              · next v1 h1 hcall =>
                have hm1 := sm_run_mono _ _ _ _ _ _ _ _ _ hcall
                have hm2 := sm_runT_mono _ _ _ _ _ _ _ _ _ hr
                refine sm_callW hG hgw hT hx hb hml hown hts hK hS hP (hL.1.trans hlen) hF hlocs d1 d2 d4 hs hM1 hc1 hc2 hcall (by show d1' + 3 ≤ d1' + 1 + 8; omega) (by show 64 * d1' + 128 ≤ 64 * (d1' + 1) + 160; omega) ⟨by show _ ≤ h'.length - h0.length; omega, by show _ ≤ sm_sl h' - sm_sl h0; omega⟩ ?_
                intro H1 locs1 hP1 hF1 hl1
                have e1 : h.length - h0.length + (h1.length - h.length) = h1.length - h0.length := by omega
                have e2 : sm_sl h - sm_sl h0 + (sm_sl h1 - sm_sl h) = sm_sl h1 - sm_sl h0 := by omega
                rw [e1, e2]
                exact ih (d1' + 1) mi (pc + 3) ls (sm_back v1 r) h1 x h' _ hM hr hlen p e s m args below meth c H1 locs1 LS h0 hx hb hml hnoh hown hmn hts hEx hlocks hK hS hP1 hL (fun q hq => (hF1 q hq).trans (hF q hq)) (by have z1 := hP.1; have z2 := hP1.1; omega) hl1 (by omega) (by omega)
              · cases hr
            · cases hr
          · cases hr
        · cases hr
    · cases hr
end SMV
end
section
/-! A CALL THAT THROWS, AND THE CATCH. -/
section SMC
variable {l : Launch} {D : va_G} {cl : List vw_C} {tys : List (ClassId × FieldType)} {N0 : Nat} {cs : Nat → Nat} {Ts : List Cond} {sx : List (String × Nat × String × Nat)} {zx : List (String × String × String × Nat)} {oc : (List (Nat × Nat × String × String × String × Value) × List (String × Nat × MethodName × String))} {K : sm_H} {Y : Nat → sm_Y} {P : Nat → Option sm_M} {ex : List Cond}
/-- a contract of a method that throws -/
def sm_MetT (l : Launch) (D : va_G) (cl : List vw_C) (tys : List (ClassId × FieldType)) (N0 : Nat) (cs : Nat → Nat) (K : sm_H) (y : MethodName) (ws : List Cond) (rm : Room) (Pc : Array Value → State → Prop) (h : sm_H) (mc ms : Nat) : Prop :=
  MetFree l y (headSpec ws rm) Pc (fun _ _ _ _ _ => True) (fun _ st o t => o = .threw (sm_ad N0 cs (h.length - 1)) ∧ st.WarmedH t.vm ∧ (∃ L, st.sameButNew ({ t with vm := st.vm } : State) L mc ms ∧ ∀ q ∈ L, N0 ≤ q.base) ∧ sm_P D cl tys N0 cs K h t.heap ∧ ∀ q, q < N0 → t.heap[q]? = st.heap[q]?)
/-- what a throwing method asks of its start -/
def sm_PcT (D : va_G) (cl : List vw_C) (tys : List (ClassId × FieldType)) (sx : List (String × Nat × String × Nat)) (zx : List (String × String × String × Nat)) (oc : (List (Nat × Nat × String × String × String × Value) × List (String × Nat × MethodName × String))) (K : sm_H) (ex : List Cond) (N0 : Nat) (cs : Nat → Nat) (as : List Value) (h : sm_H) : Array Value → State → Prop :=
  fun v U => sm_Pc D cl tys sx zx oc K N0 cs as h v U ∧ sm_Ex ex N0 U
theorem sm_metT (hG : sm_Good Ts sx zx oc K cl Y P) (hgw : ∀ w ∈ Ts, goodWord w = true) (hT : sm_T tys) (hfl : l.flags = pinnedFlags ++ [noTraceFlag])
    (hGT : ∀ mi M pc q x, P mi = some M → M.2.2[pc]? = some (some q) → sm_thr q = some x → ∃ ix, q.1 = .new ix ∧ sm_okT Ts sx ex cl (Y mi).1.cls (Y mi).2.1 pc ix x) {n d mi : Nat} {M : sm_M} {as : List Value} {h h' : sm_H} {x : Nat} (hM : P mi = some M) (hr : sm_runT P n d mi 0 (sm_entry M.1 as) [] h = some (x, h')) (hl : (sm_slots as).length ≤ M.1) :
    sm_MetT l D cl tys N0 cs K (Y mi).1 (Cond.code (Y mi).1 (Y mi).2.1 M.1 (Y mi).2.2 :: Ts) (sm_roomT d (h'.length - h.length) (sm_sl h' - sm_sl h)) (sm_PcT D cl tys sx zx oc K ex N0 cs as h) h' (h'.length - h.length) (sm_sl h' - sm_sl h) := by
  obtain ⟨-, g2, -⟩ := hG mi M hM
  refine MetFree.of_bodyS (code := (Y mi).2.1) (maxLocals := M.1) (ret := (Y mi).2.2) g2 ?_ ?_
  · intro args s m h hn
    obtain ⟨meth, c, h1, h2, h3, h4, h5, h6, -, -⟩ := Cond.code_spec hn (atoms_spec (ws := Cond.code (Y mi).1 (Y mi).2.1 M.1 (Y mi).2.2 :: Ts) h _ List.mem_cons_self)
    exact ⟨meth, c, h1, h2, h3, h4, h5, h6⟩
  · intro p e s m args below meth c s₁ B hml hP _
    obtain ⟨⟨rfl, hP, hK, hS⟩, hEx⟩ := hP
    have hts := atoms_spec (ws := Cond.code (Y mi).1 (Y mi).2.1 M.1 (Y mi).2.2 :: Ts) B.pre
    have hnoh : c.exceptionTable.toList = [] := by
      have h0 := BodyLoose.noHandlers B (hts _ List.mem_cons_self)
      simpa [Array.isEmpty_iff] using h0
    have hh0 : s₁.heap = s.heap := by rw [B.state]; rfl
    have hW := sm_soundT hG hgw hT hfl hGT n d mi 0 (sm_entry M.1 as) [] h x h' M hM hr (by simp [sm_entry]; omega) p e s m _ below meth c s.heap [] _ h B.exec B.bytes hml hnoh (findClass_of_methodNamed B.named) (name_of_methodNamed B.named B.method).1 (fun w hw => hts w (List.mem_cons_of_mem _ hw)) hEx B.notSynchronized hK hS hP (sm_entry_LR hl) (fun _ _ => rfl) (Nat.le_refl _) (fun x hx => by cases hx) (Nat.le_refl _) (Nat.le_refl _)
    rw [Nat.sub_self, Nat.sub_self] at hW
    obtain ⟨t, a1, b1, b2, b3, b4, b5, b6⟩ := hW s₁ hh0 (Stand.of_body B)
    have e1 : F0 m 0 ((lg_sl (as.map (sm_mv (sm_ad N0 cs))) ++ List.replicate (M.1 - (lg_sl (as.map (sm_mv (sm_ad N0 cs)))).length) Slot.unset).toArray) (([] : List Value).map (sm_mv (sm_ad N0 cs))) = entryFrame m (as.map (sm_mv (sm_ad N0 cs))).toArray M.1 := (lg_entry_eq m (as.map (sm_mv (sm_ad N0 cs))) M.1).symm
    rw [e1] at a1
    exact ⟨t, _, a1, b1, b2, rfl, b3, b4, b5, b6⟩
variable {p : Program} {e : Env} {R : Room} {s : State} {m : MethodId} {args : Array Value} {below : List Frame} {meth : Method} {c : Code} {T : State} {locs : List Loc} {cells slots : Nat}
set_option maxHeartbeats 4000000 in
/-- a virtual call of a method that throws: the caller's frame, with the note over it -/
theorem sm_callVT (X : Stand p l e R s m args below meth c T locs cells slots) (hexec : p.tables.exec = Jvm.exec) {own C : String} {index : Nat} {y : MethodName} {bytes : ByteArray} {maxL mc ms : Nat} {ret : Option FieldType} {rm : Room} {ws : List Cond} {Pc : Array Value → State → Prop} {h' : sm_H}
    (hown : s.vm.findClass own = some m.cls) (hlink : (Cond.methodLink own index y).before args s = true) (hinst : (Cond.instanceMethod y).before args s = true) (hsel : (Cond.selects C y y).before args s = true)
    (hcode : (Cond.code y bytes maxL ret).before args s = true) (hini : (Cond.initialized y.cls).before args s = true) (hy : y.cls ≠ "java/lang/invoke/MethodHandle" ∧ y.cls ≠ "java/lang/invoke/VarHandle")
    (hM : sm_MetT l D cl tys N0 cs K y ws rm Pc h' mc ms) (hblind : FrameBlind Pc) (hrc : rm.cells = mc) (hrs : rm.slots = ms) (hfr : rm.frames + 1 ≤ R.frames) (hlo : 8 + (maxL + 11) + rm.locals ≤ R.locals)
    (hws : ∀ w ∈ ws, ∀ (a' : Array Value) (U : State), s.WarmedH U.vm → w.before a' U = true) (hcw : Cond.code y bytes maxL ret ∈ ws)
    {b : Addr} {cellB : Cell} (hcell : T.heap[b]? = some cellB) (hobj : cellB.vm.isStatics = false) (hcls : s.vm.findClass C = some cellB.cls)
    {g : JFrame} (hg : g.method = m) (hsize : g.locals.size = c.maxLocals) {argsL rest : List Value} (hlen : ∀ sig, parseMethodDescriptor y.desc = some sig → argsL.length = sig.parameters.length)
    (hstack : g.stack = argsL.reverse ++ .ref b :: rest) (hW : 2 * g.monitorRoom + (rest.map fun v => v.category).sum ≤ 8) (hdg : decode c.code g.pc = .ok (.invokevirtual index, 3))
    (hcl : cells + mc ≤ R.cells ∧ slots + ms ≤ R.slots) (hPc : ∀ U : State, U.heap = T.heap → s.WarmedH U.vm → Pc (Value.ref b :: argsL).toArray U) :
    ∃ (T' : State) (L : List Loc), Stand p l e R s m args below meth c T' (locs ++ L) (cells + mc) (slots + ms) ∧ (∀ q ∈ L, N0 ≤ q.base) ∧ sm_P D cl tys N0 cs K h' T'.heap ∧ (∀ q, q < N0 → T'.heap[q]? = T.heap[q]?) ∧
      ∀ target, Steps p.tables e below ((T'.setTop { g with stack := rest }).pushFrame (.throwing (sm_ad N0 cs (h'.length - 1)))) target → Steps p.tables e below (T.setTop g) target := by
  obtain ⟨mk, methM, hnamed, hmethM, hstM, habM⟩ := Cond.instanceMethod_spec hinst
  obtain ⟨methM', cM, hmethM', -, -, -, -, -, -, hsigM⟩ := Cond.code_spec hnamed hcode
  cases hmethM.symm.trans hmethM'
  obtain ⟨c2, r2, m2, q1, q2, q3, q4, kP, hkP, hkPi⟩ := Cond.selects_spec hsel
  cases hcls.symm.trans q1
  cases (State.methodFound?_of_named hnamed hy).symm.trans q2
  cases hnamed.symm.trans q3
  have hselP : selectMethod e.platform s.vm cellB.cls mk = .method mk := by rw [Launch.admits_selectMethod X.admits]; exact q4
  obtain ⟨vm₁, X₁, hstep₁⟩ := X.invokevirtual hexec hown hlink hnamed hmethM hstM hkP hkPi hy (a := b) (cell := cellB) hcell
    (fun z h => by rw [h] at hobj; cases hobj) hselP hmethM habM hkP hkPi (g := g) hg (argsL := argsL) (rest := rest) (hlen _ hsigM) hstack hdg
  have hn : (T.setVm vm₁).methodNamed? y = some mk := X₁.named hnamed
  have hdg' : decode c.code ({ g with stack := rest } : JFrame).pc = .ok (.invokevirtual index, 3) := hdg
  have h : At (T.setVm vm₁) ({ g with stack := rest } : JFrame).method c below := by show At _ g.method c below; rw [hg]; exact X₁.here
  obtain ⟨methY, cY, hmY, hcY, -, hlY, -⟩ := Cond.code_spec hn (hws _ hcw (Value.ref b :: argsL).toArray _ X₁.warmed)
  obtain ⟨kY, hkY, -⟩ := className_of_methodNamed hn
  have hinitY : kY.init = .initialized := Cond.initialized_spec (args := (Value.ref b :: argsL).toArray) (findClass_of_methodNamed hn) hkY (word_at X₁.warmed (Or.inl (by first | rfl | simp [Cond.onTables, Cond.keeps, Cond.steady])) hini)
  have happ : (headSpec ws rm).appliesLoose y e.platform ((T.setVm vm₁).calling { g with stack := rest } mk (Value.ref b :: argsL).toArray) = true :=
    Spec.appliesLoose_calling (g := { g with stack := rest }) h hdg' hn hkY hinitY
      (X₁.room_calling (g := { g with stack := rest }) (R' := (headSpec ws rm).room) hsize hmY hcY hfr (by rw [hlY]; show 2 * g.monitorRoom + (rest.map fun v => v.category).sum + _ + rm.locals ≤ _; omega) (by show cells + rm.cells ≤ _; omega) (by show slots + rm.slots ≤ _; omega)) (atoms_intro fun w hw => hws w hw _ _ X₁.warmed)
  obtain ⟨mid, hmid⟩ := h.above
  have hfr2 : ((T.setVm vm₁).setTop { g with stack := rest }).frames = (.java { g with stack := rest } :: mid) ++ below := by rw [State.frames_setTop' _ h.top, hmid]; rfl
  obtain ⟨o, s₂, hsteps, -, hend, hq⟩ := Steps.callFree hM p X.admits X.cas X.clock (acts := []) hfr2 happ (hblind _ _ _ _ (hPc (T.setVm vm₁) rfl X₁.warmed)) trivial
  obtain ⟨rfl, hw, ⟨L, hsame, hL⟩, hp, hk⟩ := hq
  rw [State.frames_setTop' _ h.top, X₁.tail] at hend
  obtain ⟨T', X', hW', hsame', ht⟩ := X₁.outOfThrown (g := { g with stack := rest }) hg hend hw hsame
  have hheap : s₂.heap = T'.heap := by rw [ht]; exact Stand.throwing_heap T' _ _
  refine ⟨T', L, X', hL, by rw [← hheap]; exact hp, fun q hq => by rw [← hheap]; exact hk q hq, fun target hrest => hstep₁ _ fun acts => ?_⟩
  rw [doInvoke_state]
  refine hsteps.trans ?_
  rw [ht]
  exact hrest
/-- an entry of a handler table whose class is linked, resolved or not: the object's class decides -/
theorem sm_goClass {E : CtlPost} {d : Bool} {acts : List Action} {f : JFrame} {a : Addr} {QQ : Handler → Pre} {x : ExceptionTableEntry} {t : List ExceptionTableEntry} {cX : ClassId} {cell : Cell} {vm' : Vm} (hx : covers x f.pc = true) (h0 : x.catchType ≠ 0)
    (hg : (Jvm.resolveClass f.method.cls x.catchType).Gives e.toSetting s.vm (.ok cX) vm') (hsz : vm'.classes.size ≤ s.vm.classes.size) (hcell : s.heap[a]? = some cell) (hobj : ∀ k, cell.vm ≠ .statics k)
    (hk : ∃ k, vm'.classes[cell.cls]? = some k) (hc : ∃ k, vm'.classes[cX]? = some k) :
    wp (findHandler.go f a (x :: t)) QQ E e d acts s ↔ if vm'.assignable cell.cls cX = true then QQ (.found x.handlerPc) (VmOp.dirties (VmOp.resolveClass f.method.cls x.catchType) d) (VmOp.acts (VmOp.resolveClass f.method.cls x.catchType) acts) (s.setVm vm') else wp (findHandler.go f a t) QQ E e (VmOp.dirties (VmOp.resolveClass f.method.cls x.catchType) d) (VmOp.acts (VmOp.resolveClass f.method.cls x.catchType) acts) (s.setVm vm') := by
  simp only [covers] at hx
  obtain ⟨ha, ht⟩ := hg.op (op := VmOp.resolveClass f.method.cls x.catchType) rfl
  cases hfit : vm'.assignable cell.cls cX <;>
    simp [findHandler.go, hx, h0, ha, ht, hsz, hcell, hobj, hk, hc, hfit, VmOp.dirties, VmOp.acts]
end SMC
end
section
/-! HANDLERS: the search through a method's table -/
/-- the first entry (from, to, handler, pool entry, class number) that covers pc and takes class x -/
def sm_find (pc x : Nat) : List (Nat × Nat × Nat × Nat × Nat) → Option Nat
  | [] => none
  | (a, b, hp, _, z) :: r => if a ≤ pc ∧ pc < b then (if z = x then some hp else sm_find pc x r) else sm_find pc x r
/-- classes that cannot be cast -/
def sm_N (D : va_G) (nc : List (Nat × Nat)) (U : State) : Prop := ∀ q ∈ nc, U.vm.assignable (D.1 q.1) (D.1 q.2) = false
/-- what the tables must hold of a handler -/
def sm_okH (Ts : List Cond) (cl : List vw_C) (nc : List (Nat × Nat)) (own : String) (x : Nat) (q : Nat × Nat × Nat × Nat × Nat) : Prop :=
  q.2.2.2.1 ≠ 0 ∧ ∃ (Z : String) (T : u_T), cl[q.2.2.2.2]? = some (Z, T, 0) ∧ Cond.classLink own q.2.2.2.1 Z ∈ Ts ∧ ((q.2.2.2.2 = x ∧ Cond.castable Z Z ∈ Ts) ∨ (q.2.2.2.2 ≠ x ∧ (x, q.2.2.2.2) ∈ nc))
section SMH
variable {D : va_G} {cl : List vw_C} {tys : List (ClassId × FieldType)} {N0 : Nat} {cs : Nat → Nat} {Ts : List Cond} {K : sm_H} {nc : List (Nat × Nat)}
variable {p : Program} {l : Launch} {e : Env} {R : Room} {s : State} {m : MethodId} {args : Array Value} {below : List Frame} {meth : Method} {c : Code} {T : State} {locs : List Loc} {cells slots : Nat}
set_option maxHeartbeats 4000000 in
theorem sm_goL (hpl : e.platform.magicAccessors = ({} : Platform).magicAccessors) {own : String} {f : JFrame} {a : Addr} {cell : Cell} {x hp : Nat} {S : State} (hown : s.vm.findClass own = some f.method.cls) (hts : ∀ w ∈ Ts, w.before args s = true) (hK : va_K D cl tys s) (hN : sm_N D nc s)
    (hcell : S.heap[a]? = some cell) (hobj : cell.vm = .none) (hcx : cell.cls = D.1 x) (hxc : ∃ k, s.vm.classes[D.1 x]? = some k) :
    ∀ (al : List (Nat × Nat × Nat × Nat × Nat)) (tl : List ExceptionTableEntry) (vm : Vm), tl.map (fun h => (h.startPc, h.endPc, h.handlerPc, h.catchType)) = al.map (fun q => (q.1, q.2.1, q.2.2.1, q.2.2.2.1)) → (∀ q ∈ al, q.1 ≤ f.pc ∧ f.pc < q.2.1 → sm_okH Ts cl nc own x q) → s.WarmedH vm → sm_find f.pc x al = some hp →
      ∃ vm', s.WarmedH vm' ∧ ∀ (QQ : Handler → Pre) (E : CtlPost) (d : Bool) (acts : List Action), (∀ d', QQ (.found hp) d' acts (S.setVm vm')) → wp (findHandler.go f a tl) QQ E e d acts (S.setVm vm) := by
  intro al
  induction al with
  | nil => intro tl vm _ _ _ hf; simp [sm_find] at hf
  | cons q al ih =>
    intro tl vm hmap hok hW hf
    cases tl with
    | nil => simp at hmap
    | cons t tl =>
      simp only [List.map_cons, List.cons.injEq, Prod.mk.injEq] at hmap
      obtain ⟨⟨m1, m2, m3, m4⟩, hmap⟩ := hmap
      obtain ⟨q1, q2, q3, q4, q5⟩ := q
      dsimp only at m1 m2 m3 m4
      simp only [sm_find] at hf
      by_cases hcov : q1 ≤ f.pc ∧ f.pc < q2
      · rw [if_pos hcov] at hf
        have hcv : covers t f.pc = true := by simp [covers, m1, m2, hcov.1, hcov.2]
        obtain ⟨k0, Z, TZ, k1, k2, k3⟩ := hok _ List.mem_cons_self hcov
        dsimp only at k0 k1 k2 k3
        obtain ⟨cZ, hcZ, hcl⟩ := Cond.classLink_spec hown (hts _ k2) e.platform hpl
        have hDZ : D.1 q5 = cZ := Option.some.inj ((hK.1 q5 _ k1).2.1.symm.trans hcZ)
        obtain ⟨dk, _, _, kt, hd, _, _, _, _, hkt, _, hopen⟩ := hcl.here
        have hcl₀ := hW.classLinks hcl
        have hW' : s.WarmedH (vm.noted f.method.cls q4 (.cls cZ)) := hW.noted hd hopen (State.rightAt_cls hcl)
        have hgv := resolveClass_links e.toSetting hcl₀
        obtain ⟨kx, hkx⟩ := hxc
        obtain ⟨kx', hkx', -⟩ := hW'.alike.2.2 _ _ hkx
        obtain ⟨kt', hkt', -⟩ := hW'.alike.2.2 _ _ hkt
        have hszv : (vm.noted f.method.cls q4 (.cls cZ)).classes.size ≤ vm.classes.size := by no_record
        have hgo := fun (QQ : Handler → Pre) (E : CtlPost) (d : Bool) (acts : List Action) => sm_goClass (e := e) (s := S.setVm vm) (E := E) (d := d) (acts := acts) (f := f) (a := a) (QQ := QQ) (x := t) (t := tl) (cX := cZ) (cell := cell) (vm' := vm.noted f.method.cls q4 (.cls cZ)) hcv (by rw [m4]; exact k0) (by rw [m4]; exact hgv) hszv hcell (fun k z => by rw [hobj] at z; cases z) ⟨kx', by rw [hcx]; exact hkx'⟩ ⟨kt', hkt'⟩
        rcases k3 with ⟨rfl, k3⟩ | ⟨hne, k3⟩
        · rw [if_pos rfl] at hf
          cases hf
          have hasg : (vm.noted f.method.cls q4 (.cls cZ)).assignable cell.cls cZ = true := by
            rw [hW'.alike.assignable, hcx, hDZ]
            obtain ⟨c3, c4, z1, z2, z3⟩ := Cond.castable_spec (args := args) (first := s) (o := none) (s := s) (idx := []) (hts _ k3)
            cases z1.symm.trans hcZ
            cases z2.symm.trans hcZ
            exact z3
          refine ⟨_, hW', fun QQ E d acts hQ => ?_⟩
          rw [hgo QQ E d acts, if_pos hasg, m3]
          exact hQ _
        · rw [if_neg hne] at hf
          have hasg : (vm.noted f.method.cls q4 (.cls cZ)).assignable cell.cls cZ = false := by
            rw [hW'.alike.assignable, hcx, ← hDZ]
            exact hN _ k3
          obtain ⟨vm', g1, g2⟩ := ih tl _ hmap (fun z hz => hok z (List.mem_cons_of_mem _ hz)) hW' hf
          refine ⟨vm', g1, fun QQ E d acts hQ => ?_⟩
          rw [hgo QQ E d acts, if_neg (by rw [hasg]; decide)]
          exact g2 QQ E _ acts hQ
      · rw [if_neg hcov] at hf
        have hcv : covers t f.pc = false := by
          simp only [covers, m1, m2, Bool.and_eq_false_iff, decide_eq_false_iff_not]
          omega
        obtain ⟨vm', g1, g2⟩ := ih tl vm hmap (fun z hz => hok z (List.mem_cons_of_mem _ hz)) hW hf
        refine ⟨vm', g1, fun QQ E d acts hQ => ?_⟩
        rw [W.findHandler_go_skip hcv]
        exact g2 QQ E d acts hQ
/-- the exception is caught: the walk goes on at the handler -/
theorem sm_caught (X : Stand p l e R s m args below meth c T locs cells slots) {own : String} {a : Addr} {cell : Cell} {x hp : Nat} {g : JFrame} (hg : g.method = m) (al : List (Nat × Nat × Nat × Nat × Nat)) (hal : c.exceptionTable.toList.map (fun h => (h.startPc, h.endPc, h.handlerPc, h.catchType)) = al.map (fun q => (q.1, q.2.1, q.2.2.1, q.2.2.2.1)))
    (hown : s.vm.findClass own = some m.cls) (hts : ∀ w ∈ Ts, w.before args s = true) (hK : va_K D cl tys s) (hN : sm_N D nc s) (hcell : T.heap[a]? = some cell) (hobj : cell.vm = .none) (hcx : cell.cls = D.1 x) (hxc : ∃ k, s.vm.classes[D.1 x]? = some k)
    (hok : ∀ q ∈ al, q.1 ≤ g.pc ∧ g.pc < q.2.1 → sm_okH Ts cl nc own x q) (hf : sm_find g.pc x al = some hp) :
    ∃ vm', Stand p l e R s m args below meth c (T.setVm vm') locs cells slots ∧ ∀ target, Steps p.tables e below ((T.setVm vm').setTop { g with pc := hp, stack := [.ref a] }) target → Steps p.tables e below ((T.setTop g).pushFrame (.throwing a)) target := by
  have hpl : e.platform.magicAccessors = ({} : Platform).magicAccessors := by rw [X.admits.platform]
  obtain ⟨vm', g1, g2⟩ := sm_goL (S := (T.setTop g).pushFrame (.throwing a)) (f := g) (a := a) hpl (by rw [hg]; exact hown) hts hK hN (by rw [Stand.throwing_heap]; exact hcell) hobj hcx hxc al c.exceptionTable.toList T.vm hal hok X.warmed hf
  have hS : ((T.setTop g).pushFrame (.throwing a)).setVm T.vm = (T.setTop g).pushFrame (.throwing a) := by
    have := State.setVm_self ((T.setTop g).pushFrame (.throwing a))
    rw [Stand.throwing_vm] at this
    exact this
  rw [hS] at g2
  refine ⟨vm', X.noted g1, fun target hrest => ?_⟩
  have h : At T g.method c below := by rw [hg]; exact X.here
  have hm : ((T.setTop g).pushFrame (.throwing a)).vm.method? g.method = some meth := by rw [Stand.throwing_vm, hg]; exact X.method'
  obtain ⟨hgo, hw⟩ := h.throwing a
  refine Steps.head hgo hw ?_
  have key : ∀ r : List Frame, (stepThrowing e ((T.setTop g).pushFrame (.throwing a)) a (.java g :: r)).Is ((((T.setTop g).pushFrame (.throwing a)).setVm vm').setFrames (.java { g with pc := hp, stack := [.ref a] } :: r)) [] := by
    intro r
    simp only [stepThrowing, searchFrame, vmDo]
    generalize hr : Sem.go _ e false [] ((T.setTop g).pushFrame (.throwing a)) = res
    obtain ⟨as, rfl, ha⟩ := Sem.eq_ok_of hr (a := Handler.found hp) (s' := ((T.setTop g).pushFrame (.throwing a)).setVm vm') (acts' := []) (by
      rw [wp_bind', W.findHandler_eq hm X.code]
      refine g2 _ _ _ _ (fun d' => ?_)
      simp)
    exact ⟨rfl, ha⟩
  rw [stepThread_throwing (frames_entered h.top _), (key _).1]
  obtain ⟨g₀, hg0⟩ := Option.isSome_iff_exists.mp h.top
  obtain ⟨r, hr⟩ := State.topJava?_eq_some.mp hg0
  have hr2 : (T.setVm vm').frames = .java g₀ :: r := hr
  rw [State.setTop_of_frames _ hr2] at hrest
  rw [hr]
  have e1 : ((((T.setTop g).pushFrame (.throwing a)).setVm vm').setFrames (.java { g with pc := hp, stack := [.ref a] } :: (Frame.java g₀ :: r).tail)) = ((T.setVm vm').setFrames (.java { g with pc := hp, stack := [.ref a] } :: r)) := by
    rw [State.pushFrame, State.setTop_of_frames _ hr]
    show ((((T.setFrames _).setFrames _).setFrames _).setVm vm') = ((T.setFrames _).setVm vm')
    rw [State.setFrames_setFrames, State.setFrames_setFrames]
    rfl
  rw [e1]
  exact hrest
end SMH
end
section
/-! METHODS WITH HANDLERS -/
/-- such a method: locals, kind of the answer, instructions; its handlers -/
abbrev sm_MW : Type := sm_M × List (Nat × Nat × Nat × Nat × Nat)
def sm_runW (P : Nat → Option sm_M) (PW : Nat → Option sm_MW) : Nat → Nat → Nat → Nat → sm_L → List Value → sm_H → Option (Option Value × sm_H)
  | 0, _, _, _, _, _, _ => none
  | n + 1, d, m, pc, ls, st, h => match PW m with
    | none => none
    | some ((_, k, tab), al) => match tab[pc]? with
      | some (some q) => match sm_step q pc ls st h with
        | some (.inl (pc', ls', st', h')) => sm_runW P PW n d m pc' ls' st' h'
        | some (.inr (.inl v)) => if sm_okret k v then some (v, h) else none
        | some (.inr (.inr (m', as, r))) => match d, P m' with
          | d' + 1, some (nl, _, _) => if (sm_slots as).length ≤ nl ∧ (r.map fun v => v.category).sum ≤ 8 then (match sm_run P n d' m' 0 (sm_entry nl as) [] h with
            | some (v, h') => sm_runW P PW n d m (pc + 3) ls (sm_back v r) h'
            | none => match sm_runT P n d' m' 0 (sm_entry nl as) [] h with
              | some (x, h') => match sm_find pc x al with
                | some hp => sm_runW P PW n d m hp ls [.ref (h'.length - 1)] h'
                | none => none
              | none => none) else none
          | _, _ => none
        | none => none
      | _ => none
theorem sm_runW_mono {P : Nat → Option sm_M} {PW : Nat → Option sm_MW} : ∀ (n d m pc : Nat) (ls : sm_L) (st : List Value) (h : sm_H) (v : Option Value) (h' : sm_H), sm_runW P PW n d m pc ls st h = some (v, h') → h.length ≤ h'.length ∧ sm_sl h ≤ sm_sl h' := by
  intro n
  induction n with
  | zero => intro d m pc ls st h v h' hr; simp [sm_runW] at hr
  | succ n ih =>
    intro d m pc ls st h v h' hr
    unfold sm_runW at hr
    split at hr
    · cases hr
    · split at hr
      · split at hr
        · next hs =>
          have h1 := sm_step_mono hs
          have h2 := ih _ _ _ _ _ _ _ _ hr
          exact ⟨Nat.le_trans h1.1 h2.1, Nat.le_trans h1.2 h2.2⟩
        · split at hr
          · cases hr; exact ⟨Nat.le_refl _, Nat.le_refl _⟩
          · cases hr
        · split at hr
          · split at hr
            · split at hr
              · next hc =>
                have g1 := sm_run_mono _ _ _ _ _ _ _ _ _ hc
                have g2 := ih _ _ _ _ _ _ _ _ hr
                exact ⟨Nat.le_trans g1.1 g2.1, Nat.le_trans g1.2 g2.2⟩
              · split at hr
                · next hc =>
                  split at hr
                  · have g1 := sm_runT_mono _ _ _ _ _ _ _ _ _ hc
                    have g2 := ih _ _ _ _ _ _ _ _ hr
                    exact ⟨Nat.le_trans g1.1 g2.1, Nat.le_trans g1.2 g2.2⟩
                  · cases hr
                · cases hr
            · cases hr
          · cases hr
        · cases hr
      · cases hr
def sm_roomW (d mc ms : Nat) : Room := { frames := d + 9, cells := mc, slots := ms, locals := 64 * d + 256 }
/-- the tables are right of a method with handlers; a call there is by the object's own class -/
def sm_okW (Ts : List Cond) (sx : List (String × Nat × String × Nat)) (zx : List (String × String × String × Nat)) (oc : (List (Nat × Nat × String × String × String × Value) × List (String × Nat × MethodName × String))) (K : sm_H) (cl : List vw_C) (nc : List (Nat × Nat)) (Y YW : Nat → sm_Y) (mi : Nat) (M : sm_MW) : Prop :=
  Cond.codeWith (YW mi).1 (YW mi).2.1 M.1.1 (YW mi).2.2 (M.2.map fun q => (q.1, q.2.1, q.2.2.1, q.2.2.2.1)) ∈ Ts ∧ plainName (YW mi).1.cls = true ∧ sm_nmh (YW mi).1.cls ∧ M.1.1 ≤ 45 ∧ sm_rk M.1.2.1 (YW mi).2.2 ∧
  (∀ (pc : Nat) (q : sm_I), M.1.2.2[pc]? = some (some q) → decode (YW mi).2.1 pc = .ok (q.1, q.2.1) ∧ sm_lenOk q.1 q.2.1 = true ∧ sm_okI Ts sx zx oc K cl (YW mi).1.cls (YW mi).1.name pc q.1 q.2.2 ∧ sm_okC Ts oc cl Y (YW mi).1.cls q.1 q.2.2 ∧
    (∀ idx k n ps ci m1, q.1 = .invokevirtual idx → q.2.2 = k :: n :: ps → sm_pick ci ps = some m1 → ∃ (C : String) (T : u_T) (N : Nat), cl[ci]? = some (C, T, N) ∧ Cond.instanceMethod (Y m1).1 ∈ Ts ∧ Cond.initialized (Y m1).1.cls ∈ Ts ∧ Cond.methodLink (YW mi).1.cls idx (Y m1).1 ∈ Ts ∧ Cond.selects C (Y m1).1 (Y m1).1 ∈ Ts ∧ sm_par (Y m1).1.desc = some n) ∧
    (∀ x hp, sm_find pc x M.2 = some hp → (∃ X T, cl[x]? = some (X, T, 0)) ∧ ∀ z ∈ M.2, z.1 ≤ pc ∧ pc < z.2.1 → sm_okH Ts cl nc (YW mi).1.cls x z) ∧
    ((∃ x hp, sm_find pc x M.2 = some hp) → (∀ idx, q.1 = .invokestatic idx → False) ∧ ∀ idx, q.1 = .invokespecial idx → False))
section SMX
variable {l : Launch} {D : va_G} {cl : List vw_C} {tys : List (ClassId × FieldType)} {N0 : Nat} {cs : Nat → Nat} {Ts : List Cond} {sx : List (String × Nat × String × Nat)} {zx : List (String × String × String × Nat)} {oc : (List (Nat × Nat × String × String × String × Value) × List (String × Nat × MethodName × String))} {K : sm_H} {Y YW : Nat → sm_Y} {P : Nat → Option sm_M} {PW : Nat → Option sm_MW} {ex : List Cond} {nc : List (Nat × Nat)}
/-- the end of a method that returns -/
theorem sm_retW {p : Program} {e : Env} {R : Room} {s : State} {m : MethodId} {args : Array Value} {below : List Frame} {meth : Method} {c : Code} {H : Heap} {locs : List Loc} {cells slots kr pc len : Nat} {LS : Array Slot} {cc : ByteArray} {ret : Option FieldType} {i : Instr} {rs : List Nat} {ls : sm_L} {st : List Value} {h : sm_H} {v : Option Value}
    (hx : p.tables.exec = Jvm.exec) (hb : c.code = cc) (hrt : meth.sig.returnType = ret) (hlocks : meth.locks = false) (hP : sm_P D cl tys N0 cs K h H) (hF : ∀ q, q < N0 → H[q]? = s.heap[q]?) (hlocs : ∀ x ∈ locs, N0 ≤ x.base)
    (g5 : sm_rk kr ret) (d1 : decode cc pc = .ok (i, len)) (d2 : sm_lenOk i len = true) (hs : sm_step (i, len, rs) pc ls st h = some (.inr (.inl v))) (hkr : sm_okret kr v = true) :
    W p l e R s m args below meth c H locs cells slots (MQ below (sm_Qc D cl tys N0 cs K v h) args s cells slots (fun q => N0 ≤ q)) (F0 m pc LS (st.map (sm_mv (sm_ad N0 cs)))) := by
  have hQQ : ∀ (o : Option Value) (t : State), o = v.map (sm_mv (sm_ad N0 cs)) → t.heap = H → sm_Qc D cl tys N0 cs K v h args s (.returned o) t := fun o t ho ht => ⟨by rw [ho], by rw [ht]; exact hP, fun q hq => by rw [ht]; exact hF q hq⟩
  rcases sm_ret_inv hs with ⟨rfl, x, rfl, rfl⟩ | ⟨rfl, x, rfl, rfl⟩ | ⟨rfl, x, rfl, rfl⟩ | ⟨rfl, rfl, rfl⟩
  · simp only [sm_lenOk, beq_iff_eq] at d2
    subst d2
    rcases g5 with ⟨rfl, -⟩ | ⟨rfl, h5⟩ | ⟨rfl, -⟩ | ⟨rfl, -⟩ | ⟨rfl, h5⟩ | ⟨rfl, h5⟩ | ⟨rfl, h5⟩
    · simp [sm_okret] at hkr
    · exact W.iret hx hb (hrt.trans h5) (fun t ht _ => hQQ _ t rfl ht) hlocs d1 (hlocks := hlocks)
    · simp [sm_okret] at hkr
    · simp [sm_okret] at hkr
    · exact W.zret hx hb (hrt.trans h5) (sm_fit_ok (ad := id) (t := 3) (v := .int x) (by simpa [sm_okret, sm_fit] using hkr) (Or.inr (Or.inr (Or.inr (Or.inl ⟨rfl, rfl⟩))))).1 (fun t ht _ => hQQ _ t rfl ht) hlocs d1 (hlocks := hlocks)
    · exact W.zret hx hb (hrt.trans h5) (sm_fit_ok (ad := id) (t := 4) (v := .int x) (by simpa [sm_okret, sm_fit] using hkr) (Or.inr (Or.inr (Or.inr (Or.inr ⟨rfl, rfl⟩))))).1 (fun t ht _ => hQQ _ t rfl ht) hlocs d1 (hlocks := hlocks)
    · have hb2 : x = 0 ∨ x = 1 := by simpa [sm_okret] using hkr
      exact W.zret hx hb (hrt.trans h5) (by rcases hb2 with rfl | rfl <;> rfl) (fun t ht _ => hQQ _ t rfl ht) hlocs d1 (hlocks := hlocks)
  · simp only [sm_lenOk, beq_iff_eq] at d2
    subst d2
    rcases g5 with ⟨rfl, -⟩ | ⟨rfl, -⟩ | ⟨rfl, h5⟩ | ⟨rfl, -⟩ | ⟨rfl, -⟩ | ⟨rfl, -⟩ | ⟨rfl, h5⟩
    · simp [sm_okret] at hkr
    · simp [sm_okret] at hkr
    · exact W.lret hx hb (hrt.trans h5) (fun t ht _ => hQQ _ t rfl ht) hlocs d1 (hlocks := hlocks)
    · simp [sm_okret] at hkr
    · simp [sm_okret] at hkr
    · simp [sm_okret] at hkr
    · simp [sm_okret] at hkr
  · simp only [sm_lenOk, beq_iff_eq] at d2
    subst d2
    rcases g5 with ⟨rfl, -⟩ | ⟨rfl, -⟩ | ⟨rfl, -⟩ | ⟨rfl, h5⟩ | ⟨rfl, -⟩ | ⟨rfl, -⟩ | ⟨rfl, h5⟩
    · simp [sm_okret] at hkr
    · simp [sm_okret] at hkr
    · simp [sm_okret] at hkr
    · rcases h5 with ⟨nm, h5⟩ | ⟨nm, h5⟩
      · exact W.aret hx hb (hrt.trans h5) (Or.inl ⟨_, rfl⟩) (Or.inr ⟨_, rfl⟩) (fun t ht _ => hQQ _ t rfl ht) hlocs d1 (hlocks := hlocks)
      · exact W.aret hx hb (hrt.trans h5) (Or.inr ⟨_, rfl⟩) (Or.inr ⟨_, rfl⟩) (fun t ht _ => hQQ _ t rfl ht) hlocs d1 (hlocks := hlocks)
    · simp [sm_okret] at hkr
    · simp [sm_okret] at hkr
    · simp [sm_okret] at hkr
  · simp only [sm_lenOk, beq_iff_eq] at d2
    subst d2
    rcases g5 with ⟨rfl, h5⟩ | ⟨rfl, -⟩ | ⟨rfl, -⟩ | ⟨rfl, -⟩ | ⟨rfl, -⟩ | ⟨rfl, -⟩ | ⟨rfl, h5⟩
    · exact W.vret hx hb (hrt.trans h5) (fun t ht _ => hQQ _ t rfl ht) hlocs d1 (hlocks := hlocks)
    · simp [sm_okret] at hkr
    · simp [sm_okret] at hkr
    · simp [sm_okret] at hkr
    · simp [sm_okret] at hkr
    · simp [sm_okret] at hkr
    · simp [sm_okret] at hkr
end SMX
end
section
/-! A run of a method with handlers is a run of the JVM -/
theorem sm_runT_last {P : Nat → Option sm_M} : ∀ (n d m pc : Nat) (ls : sm_L) (st : List Value) (h : sm_H) (x : Nat) (h' : sm_H), sm_runT P n d m pc ls st h = some (x, h') → ∃ h2, h' = h2 ++ [sm_exc x] ∧ h.length ≤ h2.length := by
  intro n
  induction n with
  | zero => intro d m pc ls st h v h' hr; simp [sm_runT] at hr
  | succ n ih =>
    intro d m pc ls st h v h' hr
    unfold sm_runT at hr
    split at hr
    · cases hr
    · split at hr
      · split at hr
        · split at hr
          · cases hr; exact ⟨h, rfl, Nat.le_refl _⟩
          · cases hr
        · split at hr
          · next hs =>
            obtain ⟨h2, e, hl⟩ := ih _ _ _ _ _ _ _ _ hr
            exact ⟨h2, e, Nat.le_trans (sm_step_mono hs).1 hl⟩
          · cases hr
          · split at hr
            · split at hr
              · split at hr
                · next hc =>
                  obtain ⟨h2, e, hl⟩ := ih _ _ _ _ _ _ _ _ hr
                  exact ⟨h2, e, Nat.le_trans (sm_run_mono _ _ _ _ _ _ _ _ _ hc).1 hl⟩
                · cases hr
              · cases hr
            · cases hr
          · cases hr
      · cases hr
section SMZ
variable {l : Launch} {D : va_G} {cl : List vw_C} {tys : List (ClassId × FieldType)} {N0 : Nat} {cs : Nat → Nat} {Ts : List Cond} {sx : List (String × Nat × String × Nat)} {zx : List (String × String × String × Nat)} {oc : (List (Nat × Nat × String × String × String × Value) × List (String × Nat × MethodName × String))} {K : sm_H} {Y YW : Nat → sm_Y} {P : Nat → Option sm_M} {PW : Nat → Option sm_MW} {ex : List Cond} {nc : List (Nat × Nat)}
def sm_GoodT (Ts : List Cond) (sx : List (String × Nat × String × Nat)) (ex : List Cond) (cl : List vw_C) (Y : Nat → sm_Y) (P : Nat → Option sm_M) : Prop := ∀ mi M pc q x, P mi = some M → M.2.2[pc]? = some (some q) → sm_thr q = some x → ∃ ix, q.1 = .new ix ∧ sm_okT Ts sx ex cl (Y mi).1.cls (Y mi).2.1 pc ix x
theorem sm_blindT {as : List Value} {h : sm_H} : FrameBlind (sm_PcT D cl tys sx zx oc K ex N0 cs as h) := fun a U g mk q => ⟨sm_blind a U g mk q.1, fun w hw v V h1 h2 => q.2 w hw v V h1 h2⟩
set_option maxHeartbeats 4000000 in
theorem sm_soundW (hG : sm_Good Ts sx zx oc K cl Y P) (hGT : sm_GoodT Ts sx ex cl Y P) (hGW : ∀ mi M, PW mi = some M → sm_okW Ts sx zx oc K cl nc Y YW mi M) (hgw : ∀ w ∈ Ts, goodWord w = true) (hT : sm_T tys) (hfl : l.flags = pinnedFlags ++ [noTraceFlag]) :
  ∀ (n d mi pc : Nat) (ls : sm_L) (st : List Value) (h : sm_H) (v : Option Value) (h' : sm_H) (M : sm_MW), PW mi = some M → sm_runW P PW n d mi pc ls st h = some (v, h') → ls.length = M.1.1 →
  ∀ (p : Program) (e : Env) (s : State) (m : MethodId) (args : Array Value) (below : List Frame) (meth : Method) (c : Code) (H : Heap) (locs : List Loc) (LS : Array Slot) (h0 : sm_H), p.tables.exec = Jvm.exec → c.code = (YW mi).2.1 → meth.sig.returnType = (YW mi).2.2 → c.maxLocals = M.1.1 → c.exceptionTable.toList.map (fun h => (h.startPc, h.endPc, h.handlerPc, h.catchType)) = M.2.map (fun q => (q.1, q.2.1, q.2.2.1, q.2.2.2.1)) → s.vm.findClass (YW mi).1.cls = some m.cls → meth.name = (YW mi).1.name → (∀ w ∈ Ts, w.before args s = true) → sm_Ex ex N0 s → sm_N D nc s → meth.locks = false → va_K D cl tys s → sm_X cl K sx zx oc N0 cs s →
    sm_P D cl tys N0 cs K h H → sm_LR (sm_ad N0 cs) ls LS → (∀ q, q < N0 → H[q]? = s.heap[q]?) → s.heap.size ≤ H.size → (∀ x ∈ locs, N0 ≤ x.base) → h0.length ≤ h.length → sm_sl h0 ≤ sm_sl h →
    W p l e (sm_roomW d (h'.length - h0.length) (sm_sl h' - sm_sl h0)) s m args below meth c H locs (h.length - h0.length) (sm_sl h - sm_sl h0) (MQ below (sm_Qc D cl tys N0 cs K v h') args s (h'.length - h0.length) (sm_sl h' - sm_sl h0) (fun q => N0 ≤ q)) (F0 m pc LS (st.map (sm_mv (sm_ad N0 cs)))) := by
  intro n
  induction n with
  | zero => intro d mi pc ls st h v h' M hM hr; simp [sm_runW] at hr
  | succ n ih =>
    intro d mi pc ls st h v h' M hM hr hlen p e s m args below meth c H locs LS h0 hx hb hrt hml hhd hown hmn hts hEx hN hlocks hK hS hP hL hF hZ0 hlocs hz1 hz2
    obtain ⟨g1, g2, g3, g4, g5, g6⟩ := hGW mi M hM
    obtain ⟨⟨nl, kr, tab⟩, al⟩ := M
    unfold sm_runW at hr
    rw [hM] at hr
    dsimp only at hr hlen hml hhd g1 g4 g5 g6
    split at hr
    · next q hq =>
      obtain ⟨d1, d2, d3, d4, d5, d6, d7⟩ := g6 pc q hq
      obtain ⟨i, len, rs⟩ := q
      dsimp only at d1 d2 d3 d4 d5 d7
      split at hr
      · next pc1 ls1 st1 h1 hs =>
        have hm1 := sm_step_mono hs
        have hm2 := sm_runW_mono _ _ _ _ _ _ _ _ _ hr
        refine sm_next (h' := h1) hx hb hts hown hK hT hS hF hZ0 (by rw [hmn]; exact d3) d2 d1 hP hL hlocs ⟨by show 2 ≤ d + 9; omega, by show 43 ≤ 64 * d + 256; omega⟩ (by rw [hml, hlen]) ⟨by show _ ≤ h'.length - h0.length; omega, by show _ ≤ sm_sl h' - sm_sl h0; omega⟩ hs ?_
        intro H' locs' LS' hP' hL' hF' hlocs'
        have e1 : h.length - h0.length + (h1.length - h.length) = h1.length - h0.length := by omega
        have e2 : sm_sl h - sm_sl h0 + (sm_sl h1 - sm_sl h) = sm_sl h1 - sm_sl h0 := by omega
        rw [e1, e2]
        exact ih d mi pc1 ls1 st1 h1 v h' _ hM hr (by rw [sm_step_len hs]; exact hlen) p e s m args below meth c H' locs' LS' h0 hx hb hrt hml hhd hown hmn hts hEx hN hlocks hK hS hP' hL' (fun q hq => (hF' q hq).trans (hF q hq)) (by have z1 := hP.1; have z2 := hP'.1; omega) hlocs' (by omega) (by omega)
      · next v1 hs =>
        split at hr
        · next hkr =>
          cases hr
          exact sm_retW hx hb hrt hlocks hP hF hlocs g5 d1 d2 hs hkr
        · cases hr
      · next m1 as r hs =>
        split at hr
        · next d1' nl1 k1 tab1 hM1 =>
          split at hr
          · next hc =>
            obtain ⟨hc1, hc2⟩ := hc
            split at hr
            · next v1 h1 hcall =>
              have hm1 := sm_run_mono _ _ _ _ _ _ _ _ _ hcall
              have hm2 := sm_runW_mono _ _ _ _ _ _ _ _ _ hr
              refine sm_callW hG hgw hT hx hb hml hown hts hK hS hP (hL.1.trans hlen) hF hlocs d1 d2 d4 hs hM1 hc1 hc2 hcall (by show d1' + 3 ≤ d1' + 1 + 9; omega) (by show 64 * d1' + 128 ≤ 64 * (d1' + 1) + 256; omega) ⟨by show _ ≤ h'.length - h0.length; omega, by show _ ≤ sm_sl h' - sm_sl h0; omega⟩ ?_
              intro H1 locs1 hP1 hF1 hl1
              have e1 : h.length - h0.length + (h1.length - h.length) = h1.length - h0.length := by omega
              have e2 : sm_sl h - sm_sl h0 + (sm_sl h1 - sm_sl h) = sm_sl h1 - sm_sl h0 := by omega
              rw [e1, e2]
              exact ih (d1' + 1) mi (pc + 3) ls (sm_back v1 r) h1 v h' _ hM hr hlen p e s m args below meth c H1 locs1 LS h0 hx hb hrt hml hhd hown hmn hts hEx hN hlocks hK hS hP1 hL (fun q hq => (hF1 q hq).trans (hF q hq)) (by have z1 := hP.1; have z2 := hP1.1; omega) hl1 (by omega) (by omega)
            · split at hr
              · next x1 h1 hcall =>
                split at hr
                · next hp hfind =>
                  have hm1 := sm_runT_mono _ _ _ _ _ _ _ _ _ hcall
                  have hm2 := sm_runW_mono _ _ _ _ _ _ _ _ _ hr
                  obtain ⟨⟨X, TX, hclx⟩, hokh⟩ := d6 x1 hp hfind
                  obtain ⟨no1, no2⟩ := d7 ⟨x1, hp, hfind⟩
                  rcases sm_call_inv hs with ⟨idx, k, n1, z, -, -⟩ | ⟨idx, k, n1, b, bs, z, -, -, -⟩ | ⟨idx, k, n1, ps, b, bs, ci, fs, rfl, rfl, ha, rfl, hbc, hpk⟩
                  · exact (no1 idx z).elim
                  · exact (no2 idx z).elim
                  · simp only [sm_lenOk, beq_iff_eq] at d2
                    subst d2
                    obtain ⟨C, T, N, w1, w2, w3, w4, w5, w6⟩ := d5 idx k n1 ps ci m1 rfl rfl hpk
                    obtain ⟨q1, q2, q3, q4, -, -⟩ := hG m1 _ hM1
                    dsimp only at q1 q4
                    obtain ⟨ea, el⟩ := sm_args_inv ha
                    have hst : (st.map (sm_mv (sm_ad N0 cs))) = (bs.map (sm_mv (sm_ad N0 cs))).reverse ++ .ref (sm_ad N0 cs b) :: r.map (sm_mv (sm_ad N0 cs)) := by rw [ea]; simp [sm_mv]
                    have hrc := sm_recv hP hS.2.2.2.2.2 hF hK hbc (sm_nm_of w1)
                    obtain ⟨cellB, hcB, hoB, hclB⟩ := hrc
                    have hel : (bs.map (sm_mv (sm_ad N0 cs))).length = n1 := by rw [List.length_map]; simpa using el
                    have hMet := sm_metT (l := l) (D := D) (tys := tys) (N0 := N0) (cs := cs) (as := .ref b :: bs) hG hgw hT hfl hGT hM1 hcall hc1
                    intro T0 hT0 X0
                    obtain ⟨T1, L, X1, hL1, hP1, hF1, st1⟩ := sm_callVT X0 hx (C := C) (bytes := (Y m1).2.1) (maxL := nl1) (ret := (Y m1).2.2) hown (hts _ w4) (hts _ w2) (hts _ w5) (hts _ q1) (hts _ w3) q3 hMet sm_blindT rfl rfl (by show d1' + 8 + 1 ≤ d1' + 1 + 9; omega) (by show 8 + (nl1 + 11) + (64 * d1' + 160) ≤ 64 * (d1' + 1) + 256; omega) (pay_in hts (sm_goodIn hgw q1)) List.mem_cons_self (by rw [hT0]; exact hcB) hoB hclB (g := F0 m pc LS (st.map (sm_mv (sm_ad N0 cs)))) rfl (by show LS.size = c.maxLocals; rw [hL.1, hlen, hml]) (argsL := bs.map (sm_mv (sm_ad N0 cs))) (rest := r.map (sm_mv (sm_ad N0 cs))) (fun sig hsig => by have h2 := w6; unfold sm_par at h2; rw [hsig] at h2; exact hel.trans (Option.some.inj h2).symm) hst (sm_catsum hc2) (by rw [hb]; exact d1) ⟨by show _ ≤ h'.length - h0.length; omega, by show _ ≤ sm_sl h' - sm_sl h0; omega⟩ (fun U hU hW => ⟨⟨rfl, by rw [hU, hT0]; exact hP, va_K.moved hW.alike hK, hS.at_ hW (fun q hq => by rw [hU, hT0]; exact hF q hq)⟩, hEx.at_ hW (fun q hq => by rw [hU, hT0]; exact hF q hq)⟩)
                    rw [hT0] at hF1
                    have hexc : h1[h1.length - 1]? = some (sm_exc x1) := by
                      obtain ⟨h2, rfl, -⟩ := sm_runT_last _ _ _ _ _ _ _ _ _ hcall
                      simp
                    have hexC : sm_C ≤ h1.length - 1 := by
                      obtain ⟨h2, e2, hl2⟩ := sm_runT_last _ _ _ _ _ _ _ _ _ hcall
                      have hl3 := hP.2.1
                      rw [e2, List.length_append, List.length_singleton]
                      omega
                    obtain ⟨r9, v1, cell, v2, v3, v4, -⟩ := hP1.2.2.2 _ _ hexC hexc
                    obtain ⟨kx, hkx⟩ := (hK.1 x1 _ hclx).2.2
                    obtain ⟨vm', X2, st2⟩ := sm_caught X1 (own := (YW mi).1.cls) (g := F0 m pc LS (r.map (sm_mv (sm_ad N0 cs)))) rfl al hhd hown hts hK hN v2 v4 v3 ⟨kx, hkx.1⟩ hokh hfind
                    have e1 : h.length - h0.length + (h1.length - h.length) = h1.length - h0.length := by omega
                    have e2 : sm_sl h - sm_sl h0 + (sm_sl h1 - sm_sl h) = sm_sl h1 - sm_sl h0 := by omega
                    rw [e1, e2] at X2
                    have hW2 := ih (d1' + 1) mi hp ls [.ref (h1.length - 1)] h1 v h' _ hM hr hlen p e s m args below meth c T1.heap (locs ++ L) LS h0 hx hb hrt hml hhd hown hmn hts hEx hN hlocks hK hS hP1 hL (fun q hq => (hF1 q hq).trans (hF q hq)) (by have z1 := hP.1; have z2 := hP1.1; omega) (fun x hx => (List.mem_append.mp hx).elim (hlocs x) (hL1 x)) (by omega) (by omega)
                    obtain ⟨t, t1, t2⟩ := hW2 (T1.setVm vm') rfl X2
                    exact ⟨t, st1 t (st2 t t1), t2⟩
                · cases hr
              · cases hr
          · cases hr
        · cases hr
      · cases hr
    · cases hr
end SMZ
end
section
/-! THE LAW's OWN RUN: it calls methods, and methods with handlers -/
def sm_runL (P : Nat → Option sm_M) (PW : Nat → Option sm_MW) (tab : List (Option sm_I)) : Nat → Nat → Nat → sm_L → List Value → sm_H → Option (Option Value × sm_H)
  | 0, _, _, _, _, _ => none
  | n + 1, d, pc, ls, st, h => match tab[pc]? with
      | some (some q) => match sm_step q pc ls st h with
        | some (.inl (pc', ls', st', h')) => sm_runL P PW tab n d pc' ls' st' h'
        | some (.inr (.inl v)) => some (v, h)
        | some (.inr (.inr (m', as, r))) => match d with
          | d' + 1 => match PW m' with
            | some ((nl, _, _), _) => if (sm_slots as).length ≤ nl ∧ (r.map fun v => v.category).sum ≤ 8 then (match sm_runW P PW n d' m' 0 (sm_entry nl as) [] h with
              | some (v, h') => sm_runL P PW tab n d (pc + 3) ls (sm_back v r) h'
              | none => none) else none
            | none => match P m' with
              | some (nl, _, _) => if (sm_slots as).length ≤ nl ∧ (r.map fun v => v.category).sum ≤ 8 then (match sm_run P n d' m' 0 (sm_entry nl as) [] h with
                | some (v, h') => sm_runL P PW tab n d (pc + 3) ls (sm_back v r) h'
                | none => none) else none
              | none => none
          | 0 => none
        | none => none
      | _ => none
theorem sm_runL_mono {P : Nat → Option sm_M} {PW : Nat → Option sm_MW} {tab : List (Option sm_I)} : ∀ (n d pc : Nat) (ls : sm_L) (st : List Value) (h : sm_H) (v : Option Value) (h' : sm_H), sm_runL P PW tab n d pc ls st h = some (v, h') → h.length ≤ h'.length ∧ sm_sl h ≤ sm_sl h' := by
  intro n
  induction n with
  | zero => intro d pc ls st h v h' hr; simp [sm_runL] at hr
  | succ n ih =>
    intro d pc ls st h v h' hr
    unfold sm_runL at hr
    split at hr
    · split at hr
      · next hs =>
        have h1 := sm_step_mono hs
        have h2 := ih _ _ _ _ _ _ _ hr
        exact ⟨Nat.le_trans h1.1 h2.1, Nat.le_trans h1.2 h2.2⟩
      · cases hr; exact ⟨Nat.le_refl _, Nat.le_refl _⟩
      · split at hr
        · split at hr
          · split at hr
            · split at hr
              · next hc =>
                have g1 := sm_runW_mono _ _ _ _ _ _ _ _ _ hc
                have g2 := ih _ _ _ _ _ _ _ hr
                exact ⟨Nat.le_trans g1.1 g2.1, Nat.le_trans g1.2 g2.2⟩
              · cases hr
            · cases hr
          · split at hr
            · split at hr
              · split at hr
                · next hc =>
                  have g1 := sm_run_mono _ _ _ _ _ _ _ _ _ hc
                  have g2 := ih _ _ _ _ _ _ _ hr
                  exact ⟨Nat.le_trans g1.1 g2.1, Nat.le_trans g1.2 g2.2⟩
                · cases hr
              · cases hr
            · cases hr
        · cases hr
      · cases hr
    · cases hr
abbrev sm_hh (al : List (Nat × Nat × Nat × Nat × Nat)) : List (Nat × Nat × Nat × Nat) := al.map (fun q => (q.1, q.2.1, q.2.2.1, q.2.2.2.1))
section SML
variable {l : Launch} {D : va_G} {cl : List vw_C} {tys : List (ClassId × FieldType)} {N0 : Nat} {cs : Nat → Nat} {Ts : List Cond} {sx : List (String × Nat × String × Nat)} {zx : List (String × String × String × Nat)} {oc : (List (Nat × Nat × String × String × String × Value) × List (String × Nat × MethodName × String))} {K : sm_H} {Y YW : Nat → sm_Y} {P : Nat → Option sm_M} {PW : Nat → Option sm_MW} {ex : List Cond} {nc : List (Nat × Nat)}
/-- what a method with handlers asks of its start -/
def sm_PcW (D : va_G) (cl : List vw_C) (tys : List (ClassId × FieldType)) (sx : List (String × Nat × String × Nat)) (zx : List (String × String × String × Nat)) (oc : (List (Nat × Nat × String × String × String × Value) × List (String × Nat × MethodName × String))) (K : sm_H) (ex : List Cond) (nc : List (Nat × Nat)) (N0 : Nat) (cs : Nat → Nat) (as : List Value) (h : sm_H) : Array Value → State → Prop :=
  fun v U => sm_PcT D cl tys sx zx oc K ex N0 cs as h v U ∧ sm_N D nc U
theorem sm_blindW {as : List Value} {h : sm_H} : FrameBlind (sm_PcW D cl tys sx zx oc K ex nc N0 cs as h) := fun a U g mk q => ⟨sm_blindT a U g mk q.1, fun z hz => q.2 z hz⟩
theorem sm_metW (hG : sm_Good Ts sx zx oc K cl Y P) (hGT : sm_GoodT Ts sx ex cl Y P) (hGW : ∀ mi M, PW mi = some M → sm_okW Ts sx zx oc K cl nc Y YW mi M) (hgw : ∀ w ∈ Ts, goodWord w = true) (hT : sm_T tys) (hfl : l.flags = pinnedFlags ++ [noTraceFlag])
    {n d mi : Nat} {M : sm_MW} {as : List Value} {h h' : sm_H} {v : Option Value} (hM : PW mi = some M) (hr : sm_runW P PW n d mi 0 (sm_entry M.1.1 as) [] h = some (v, h')) (hl : (sm_slots as).length ≤ M.1.1) :
    Met l (YW mi).1 (Cond.codeWith (YW mi).1 (YW mi).2.1 M.1.1 (YW mi).2.2 (sm_hh M.2) :: Ts) (sm_roomW d (h'.length - h.length) (sm_sl h' - sm_sl h)) (sm_PcW D cl tys sx zx oc K ex nc N0 cs as h) (sm_Qc D cl tys N0 cs K v h') (h'.length - h.length) (sm_sl h' - sm_sl h) (fun q => N0 ≤ q) := by
  obtain ⟨-, g2, -⟩ := hGW mi M hM
  refine va_MetW (cc := (YW mi).2.1) (maxL := M.1.1) (ret := (YW mi).2.2) g2 rfl ?_
  intro p e s m args below meth c s₁ B hml hv
  obtain ⟨⟨⟨rfl, hP, hK, hS⟩, hEx⟩, hN⟩ := hv
  have hts := atoms_spec (ws := Cond.codeWith (YW mi).1 (YW mi).2.1 M.1.1 (YW mi).2.2 (sm_hh M.2) :: Ts) B.pre
  obtain ⟨m9, meth9, c9, z1, z2, z3, -, -, z6, -⟩ := Cond.codeWith_spec (hts _ List.mem_cons_self)
  cases B.named.symm.trans z1
  cases B.method.symm.trans z2
  cases (Stand.of_body B).code.symm.trans z3
  rw [lg_entry_eq]
  have := sm_soundW hG hGT hGW hgw hT hfl n d mi 0 (sm_entry M.1.1 as) [] h v h' M hM hr (by simp [sm_entry]; omega) p e s m _ below meth c s.heap [] _ h B.exec B.bytes B.returns hml z6 (findClass_of_methodNamed B.named) (name_of_methodNamed B.named B.method).1 (fun w hw => hts w (List.mem_cons_of_mem _ hw)) hEx hN B.notSynchronized hK hS hP (sm_entry_LR hl) (fun _ _ => rfl) (Nat.le_refl _) (fun x hx => by cases hx) (Nat.le_refl _) (Nat.le_refl _)
  rw [Nat.sub_self, Nat.sub_self] at this
  exact this
variable {p : Program} {e : Env} {R : Room} {s : State} {m : MethodId} {args : Array Value} {below : List Frame} {meth : Method} {c : Code} {H : Heap} {locs : List Loc} {cells slots : Nat} {Q : State → Prop}
/-- a static call of a method with handlers -/
theorem sm_runSW {y : MethodName} {bytes cc : ByteArray} {maxL nL mc ms n index : Nat} {ret : Option FieldType} {hh : List (Nat × Nat × Nat × Nat)} {ws : List Cond} {rm : Room} {Pc : Array Value → State → Prop} {Qc : Array Value → State → Outcome → State → Prop} {free : Addr → Prop} {own : String} {As rest : List Value} {g : JFrame}
    (S : CallFix p m c cc nL s args Ts own) (hM : Met l y ws rm Pc Qc mc ms free) (hrc : rm.cells = mc) (hrs : rm.slots = ms) (hR : rm.frames + 1 ≤ R.frames ∧ 8 + (maxL + 11) + rm.locals ≤ R.locals) (hws : ∀ w ∈ ws, ∀ (a' : Array Value) (U : State), s.WarmedH U.vm → w.before a' U = true) (hcw : Cond.codeWith y bytes maxL ret hh ∈ ws)
    (hcode : (Cond.codeWith y bytes maxL ret hh).before args s = true) (hini : (Cond.initialized y.cls).before args s = true) (hstat : (Cond.static y).before args s = true) (hlink : (Cond.methodLink own index y).before args s = true) (hy : sm_nmh y.cls) (hpar : sm_par y.desc = some n) (hp : PreS s H Pc As)
    (hg : g.method = m) (hn : As.length = n) (hsize : g.locals.size = nL) (hstack : g.stack = As.reverse ++ rest) (hW : 2 * g.monitorRoom + (rest.map fun v => v.category).sum ≤ 8) (hdg : decode cc g.pc = .ok (.invokestatic index, 3)) (hf : cells + mc ≤ R.cells ∧ slots + ms ≤ R.slots) :
    va_Run p l e R s m args below meth c H locs cells slots mc ms g rest (Qc As.toArray) free := by
  have hK : Back l R p e below s args y 3 8 (PreOf R mc ms Pc) (PostOf Qc mc ms free) := va_backW (bytes := bytes) (maxL := maxL) (ret := ret) (hh := hh) hM hp.1 hrc hrs hR.1 hR.2 hws hcw (fun a' U hW => word_at hW (Or.inl (by first | rfl | simp [Cond.onTables, Cond.keeps, Cond.steady])) hini)
  obtain ⟨hx, hb, hml, ho, -⟩ := S
  obtain ⟨mk, methM, cM, hnamed, hmethM, -, -, -, -, -, -, hsigM⟩ := Cond.codeWith_spec hcode
  have hstatic : methM.isStatic = true := Cond.static_spec hnamed hmethM hstat
  obtain ⟨kP, hkP, -⟩ := className_of_methodNamed hnamed
  have hinitP : kP.init = .initialized := Cond.initialized_spec (findClass_of_methodNamed hnamed) hkP hini
  intro T hT X
  obtain ⟨vm₁, X₁, hstep₁⟩ := X.invokestatic hx ho hlink hnamed hmethM hstatic hkP hinitP hy (g := g) hg (argsL := As) (rest := rest) (by
      have h2 := hpar
      unfold sm_par at h2
      rw [hsigM] at h2
      exact hn.trans (Option.some.inj h2).symm) hstack (by rw [hb]; exact hdg)
  obtain ⟨v, ⟨U', l2, c2, s2⟩, X', ⟨g', mk', t, L, e1, e2, hq, h1, hL, h2, h3⟩, st⟩ := hK m meth c ⟨T.setVm vm₁, locs, cells, slots⟩ { g with stack := rest } (.invokestatic index) mk As.toArray X₁ hg (hsize.trans hml.symm) (by rw [hb]; exact hdg) hW (X₁.named hnamed) ⟨hf.1, hf.2, hp.2 (T.setVm vm₁) hT X₁.warmed⟩
  dsimp only [Pt.U, Pt.locs, Pt.cells, Pt.slots] at X' e1 e2 h1 h2 h3 st
  subst h1; subst h2; subst h3
  exact ⟨v, (T.setVm vm₁).calling g' mk' As.toArray, t, U', L, hT, X', hL, e1, e2, hq, fun target h => hstep₁ _ fun acts => by rw [doInvoke_state]; exact st.trans h⟩
end SML
end
section
/-! THE LAW's RUN is a run of the JVM -/
section SMLL
variable {l : Launch} {D : va_G} {cl : List vw_C} {tys : List (ClassId × FieldType)} {N0 : Nat} {cs : Nat → Nat} {Ts : List Cond} {sx : List (String × Nat × String × Nat)} {zx : List (String × String × String × Nat)} {oc : (List (Nat × Nat × String × String × String × Value) × List (String × Nat × MethodName × String))} {K : sm_H} {Y YW : Nat → sm_Y} {P : Nat → Option sm_M} {PW : Nat → Option sm_MW} {ex : List Cond} {nc : List (Nat × Nat)}
/-- the tables are right of the law -/
def sm_okL (Ts : List Cond) (sx : List (String × Nat × String × Nat)) (zx : List (String × String × String × Nat)) (oc : (List (Nat × Nat × String × String × String × Value) × List (String × Nat × MethodName × String))) (K : sm_H) (cl : List vw_C) (Y YW : Nat → sm_Y) (P : Nat → Option sm_M) (PW : Nat → Option sm_MW) (own mn : String) (bytes : ByteArray) (tab : List (Option sm_I)) : Prop :=
  ∀ (pc : Nat) (q : sm_I), tab[pc]? = some (some q) → decode bytes pc = .ok (q.1, q.2.1) ∧ sm_lenOk q.1 q.2.1 = true ∧ sm_okI Ts sx zx oc K cl own mn pc q.1 q.2.2 ∧
    ((∀ k mi n, q.2.2 = [k, mi, n] → (PW mi).isSome → ∃ idx, q.1 = .invokestatic idx ∧ Cond.static (YW mi).1 ∈ Ts ∧ Cond.initialized (YW mi).1.cls ∈ Ts ∧ sm_par (YW mi).1.desc = some n ∧ Cond.methodLink own idx (YW mi).1 ∈ Ts) ∧
     (∀ idx k n ps ci mi, q.1 = .invokevirtual idx → q.2.2 = k :: n :: ps → sm_pick ci ps = some mi → PW mi = none) ∧
     ((∀ k mi n, q.2.2 = [k, mi, n] → PW mi = none) → sm_okC Ts oc cl Y own q.1 q.2.2))
set_option maxHeartbeats 4000000 in
set_option maxRecDepth 100000 in
theorem sm_soundL (hG : sm_Good Ts sx zx oc K cl Y P) (hGT : sm_GoodT Ts sx ex cl Y P) (hGW : ∀ mi M, PW mi = some M → sm_okW Ts sx zx oc K cl nc Y YW mi M) (hgw : ∀ w ∈ Ts, goodWord w = true) (hT : sm_T tys) (hfl : l.flags = pinnedFlags ++ [noTraceFlag])
    {p : Program} {e : Env} {R : Room} {s : State} {m : MethodId} {args : Array Value} {below : List Frame} {meth : Method} {c : Code} {Q : State → Prop} {own : String} {cc : ByteArray} {nl : Nat} {tab : List (Option sm_I)} {h0 : sm_H}
    (hGL : sm_okL Ts sx zx oc K cl Y YW P PW own meth.name cc tab) (hx : p.tables.exec = Jvm.exec) (hb : c.code = cc) (hml : c.maxLocals = nl) (hown : s.vm.findClass own = some m.cls) (hts : ∀ w ∈ Ts, w.before args s = true) (hEx : sm_Ex ex N0 s) (hN : sm_N D nc s) (hK : va_K D cl tys s) (hS : sm_X cl K sx zx oc N0 cs s)
    (hret : ∀ (pc : Nat) (LS : Array Slot) (H : Heap) (locs : List Loc) (cells slots : Nat), decode cc pc = .ok (.ireturn, 1) → (∀ x ∈ locs, N0 ≤ x.base) → cells ≤ R.cells → slots ≤ R.slots → W p l e R s m args below meth c H locs cells slots Q (F0 m pc LS [.int 1])) :
  ∀ (n d pc : Nat) (ls : sm_L) (st : List Value) (h : sm_H) (h' : sm_H), sm_runL P PW tab n d pc ls st h = some (some (.int 1), h') → ls.length = nl → d + 20 ≤ R.frames → 64 * d + 400 ≤ R.locals → h'.length - h0.length ≤ R.cells → sm_sl h' - sm_sl h0 ≤ R.slots →
  ∀ (H : Heap) (locs : List Loc) (LS : Array Slot), sm_P D cl tys N0 cs K h H → sm_LR (sm_ad N0 cs) ls LS → (∀ q, q < N0 → H[q]? = s.heap[q]?) → s.heap.size ≤ H.size → (∀ x ∈ locs, N0 ≤ x.base) → h0.length ≤ h.length → sm_sl h0 ≤ sm_sl h →
    W p l e R s m args below meth c H locs (h.length - h0.length) (sm_sl h - sm_sl h0) Q (F0 m pc LS (st.map (sm_mv (sm_ad N0 cs)))) := by
  intro n
  induction n with
  | zero => intro d pc ls st h h' hr; simp [sm_runL] at hr
  | succ n ih =>
    intro d pc ls st h h' hr hlen hfr hlo hcR hsR H locs LS hP hL hF hZ0 hlocs hz1 hz2
    have hmono := sm_runL_mono _ _ _ _ _ _ _ _ hr
    unfold sm_runL at hr
    split at hr
    · next q hq =>
      obtain ⟨d1, d2, d3, d5, d6, d4⟩ := hGL pc q hq
      obtain ⟨i, len, rs⟩ := q
      dsimp only at d1 d2 d3 d4 d5 d6
      split at hr
      · next pc1 ls1 st1 h1 hs =>
        have hm1 := sm_step_mono hs
        have hm2 := sm_runL_mono _ _ _ _ _ _ _ _ hr
        refine sm_next (h' := h1) hx hb hts hown hK hT hS hF hZ0 d3 d2 d1 hP hL hlocs ⟨by omega, by omega⟩ (by rw [hml, hlen]) ⟨by omega, by omega⟩ hs ?_
        intro H' locs' LS' hP' hL' hF' hlocs'
        have e1 : h.length - h0.length + (h1.length - h.length) = h1.length - h0.length := by omega
        have e2 : sm_sl h - sm_sl h0 + (sm_sl h1 - sm_sl h) = sm_sl h1 - sm_sl h0 := by omega
        rw [e1, e2]
        exact ih d pc1 ls1 st1 h1 h' hr (by rw [sm_step_len hs]; exact hlen) hfr hlo hcR hsR H' locs' LS' hP' hL' (fun q hq => (hF' q hq).trans (hF q hq)) (by have z1 := hP.1; have z2 := hP'.1; omega) hlocs' (by omega) (by omega)
      · next v1 hs =>
        cases hr
        rcases sm_ret_inv hs with ⟨rfl, x, rfl, z⟩ | ⟨rfl, x, rfl, z⟩ | ⟨rfl, x, rfl, z⟩ | ⟨rfl, rfl, z⟩
        · cases z
          simp only [sm_lenOk, beq_iff_eq] at d2
          subst d2
          exact hret pc LS H locs _ _ d1 hlocs hcR hsR
        · cases z
        · cases z
        · cases z
      · next m1 as r hs =>
        split at hr
        · next d1' =>
          split at hr
          · next nl1 k1 tab1 al1 hM1 =>
            split at hr
            · next hc =>
              obtain ⟨hc1, hc2⟩ := hc
              split at hr
              · next v1 h1 hcall =>
                have hm1 := sm_runW_mono _ _ _ _ _ _ _ _ _ hcall
                have hm2 := sm_runL_mono _ _ _ _ _ _ _ _ hr
                obtain ⟨q1, q2, q3, q4, -, -⟩ := hGW m1 _ hM1
                dsimp only at q1 q4
                have hMet := sm_metW (l := l) (D := D) (tys := tys) (N0 := N0) (cs := cs) (as := as) hG hGT hGW hgw hT hfl hM1 hcall hc1
                have hgi : GoodIn Ts (Cond.codeWith (YW m1).1 (YW m1).2.1 nl1 (YW m1).2.2 (sm_hh al1) :: Ts) := sm_goodIn hgw q1
                have hpre : ∀ U : State, U.heap = H → s.WarmedH U.vm → sm_PcW D cl tys sx zx oc K ex nc N0 cs as h (as.map (sm_mv (sm_ad N0 cs))).toArray U := fun U hU hW => ⟨⟨⟨rfl, by rw [hU]; exact hP, va_K.moved hW.alike hK, hS.at_ hW (fun q hq => by rw [hU]; exact hF q hq)⟩, hEx.at_ hW (fun q hq => by rw [hU]; exact hF q hq)⟩, fun z hz => by rw [hW.alike.assignable]; exact hN z hz⟩
                have goOn : ∀ (a : Array Value), va_Run p l e R s m args below meth c H locs (h.length - h0.length) (sm_sl h - sm_sl h0) (h1.length - h.length) (sm_sl h1 - sm_sl h) (F0 m pc LS (st.map (sm_mv (sm_ad N0 cs)))) (r.map (sm_mv (sm_ad N0 cs))) (sm_Qc D cl tys N0 cs K v1 h1 a) (fun q => N0 ≤ q) →
                    W p l e R s m args below meth c H locs (h.length - h0.length) (sm_sl h - sm_sl h0) Q (F0 m pc LS (st.map (sm_mv (sm_ad N0 cs)))) := by
                  intro a hrun
                  refine sm_after hrun hlocs fun H1 locs1 hP1 hF1 hl1 => ?_
                  have e1 : h.length - h0.length + (h1.length - h.length) = h1.length - h0.length := by omega
                  have e2 : sm_sl h - sm_sl h0 + (sm_sl h1 - sm_sl h) = sm_sl h1 - sm_sl h0 := by omega
                  rw [e1, e2, ← sm_back_eq]
                  exact ih (d1' + 1) (pc + 3) ls (sm_back v1 r) h1 h' hr hlen hfr hlo hcR hsR H1 locs1 LS hP1 hL (fun q hq => (hF1 q hq).trans (hF q hq)) (by have z1 := hP.1; have z2 := hP1.1; omega) hl1 (by omega) (by omega)
                have hsome : (PW m1).isSome = true := by rw [hM1]; rfl
                rcases sm_call_inv hs with ⟨idx, k, n1, rfl, rfl, ha⟩ | ⟨idx, k, n1, b, bs, rfl, rfl, ha, rfl⟩ | ⟨idx, k, n1, ps, b, bs, ci, fs, rfl, rfl, ha, rfl, hbc, hpk⟩
                · simp only [sm_lenOk, beq_iff_eq] at d2
                  subst d2
                  obtain ⟨idx', z1, w1, w2, w3, w4⟩ := d5 k m1 n1 rfl hsome
                  cases z1
                  obtain ⟨ea, el⟩ := sm_args_inv ha
                  have hst : (st.map (sm_mv (sm_ad N0 cs))) = (as.map (sm_mv (sm_ad N0 cs))).reverse ++ r.map (sm_mv (sm_ad N0 cs)) := by rw [ea, List.map_append, List.map_reverse]
                  exact goOn _ (sm_runSW (bytes := (YW m1).2.1) (maxL := nl1) (ret := (YW m1).2.2) (hh := sm_hh al1) (As := as.map (sm_mv (sm_ad N0 cs))) ⟨hx, hb, hml, hown, hts⟩ hMet rfl rfl ⟨by have z : (sm_roomW d1' (h1.length - h.length) (sm_sl h1 - sm_sl h)).frames = d1' + 9 := rfl; rw [z]; omega, by have z : (sm_roomW d1' (h1.length - h.length) (sm_sl h1 - sm_sl h)).locals = 64 * d1' + 256 := rfl; rw [z]; omega⟩ (pay_in hts hgi) List.mem_cons_self (hts _ q1) (hts _ w2) (hts _ w1) (hts _ w4) q3 w3 ⟨sm_blindW, hpre⟩ rfl (by rw [List.length_map]; exact el) (hL.1.trans hlen) hst (sm_catsum hc2) d1 ⟨by omega, by omega⟩)
                · obtain ⟨idx', z1, -⟩ := d5 k m1 n1 rfl hsome
                  cases z1
                · have := d6 idx k n1 ps ci m1 rfl rfl hpk
                  rw [hM1] at this
                  cases this
              · cases hr
            · cases hr
          · next hMn =>
            split at hr
            · next nl1 k1 tab1 hM1 =>
              split at hr
              · next hc =>
                obtain ⟨hc1, hc2⟩ := hc
                split at hr
                · next v1 h1 hcall =>
                  have hm1 := sm_run_mono _ _ _ _ _ _ _ _ _ hcall
                  have hm2 := sm_runL_mono _ _ _ _ _ _ _ _ hr
                  have hcc : sm_okC Ts oc cl Y own i rs := d4 (fun k mi n1 z => by
                    rcases sm_call_inv hs with ⟨idx, k2, n2, -, z2, -⟩ | ⟨idx, k2, n2, b, bs, -, z2, -, -⟩ | ⟨idx, k2, n2, ps, b, bs, ci, fs, z3, z2, ha, -, -, hpk⟩
                    · dsimp only at z2
                      rw [z] at z2
                      cases z2
                      exact hMn
                    · dsimp only at z2
                      rw [z] at z2
                      cases z2
                      exact hMn
                    · dsimp only at z2
                      rw [z] at z2
                      cases z2
                      simp [sm_pick] at hpk)
                  refine sm_callW hG hgw hT hx hb hml hown hts hK hS hP (hL.1.trans hlen) hF hlocs d1 d2 hcc hs hM1 hc1 hc2 hcall (by omega) (by omega) ⟨by omega, by omega⟩ ?_
                  intro H1 locs1 hP1 hF1 hl1
                  have e1 : h.length - h0.length + (h1.length - h.length) = h1.length - h0.length := by omega
                  have e2 : sm_sl h - sm_sl h0 + (sm_sl h1 - sm_sl h) = sm_sl h1 - sm_sl h0 := by omega
                  rw [e1, e2]
                  exact ih (d1' + 1) (pc + 3) ls (sm_back v1 r) h1 h' hr hlen hfr hlo hcR hsR H1 locs1 LS hP1 hL (fun q hq => (hF1 q hq).trans (hF q hq)) (by have z1 := hP.1; have z2 := hP1.1; omega) hl1 (by omega) (by omega)
                · cases hr
              · cases hr
            · cases hr
        · cases hr
      · cases hr
    · cases hr
end SMLL
end
section
/-! THE SAME MACHINE WITH UNKNOWN NUMBERS: .retAddr k stands for an int of which nothing is known but what is written in a list of facts, .double u for such a long; arrays are lists of what was written. All of it is first-order, so that a run is decided by computation. -/
def sa_g (ρ : Nat → Int32) (μ : UInt64 → Int64) (v : Value) : Value := match v with
  | .retAddr k => .int (ρ k)
  | .double u => .long (μ u)
  | .int x => .int x
  | .long x => .long x
  | .float x => .float x
  | .ref x => .ref x
  | .null => .null
abbrev sa_E : Type := (Nat × Nat × List (Nat × Value)) ⊕ (Nat × List Value)
abbrev sa_H : Type := List sa_E
def sa_look : List (Nat × Value) → Nat → Option Value
  | [], _ => none
  | (k, v) :: r, i => if i = k then some v else sa_look r i
def sa_i (v : Value) : Int32 := match v with
  | .int x => x
  | _ => 0
def sa_l (v : Value) : Int64 := match v with
  | .long x => x
  | _ => 0
abbrev sa_gl (ρ : Nat → Int32) (μ : UInt64 → Int64) (ls : sm_L) : sm_L := ls.map (Option.map (sa_g ρ μ))
abbrev sa_gs (ρ : Nat → Int32) (μ : UInt64 → Int64) (st : List Value) : List Value := st.map (sa_g ρ μ)
def sa_fi (ρ : Nat → Int32) (μ : UInt64 → Int64) (l : List (Nat × Value)) : Nat → Int32 := fun i => match sa_look l i with
  | some v => sa_i (sa_g ρ μ v)
  | none => 0
def sa_fl (ρ : Nat → Int32) (μ : UInt64 → Int64) (l : List (Nat × Value)) : Nat → Int64 := fun i => match sa_look l i with
  | some v => sa_l (sa_g ρ μ v)
  | none => 0
def sa_ge (ρ : Nat → Int32) (μ : UInt64 → Int64) (e : sa_E) : sm_E := match e with
  | .inl (t, n, l) => .inl (t, n, if t = 1 then .inr (.inl (sa_fl ρ μ l)) else .inl (sa_fi ρ μ l))
  | .inr (ci, fs) => .inr (ci, fs.map (sa_g ρ μ))
abbrev sa_gh (ρ : Nat → Int32) (μ : UInt64 → Int64) (h : sa_H) : sm_H := h.map (sa_ge ρ μ)
abbrev sa_R : Type := (Nat × sm_L × List Value × sa_H) ⊕ (Option Value ⊕ (Nat × List Value × List Value))
def sa_gr (ρ : Nat → Int32) (μ : UInt64 → Int64) (r : sa_R) : sm_R := match r with
  | .inl (pc, ls, st, h) => .inl (pc, sa_gl ρ μ ls, sa_gs ρ μ st, sa_gh ρ μ h)
  | .inr (.inl v) => .inr (.inl (v.map (sa_g ρ μ)))
  | .inr (.inr (m, as, r)) => .inr (.inr (m, sa_gs ρ μ as, sa_gs ρ μ r))
/-- facts: (what, of which, and which, is) -/
abbrev sa_F : Type := List (Nat × Value × Value × Value)
def sa_fact : sa_F → Nat → Value → Value → Option Value
  | [], _, _, _ => none
  | (k, a, b, z) :: r, c, x, y => if k = c ∧ a = x ∧ b = y then some z else sa_fact r c x y
def sa_cc (c : ClassFile.Cond) : Nat := match c with
  | .eq => 10
  | .ne => 11
  | .lt => 12
  | .ge => 13
  | .gt => 14
  | .le => 15
/-- a fact is true -/
def sa_true (ρ : Nat → Int32) (μ : UInt64 → Int64) (f : Nat × Value × Value × Value) : Prop :=
  (f.1 = 1 ∧ ∃ x y, sa_g ρ μ f.2.1 = .int x ∧ sa_g ρ μ f.2.2.1 = .int y ∧ sa_g ρ μ f.2.2.2 = .int (x &&& y)) ∨
  (f.1 = 2 ∧ ∃ x, sa_g ρ μ f.2.1 = .int x ∧ sa_g ρ μ f.2.2.2 = .int (sm_chr x)) ∨
  (f.1 = 3 ∧ ∃ x, sa_g ρ μ f.2.1 = .int x ∧ sa_g ρ μ f.2.2.2 = .long x.toInt64) ∨
  (f.1 = 4 ∧ ∃ x y, sa_g ρ μ f.2.1 = .long x ∧ sa_g ρ μ f.2.2.1 = .int y ∧ sa_g ρ μ f.2.2.2 = .long (x <<< (y.toInt64 &&& 63))) ∨
  (f.1 = 5 ∧ ∃ x y, sa_g ρ μ f.2.1 = .long x ∧ sa_g ρ μ f.2.2.1 = .long y ∧ sa_g ρ μ f.2.2.2 = .long (x &&& y)) ∨
  (f.1 = 6 ∧ ∃ x y, sa_g ρ μ f.2.1 = .long x ∧ sa_g ρ μ f.2.2.1 = .long y ∧ sa_g ρ μ f.2.2.2 = .long (x ||| y)) ∨
  (∃ c x y, f.1 = sa_cc c ∧ sa_g ρ μ f.2.1 = .int x ∧ sa_g ρ μ f.2.2.1 = .int y ∧ f.2.2.2 = .int (if sm_cmp c x y then 1 else 0)) ∨
  (f.1 = 30 ∧ ∃ x y, sa_g ρ μ f.2.1 = .int x ∧ f.2.2.1 = .int y ∧ (x.toInt < 0 ∨ y.toInt < x.toInt))
def sa_isI (v : Value) : Bool := match v with | .int _ => true | .retAddr _ => true | _ => false
def sa_isL (v : Value) : Bool := match v with | .long _ => true | .double _ => true | _ => false
def sa_nx (pc : Nat) (ls : sm_L) (st : List Value) (h : sa_H) : Option sa_R := some (.inl (pc, ls, st, h))
def sa_load (k : Value → Bool) (n i pc : Nat) (ls : sm_L) (st : List Value) (h : sa_H) : Option sa_R := match sm_lget ls i with
  | some v => if k v then sa_nx (pc + n) ls (v :: st) h else none
  | none => none
def sa_store1 (n i pc : Nat) (ls : sm_L) (st : List Value) (h : sa_H) : Option sa_R := match st with
  | v :: r => if sa_isI v then (match sm_put1 ls i v with
    | some ls' => sa_nx (pc + n) ls' r h
    | none => none) else none
  | _ => none
def sa_store2 (n i pc : Nat) (ls : sm_L) (st : List Value) (h : sa_H) : Option sa_R := match st with
  | v :: r => if sa_isL v then (match sm_put2 ls i v with
    | some ls' => sa_nx (pc + n) ls' r h
    | none => none) else none
  | _ => none
def sa_ald (t pc : Nat) (ls : sm_L) (st : List Value) (h : sa_H) : Option sa_R := match st with
  | .int i :: .ref a :: r => match h[a]? with
    | some (.inl (t', n, l)) => if t' = t ∧ t ≠ 1 ∧ sm_ix i n ∧ (sm_C ≤ a ∨ t = 0 ∨ t = 4) then (match (sa_look l i.toNatClampNeg).getD (.int 0) with
      | .int x => sa_nx (pc + 1) ls (.int x :: r) h
      | .retAddr k => sa_nx (pc + 1) ls (.retAddr k :: r) h
      | _ => none) else none
    | _ => none
  | _ => none
def sa_aldL (pc : Nat) (ls : sm_L) (st : List Value) (h : sa_H) : Option sa_R := match st with
  | .int i :: .ref a :: r => match h[a]? with
    | some (.inl (t', n, l)) => if t' = 1 ∧ sm_ix i n ∧ sm_C ≤ a then (match (sa_look l i.toNatClampNeg).getD (.long 0) with
      | .long x => sa_nx (pc + 1) ls (.long x :: r) h
      | _ => none) else none
    | _ => none
  | _ => none
/-- what is put into an array of a kind: 0 ints, 2 chars, 3 booleans -/
def sa_in (F : sa_F) (t : Nat) (v : Value) : Option Value := match t, v with
  | 0, .int x => some (.int x)
  | 0, .retAddr k => some (.retAddr k)
  | 2, .int x => some (.int (sm_chr x))
  | 2, .retAddr k => match sa_fact F 2 (.retAddr k) .null with
    | some (.retAddr j) => some (.retAddr j)
    | _ => none
  | 3, .int x => some (.int (x &&& 1))
  | _, _ => none
def sa_ast (F : sa_F) (t pc : Nat) (ls : sm_L) (st : List Value) (h : sa_H) : Option sa_R := match st with
  | v :: .int i :: .ref a :: r => match sa_in F t v with
    | some w => match h[a]? with
      | some (.inl (t', n, l)) => if t' = t ∧ t ≠ 1 ∧ sm_ix i n ∧ sm_C ≤ a then sa_nx (pc + 1) ls r (h.set a (.inl (t', n, (i.toNatClampNeg, w) :: l))) else none
      | _ => none
    | none => none
  | _ => none
def sa_astL (pc : Nat) (ls : sm_L) (st : List Value) (h : sa_H) : Option sa_R := match st with
  | .long x :: .int i :: .ref a :: r => match h[a]? with
    | some (.inl (t', n, l)) => if t' = 1 ∧ sm_ix i n ∧ sm_C ≤ a then sa_nx (pc + 1) ls r (h.set a (.inl (t', n, (i.toNatClampNeg, .long x) :: l))) else none
    | _ => none
  | _ => none
def sa_getf (rs : List Nat) (pc : Nat) (ls : sm_L) (st : List Value) (h : sa_H) : Option sa_R := match st, rs with
  | .ref a :: r, k :: z :: cs => match h[a]? with
    | some (.inr (ci, fs)) => if ci ∈ cs ∧ ((z = 0 ∧ sm_C ≤ a) ∨ (z ≠ 0 ∧ a < sm_C)) then (match fs[k]? with
      | some v => sa_nx (pc + 3) ls (v :: r) h
      | none => none) else none
    | _ => none
  | _, _ => none
def sa_putf (rs : List Nat) (pc : Nat) (ls : sm_L) (st : List Value) (h : sa_H) : Option sa_R := match st, rs with
  | v :: .ref a :: r, k :: t :: _ :: cs => match h[a]? with
    | some (.inr (ci, fs)) => if ci ∈ cs ∧ k < fs.length ∧ sm_fit t v ∧ sm_C ≤ a then sa_nx (pc + 3) ls r (h.set a (.inr (ci, fs.set k v))) else none
    | _ => none
  | _, _ => none
def sa_newo (rs : List Nat) (pc : Nat) (ls : sm_L) (st : List Value) (h : sa_H) : Option sa_R := match rs with
  | ci :: ts => if ci = 1000 then none else sa_nx (pc + 3) ls (.ref h.length :: st) (h ++ [.inr (ci, ts.map sm_dflt)])
  | _ => none
def sa_newa (rs : List Nat) (pc : Nat) (ls : sm_L) (st : List Value) (h : sa_H) : Option sa_R := match st, rs with
  | .int n :: r, [t] => if ¬ n < 0 ∧ n.toNatClampNeg ≤ 65536 then sa_nx (pc + 2) ls (.ref h.length :: r) (h ++ [.inl (t, n.toNatClampNeg, [])]) else none
  | _, _ => none
def sa_callV (rs : List Nat) (st : List Value) (h : sa_H) : Option sa_R := match rs with
  | _ :: n :: ps => match sm_args (n + 1) st with
    | some (.ref a :: as, r) => match h[a]? with
      | some (.inr (ci, _)) => match sm_pick ci ps with
        | some m => some (.inr (.inr (m, .ref a :: as, r)))
        | none => none
      | _ => none
    | _ => none
  | _ => none
def sa_alen (pc : Nat) (ls : sm_L) (st : List Value) (h : sa_H) : Option sa_R := match st with
  | .ref a :: r => match h[a]? with
    | some (.inl (t, n, _)) => if (sm_ty t).isSome then sa_nx (pc + 1) ls (.int (Int32.ofNat n) :: r) h else none
    | _ => none
  | _ => none
/-- an instruction that does not look at the cells -/
def sa_pure (r : Option sm_R) (h : sa_H) : Option sa_R := match r with
  | some (.inl (pc, ls, st, _)) => some (.inl (pc, ls, st, h))
  | some (.inr x) => some (.inr x)
  | none => none
/-- a number made of unknown ones, by a fact -/
def sa_bin (F : sa_F) (c pc : Nat) (ls : sm_L) (st : List Value) (h : sa_H) : Option sa_R := match st with
  | y :: x :: r => match sa_fact F c x y with
    | some z => sa_nx (pc + 1) ls (z :: r) h
    | none => none
  | _ => none
def sa_un (F : sa_F) (c pc : Nat) (ls : sm_L) (st : List Value) (h : sa_H) : Option sa_R := match st with
  | x :: r => match sa_fact F c x .null with
    | some z => sa_nx (pc + 1) ls (z :: r) h
    | none => none
  | _ => none
def sa_br (F : sa_F) (c : ClassFile.Cond) (x y : Value) (pc : Nat) (off : Int) (ls : sm_L) (r : List Value) (h : sa_H) : Option sa_R := match sa_fact F (sa_cc c) x y with
  | some (.int b) => if b = 1 then sa_nx (sm_jmp pc off) ls r h else if b = 0 then sa_nx (pc + 3) ls r h else none
  | _ => none
def sa_tok (v : Value) : Bool := match v with | .retAddr _ => true | .double _ => true | _ => false
def sa_top1 (st : List Value) : Bool := match st with | v :: _ => sa_tok v | _ => false
def sa_top2 (st : List Value) : Bool := match st with | v :: w :: _ => sa_tok v || sa_tok w | _ => false
def sa_step (F : sa_F) (q : sm_I) (pc : Nat) (ls : sm_L) (st : List Value) (h : sa_H) : Option sa_R := match q with
  | (i, len, rs) => match i with
    | .iload_n k => sa_load sa_isI 1 k pc ls st h
    | .iload k => sa_load sa_isI 2 k pc ls st h
    | .lload_n k => sa_load sa_isL 1 k pc ls st h
    | .lload k => sa_load sa_isL 2 k pc ls st h
    | .istore_n k => sa_store1 1 k pc ls st h
    | .istore k => sa_store1 2 k pc ls st h
    | .lstore_n k => sa_store2 1 k pc ls st h
    | .lstore k => sa_store2 2 k pc ls st h
    | .iaload => sa_ald 0 pc ls st h
    | .caload => sa_ald 2 pc ls st h
    | .baload => match sa_ald 3 pc ls st h with
      | some r => some r
      | none => sa_ald 4 pc ls st h
    | .laload => sa_aldL pc ls st h
    | .iastore => sa_ast F 0 pc ls st h
    | .castore => sa_ast F 2 pc ls st h
    | .bastore => sa_ast F 3 pc ls st h
    | .lastore => sa_astL pc ls st h
    | .arraylength => sa_alen pc ls st h
    | .getfield _ => sa_getf rs pc ls st h
    | .putfield _ => sa_putf rs pc ls st h
    | .new _ => sa_newo rs pc ls st h
    | .newarray _ => sa_newa rs pc ls st h
    | .invokevirtual _ => sa_callV rs st h
    | .iand => if sa_top2 st then sa_bin F 1 pc ls st h else sa_pure (sm_step q pc ls st []) h
    | .i2c => if sa_top1 st then sa_un F 2 pc ls st h else sa_pure (sm_step q pc ls st []) h
    | .i2l => if sa_top1 st then sa_un F 3 pc ls st h else sa_pure (sm_step q pc ls st []) h
    | .lshl => if sa_top2 st then sa_bin F 4 pc ls st h else sa_pure (sm_step q pc ls st []) h
    | .land => if sa_top2 st then sa_bin F 5 pc ls st h else sa_pure (sm_step q pc ls st []) h
    | .lor => if sa_top2 st then sa_bin F 6 pc ls st h else sa_pure (sm_step q pc ls st []) h
    | .if_icmp c off => if sa_top2 st then (match st with
      | y :: x :: r => sa_br F c x y pc off ls r h
      | _ => none) else sa_pure (sm_step q pc ls st []) h
    | .ifCond c off => if sa_top1 st then (match st with
      | x :: r => sa_br F c x (.int 0) pc off ls r h
      | _ => none) else sa_pure (sm_step q pc ls st []) h
    | .tableswitch d lo hi _ => if sa_top1 st then (match st with
      | x :: r => if lo = 0 ∧ 0 ≤ hi ∧ hi < 1000 then (match sa_fact F 30 x (.int (Int32.ofInt hi)) with
        | some _ => sa_nx (sm_jmp pc d) ls r h
        | none => none) else none
      | _ => none) else sa_pure (sm_step q pc ls st []) h
    | _ => sa_pure (sm_step q pc ls st []) h
end
section
theorem sm_thr_step {q : sm_I} {x pc : Nat} {ls : sm_L} {st : List Value} {h : sm_H} (ht : sm_thr q = some x) : sm_step q pc ls st h = none := by
  unfold sm_thr at ht
  split at ht
  · next a y =>
    split at ht
    · next ha => subst ha; simp [sm_step, sm_newo]
    · cases ht
  · cases ht
/-! A STEP with unknown numbers is a step whatever they are -/
section SAS
variable {ρ : Nat → Int32} {μ : UInt64 → Int64}
theorem sa_cat (v : Value) : (sa_g ρ μ v).category = v.category := by cases v <;> rfl
theorem sa_cats (r : List Value) : ((r.map (sa_g ρ μ)).map fun v => v.category).sum = (r.map fun v => v.category).sum := by
  rw [List.map_map, show ((fun v : Value => v.category) ∘ sa_g ρ μ) = fun v : Value => v.category from funext fun v => sa_cat v]
theorem sa_lget (ls : sm_L) (i : Nat) : sm_lget (sa_gl ρ μ ls) i = (sm_lget ls i).map (sa_g ρ μ) := by
  unfold sm_lget
  rw [List.getElem?_map]
  cases ls[i]? with
  | none => rfl
  | some o => cases o <;> rfl
theorem sa_kill (ls : sm_L) (i : Nat) : sm_kill (sa_gl ρ μ ls) i = sa_gl ρ μ (sm_kill ls i) := by
  unfold sm_kill
  cases i with
  | zero => rfl
  | succ j =>
    dsimp only
    rw [List.getElem?_map]
    cases ls[j]? with
    | none => rfl
    | some o =>
      cases o with
      | none => rfl
      | some v =>
        simp only [Option.map_some, sa_cat]
        split
        · simp [List.map_set]
        · rfl
theorem sa_put1 {ls ls' : sm_L} {i : Nat} {v : Value} (h : sm_put1 ls i v = some ls') : sm_put1 (sa_gl ρ μ ls) i (sa_g ρ μ v) = some (sa_gl ρ μ ls') := by
  obtain ⟨hl, rfl⟩ := sm_put1_len h
  unfold sm_put1
  rw [if_pos (by simpa using hl), sa_kill]
  simp [List.map_set]
theorem sa_put2 {ls ls' : sm_L} {i : Nat} {v : Value} (h : sm_put2 ls i v = some ls') : sm_put2 (sa_gl ρ μ ls) i (sa_g ρ μ v) = some (sa_gl ρ μ ls') := by
  obtain ⟨hl, rfl⟩ := sm_put2_len h
  unfold sm_put2
  rw [if_pos (by simpa using hl), sa_kill]
  simp [List.map_set]
theorem sa_args {n : Nat} {st as r : List Value} (h : sm_args n st = some (as, r)) : sm_args n (sa_gs ρ μ st) = some (sa_gs ρ μ as, sa_gs ρ μ r) := by
  unfold sm_args at h ⊢
  split at h
  · next hl =>
    cases h
    rw [if_pos (by simpa using hl)]
    simp [List.map_take, List.map_drop]
  · cases h
theorem sa_fact_mem {c : Nat} {x y z : Value} : ∀ F : sa_F, sa_fact F c x y = some z → (c, x, y, z) ∈ F := by
  intro F
  induction F with
  | nil => intro h; simp [sa_fact] at h
  | cons f F ih =>
    obtain ⟨k, a, b, w⟩ := f
    intro h
    simp only [sa_fact] at h
    split at h
    · next hc => obtain ⟨rfl, rfl, rfl⟩ := hc; cases h; exact List.mem_cons_self
    · exact List.mem_cons_of_mem _ (ih h)
theorem sa_isI_g {v : Value} (h : sa_isI v = true) : sm_isI (sa_g ρ μ v) = true := by cases v <;> simp [sa_isI] at h <;> rfl
theorem sa_isL_g {v : Value} (h : sa_isL v = true) : ∃ x, sa_g ρ μ v = .long x := by cases v <;> simp [sa_isL] at h <;> exact ⟨_, rfl⟩
theorem sa_hget {h : sa_H} {a : Nat} {e : sa_E} (he : h[a]? = some e) : (sa_gh ρ μ h)[a]? = some (sa_ge ρ μ e) := by rw [List.getElem?_map, he]; rfl
theorem sa_upd (l : List (Nat × Value)) (k : Nat) (w : Value) : sa_fi ρ μ ((k, w) :: l) = upd (sa_fi ρ μ l) k (sa_i (sa_g ρ μ w)) := by
  funext j
  simp only [sa_fi, sa_look, upd]
  by_cases hj : j = k
  · simp [hj]
  · simp [hj]
theorem sa_updL (l : List (Nat × Value)) (k : Nat) (w : Value) : sa_fl ρ μ ((k, w) :: l) = vp_updL (sa_fl ρ μ l) k (sa_l (sa_g ρ μ w)) := by
  funext j
  simp only [sa_fl, sa_look, vp_updL]
  by_cases hj : j = k
  · simp [hj]
  · simp [hj]
/-- the instructions that look at the cells, and those that move numbers -/
def sa_heapI (i : Instr) : Bool := match i with
  | .iload_n _ | .iload _ | .lload_n _ | .lload _ | .istore_n _ | .istore _ | .lstore_n _ | .lstore _ => true
  | .iaload | .caload | .baload | .laload | .iastore | .castore | .bastore | .lastore | .arraylength | .getfield _ | .putfield _ | .new _ | .newarray _ | .invokevirtual _ => true
  | _ => false
set_option maxHeartbeats 4000000 in
theorem sa_pure_ok {q : sm_I} {pc : Nat} {ls : sm_L} {st : List Value} {h : sa_H} {r : sa_R} (hn : sa_heapI q.1 = false) (hs : sa_pure (sm_step q pc ls st []) h = some r) : sm_step q pc (sa_gl ρ μ ls) (sa_gs ρ μ st) (sa_gh ρ μ h) = some (sa_gr ρ μ r) := by
  obtain ⟨i, len, rs⟩ := q
  cases i with
  | iload_n _ | iload _ | lload_n _ | lload _ | istore_n _ | istore _ | lstore_n _ | lstore _ => cases hn
  | iaload | caload | baload | laload | iastore | castore | bastore | lastore | arraylength | getfield _ | putfield _ | new _ | newarray _ | invokevirtual _ => cases hn
  | aload_n k =>
    simp only [sm_step, sm_loadK] at hs ⊢
    rw [sa_lget]
    split at hs
    · next v hv =>
      split at hs
      · next hk =>
        cases hs
        rw [hv]
        cases v <;> simp [sm_isA] at hk
        rfl
      · cases hs
    · cases hs
  | aload k =>
    simp only [sm_step, sm_loadK] at hs ⊢
    rw [sa_lget]
    split at hs
    · next v hv =>
      split at hs
      · next hk =>
        cases hs
        rw [hv]
        cases v <;> simp [sm_isA] at hk
        rfl
      · cases hs
    · cases hs
  | astore_n k =>
    simp only [sm_step, sm_store1] at hs ⊢
    split at hs
    · next v r0 =>
      split at hs
      · next hk =>
        cases hp : sm_put1 ls k v with
        | none => rw [hp] at hs; cases hs
        | some l2 =>
          rw [hp] at hs
          cases hs
          cases v <;> simp [sm_isA] at hk
          have := sa_put1 (ρ := ρ) (μ := μ) hp
          simp only [sa_g] at this
          simp [sa_g, sm_isA, this, sm_nx, sa_gr]
      · cases hs
    · cases hs
  | astore k =>
    simp only [sm_step, sm_store1] at hs ⊢
    split at hs
    · next v r0 =>
      split at hs
      · next hk =>
        cases hp : sm_put1 ls k v with
        | none => rw [hp] at hs; cases hs
        | some l2 =>
          rw [hp] at hs
          cases hs
          cases v <;> simp [sm_isA] at hk
          have := sa_put1 (ρ := ρ) (μ := μ) hp
          simp only [sa_g] at this
          simp [sa_g, sm_isA, this, sm_nx, sa_gr]
      · cases hs
    · cases hs
  | iinc k n =>
    simp only [sm_step] at hs ⊢
    rw [sa_lget]
    split at hs
    · next x hx =>
      rw [hx]
      cases hp : sm_put1 ls k (.int (x + Int32.ofInt n)) with
      | none => rw [hp] at hs; cases hs
      | some l2 =>
        rw [hp] at hs
        cases hs
        have := sa_put1 (ρ := ρ) (μ := μ) hp
        simp only [sa_g] at this
        simp [sa_g, this, sm_nx, sa_gr]
    · cases hs
  | dup =>
    simp only [sm_step] at hs
    split at hs
    · next v r0 =>
      split at hs
      · next hc =>
        cases hs
        simp only [sm_step, sa_gs, List.map_cons, sa_cat]
        rw [if_pos hc]
        rfl
      · cases hs
    · cases hs
  | pop =>
    simp only [sm_step] at hs
    split at hs
    · next v r0 =>
      split at hs
      · next hc =>
        cases hs
        simp only [sm_step, sa_gs, List.map_cons, sa_cat]
        rw [if_pos hc]
        rfl
      · cases hs
    · cases hs
  | dup_x1 =>
    simp only [sm_step] at hs
    split at hs
    · next v w r0 =>
      split at hs
      · next hc =>
        cases hs
        simp only [sm_step, sa_gs, List.map_cons, sa_cat]
        rw [if_pos hc]
        rfl
      · cases hs
    · cases hs
  | dup_x2 =>
    simp only [sm_step] at hs
    split at hs
    · next v w u r0 =>
      split at hs
      · next hc =>
        cases hs
        simp only [sm_step, sa_gs, List.map_cons, sa_cat]
        rw [if_pos hc]
        rfl
      · cases hs
    · cases hs
  | dup2 =>
    simp only [sm_step] at hs
    split at hs
    · cases hs
      rfl
    · next v w r0 hnl =>
      split at hs
      · next hc =>
        cases hs
        obtain ⟨h1, h2⟩ := hc
        have h3 : (sa_g ρ μ w).category = 1 := by rw [sa_cat]; exact h2
        cases v <;> first
          | (cases h1; done)
          | (simp only [sm_step, sa_gs, List.map_cons]; exact if_pos ⟨rfl, h3⟩)
      · cases hs
    · cases hs
  | pop2 =>
    simp only [sm_step] at hs
    split at hs
    · cases hs
      rfl
    · next v w r0 hnl =>
      split at hs
      · next hc =>
        cases hs
        obtain ⟨h1, h2⟩ := hc
        have h3 : (sa_g ρ μ w).category = 1 := by rw [sa_cat]; exact h2
        cases v <;> first
          | (cases h1; done)
          | (simp only [sm_step, sa_gs, List.map_cons]; exact if_pos ⟨rfl, h3⟩)
      · cases hs
    · cases hs
  | invokestatic idx =>
    simp only [sm_step, sm_callS] at hs ⊢
    split at hs
    · split at hs
      · split at hs
        · next hc =>
          cases hs
          simp [sa_g, hc, sa_cats, sm_nx, sa_gr, ← List.map_map]
        · cases hs
      · cases hs
    · split at hs
      · split at hs
        · next hc =>
          cases hs
          simp [sa_g, hc, sa_cats, sm_nx, sa_gr, ← List.map_map]
        · cases hs
      · cases hs
    · split at hs
      · split at hs
        · next ha =>
          cases hs
          rw [sa_args ha]
          rfl
        · cases hs
      · cases hs
  | invokespecial idx =>
    simp only [sm_step, sm_callI] at hs ⊢
    split at hs
    · split at hs
      · split at hs
        · next hc =>
          cases hs
          simp [sa_g, hc, sa_cats, sm_nx, sa_gr, ← List.map_map]
        · cases hs
      · cases hs
    · split at hs
      · split at hs
        · next ha =>
          cases hs
          rw [sa_args ha]
          rfl
        · cases hs
      · cases hs
  | _ =>
    simp only [sm_step, sm_bin, sm_binL, sm_if, sm_nx, sm_ret] at hs
    repeat' split at hs
    all_goals first
      | (cases hs; done)
      | (cases hs; simp [sm_step, sm_bin, sm_binL, sm_if, sm_nx, sm_ret, sa_g, sa_gr, *]; done)
      | (cases hs; simp [sm_step, sm_bin, sm_binL, sm_if, sm_nx, sm_ret, sa_g, sa_gr, sa_cat, *]; done)
end SAS
end
section
section SAT
variable {ρ : Nat → Int32} {μ : UInt64 → Int64}
theorem sa_ald_ok {t pc : Nat} {ls : sm_L} {st : List Value} {h : sa_H} {r : sa_R} (hs : sa_ald t pc ls st h = some r) : sm_ald t pc (sa_gl ρ μ ls) (sa_gs ρ μ st) (sa_gh ρ μ h) = some (sa_gr ρ μ r) ∧ ∀ t', t' ≠ t → sm_ald t' pc (sa_gl ρ μ ls) (sa_gs ρ μ st) (sa_gh ρ μ h) = none := by
  unfold sa_ald at hs
  split at hs
  · next i a r0 =>
    split at hs
    · next t' n l ha =>
      split at hs
      · next hc =>
        obtain ⟨rfl, ht, hi, hC⟩ := hc
        have e1 : sa_gs ρ μ (.int i :: .ref a :: r0) = .int i :: .ref a :: sa_gs ρ μ r0 := rfl
        have e2 : (sa_gh ρ μ h)[a]? = some (.inl (t', n, .inl (sa_fi ρ μ l))) := by rw [sa_hget ha]; simp [sa_ge, ht]
        refine ⟨?_, fun t2 h2 => ?_⟩
        · rw [e1]
          simp only [sm_ald, e2]
          rw [if_pos ⟨trivial, hi, hC⟩]
          split at hs
          · next x hx =>
            cases hs
            have : sa_fi ρ μ l i.toNatClampNeg = x := by
              unfold sa_fi
              cases hl : sa_look l i.toNatClampNeg with
              | none => rw [hl] at hx; cases hx; rfl
              | some v => rw [hl] at hx; cases hx; rfl
            rw [this]
            rfl
          · next k hx =>
            cases hs
            have : sa_fi ρ μ l i.toNatClampNeg = ρ k := by
              unfold sa_fi
              cases hl : sa_look l i.toNatClampNeg with
              | none => rw [hl] at hx; cases hx
              | some v => rw [hl] at hx; cases hx; rfl
            rw [this]
            rfl
          · cases hs
        · rw [e1]
          simp only [sm_ald, e2]
          rw [if_neg (fun z => h2 z.1.symm)]
      · cases hs
    · cases hs
  · cases hs
theorem sa_aldL_ok {pc : Nat} {ls : sm_L} {st : List Value} {h : sa_H} {r : sa_R} (hs : sa_aldL pc ls st h = some r) : sm_aldL pc (sa_gl ρ μ ls) (sa_gs ρ μ st) (sa_gh ρ μ h) = some (sa_gr ρ μ r) := by
  unfold sa_aldL at hs
  split at hs
  · next i a r0 =>
    split at hs
    · next t' n l ha =>
      split at hs
      · next hc =>
        obtain ⟨rfl, hi, hC⟩ := hc
        have e1 : sa_gs ρ μ (.int i :: .ref a :: r0) = .int i :: .ref a :: sa_gs ρ μ r0 := rfl
        have e2 : (sa_gh ρ μ h)[a]? = some (.inl (1, n, .inr (.inl (sa_fl ρ μ l)))) := by rw [sa_hget ha]; simp [sa_ge]
        rw [e1]
        simp only [sm_aldL, e2]
        rw [if_pos ⟨trivial, hi, hC⟩]
        split at hs
        · next x hx =>
          cases hs
          have : sa_fl ρ μ l i.toNatClampNeg = x := by
            unfold sa_fl
            cases hl : sa_look l i.toNatClampNeg with
            | none => rw [hl] at hx; cases hx; rfl
            | some v => rw [hl] at hx; cases hx; rfl
          rw [this]
          rfl
        · cases hs
      · cases hs
    · cases hs
  · cases hs
theorem sa_t1 {x y z : Value} (h : sa_true ρ μ (1, x, y, z)) : ∃ a b, sa_g ρ μ x = .int a ∧ sa_g ρ μ y = .int b ∧ sa_g ρ μ z = .int (a &&& b) := by
  rcases h with ⟨-, h⟩ | ⟨e, -⟩ | ⟨e, -⟩ | ⟨e, -⟩ | ⟨e, -⟩ | ⟨e, -⟩ | ⟨c, _, _, e, -⟩ | ⟨e, -⟩
  · exact h
  · cases e
  · cases e
  · cases e
  · cases e
  · cases e
  · cases c <;> cases e
  · cases e
theorem sa_t2 {x y z : Value} (h : sa_true ρ μ (2, x, y, z)) : ∃ a, sa_g ρ μ x = .int a ∧ sa_g ρ μ z = .int (sm_chr a) := by
  rcases h with ⟨e, -⟩ | ⟨-, h⟩ | ⟨e, -⟩ | ⟨e, -⟩ | ⟨e, -⟩ | ⟨e, -⟩ | ⟨c, _, _, e, -⟩ | ⟨e, -⟩
  · cases e
  · exact h
  · cases e
  · cases e
  · cases e
  · cases e
  · cases c <;> cases e
  · cases e
theorem sa_t3 {x y z : Value} (h : sa_true ρ μ (3, x, y, z)) : ∃ a, sa_g ρ μ x = .int a ∧ sa_g ρ μ z = .long a.toInt64 := by
  rcases h with ⟨e, -⟩ | ⟨e, -⟩ | ⟨-, h⟩ | ⟨e, -⟩ | ⟨e, -⟩ | ⟨e, -⟩ | ⟨c, _, _, e, -⟩ | ⟨e, -⟩
  · cases e
  · cases e
  · exact h
  · cases e
  · cases e
  · cases e
  · cases c <;> cases e
  · cases e
theorem sa_t4 {x y z : Value} (h : sa_true ρ μ (4, x, y, z)) : ∃ a b, sa_g ρ μ x = .long a ∧ sa_g ρ μ y = .int b ∧ sa_g ρ μ z = .long (a <<< (b.toInt64 &&& 63)) := by
  rcases h with ⟨e, -⟩ | ⟨e, -⟩ | ⟨e, -⟩ | ⟨-, h⟩ | ⟨e, -⟩ | ⟨e, -⟩ | ⟨c, _, _, e, -⟩ | ⟨e, -⟩
  · cases e
  · cases e
  · cases e
  · exact h
  · cases e
  · cases e
  · cases c <;> cases e
  · cases e
theorem sa_t5 {x y z : Value} (h : sa_true ρ μ (5, x, y, z)) : ∃ a b, sa_g ρ μ x = .long a ∧ sa_g ρ μ y = .long b ∧ sa_g ρ μ z = .long (a &&& b) := by
  rcases h with ⟨e, -⟩ | ⟨e, -⟩ | ⟨e, -⟩ | ⟨e, -⟩ | ⟨-, h⟩ | ⟨e, -⟩ | ⟨c, _, _, e, -⟩ | ⟨e, -⟩
  · cases e
  · cases e
  · cases e
  · cases e
  · exact h
  · cases e
  · cases c <;> cases e
  · cases e
theorem sa_t6 {x y z : Value} (h : sa_true ρ μ (6, x, y, z)) : ∃ a b, sa_g ρ μ x = .long a ∧ sa_g ρ μ y = .long b ∧ sa_g ρ μ z = .long (a ||| b) := by
  rcases h with ⟨e, -⟩ | ⟨e, -⟩ | ⟨e, -⟩ | ⟨e, -⟩ | ⟨e, -⟩ | ⟨-, h⟩ | ⟨c, _, _, e, -⟩ | ⟨e, -⟩
  · cases e
  · cases e
  · cases e
  · cases e
  · cases e
  · exact h
  · cases c <;> cases e
  · cases e
theorem sa_tc {c : ClassFile.Cond} {x y z : Value} (h : sa_true ρ μ (sa_cc c, x, y, z)) : ∃ a b, sa_g ρ μ x = .int a ∧ sa_g ρ μ y = .int b ∧ z = .int (if sm_cmp c a b then 1 else 0) := by
  rcases h with ⟨e, -⟩ | ⟨e, -⟩ | ⟨e, -⟩ | ⟨e, -⟩ | ⟨e, -⟩ | ⟨e, -⟩ | ⟨c2, a, b, e, h1, h2, h3⟩ | ⟨e, -⟩
  · cases c <;> cases e
  · cases c <;> cases e
  · cases c <;> cases e
  · cases c <;> cases e
  · cases c <;> cases e
  · cases c <;> cases e
  · have : c = c2 := by cases c <;> cases c2 <;> first | rfl | cases e
    subst this
    exact ⟨a, b, h1, h2, h3⟩
  · cases c <;> cases e
theorem sa_t30 {x y z : Value} (h : sa_true ρ μ (30, x, y, z)) : ∃ a b, sa_g ρ μ x = .int a ∧ y = .int b ∧ (a.toInt < 0 ∨ b.toInt < a.toInt) := by
  rcases h with ⟨e, -⟩ | ⟨e, -⟩ | ⟨e, -⟩ | ⟨e, -⟩ | ⟨e, -⟩ | ⟨e, -⟩ | ⟨c, _, _, e, -⟩ | ⟨-, h⟩
  · cases e
  · cases e
  · cases e
  · cases e
  · cases e
  · cases e
  · cases c <;> cases e
  · exact h
variable {F : sa_F}
theorem sa_in_ok (hF : ∀ f ∈ F, sa_true ρ μ f) {t : Nat} {v w : Value} (h : sa_in F t v = some w) : ∃ x, sa_g ρ μ v = .int x ∧ ((t = 0 ∧ sa_g ρ μ w = .int x) ∨ (t = 2 ∧ sa_g ρ μ w = .int (sm_chr x)) ∨ (t = 3 ∧ sa_g ρ μ w = .int (x &&& 1))) := by
  unfold sa_in at h
  split at h
  · cases h; exact ⟨_, rfl, Or.inl ⟨rfl, rfl⟩⟩
  · cases h; exact ⟨_, rfl, Or.inl ⟨rfl, rfl⟩⟩
  · cases h; exact ⟨_, rfl, Or.inr (Or.inl ⟨rfl, rfl⟩)⟩
  · next k =>
    split at h
    · next j hj =>
      cases h
      obtain ⟨a, h1, h2⟩ := sa_t2 (hF _ (sa_fact_mem F hj))
      exact ⟨a, h1, Or.inr (Or.inl ⟨rfl, h2⟩)⟩
    · cases h
  · cases h; exact ⟨_, rfl, Or.inr (Or.inr ⟨rfl, rfl⟩)⟩
  · cases h
theorem sa_ast_ok (hF : ∀ f ∈ F, sa_true ρ μ f) {t pc : Nat} {ls : sm_L} {st : List Value} {h : sa_H} {r : sa_R} {g : Int32 → Int32} (hg : (t = 0 ∧ g = fun x => x) ∨ (t = 2 ∧ g = sm_chr) ∨ (t = 3 ∧ g = fun x => x &&& 1)) (hs : sa_ast F t pc ls st h = some r) : sm_ast t g pc (sa_gl ρ μ ls) (sa_gs ρ μ st) (sa_gh ρ μ h) = some (sa_gr ρ μ r) := by
  unfold sa_ast at hs
  split at hs
  · next v i a r0 =>
    split at hs
    · next w hw =>
      split at hs
      · next t' n l ha =>
        split at hs
        · next hc =>
          obtain ⟨rfl, ht, hi, hC⟩ := hc
          cases hs
          obtain ⟨x, hx, hw2⟩ := sa_in_ok hF hw
          have e1 : sa_gs ρ μ (v :: .int i :: .ref a :: r0) = .int x :: .int i :: .ref a :: sa_gs ρ μ r0 := by simp only [sa_gs, List.map_cons, hx]; rfl
          have e2 : (sa_gh ρ μ h)[a]? = some (.inl (t', n, .inl (sa_fi ρ μ l))) := by rw [sa_hget ha]; simp [sa_ge, ht]
          have e3 : sa_i (sa_g ρ μ w) = g x := by
            rcases hw2 with ⟨rfl, hw2⟩ | ⟨rfl, hw2⟩ | ⟨rfl, hw2⟩
            · rcases hg with ⟨-, rfl⟩ | ⟨e, -⟩ | ⟨e, -⟩
              · rw [hw2]; rfl
              · cases e
              · cases e
            · rcases hg with ⟨e, -⟩ | ⟨-, rfl⟩ | ⟨e, -⟩
              · cases e
              · rw [hw2]; rfl
              · cases e
            · rcases hg with ⟨e, -⟩ | ⟨e, -⟩ | ⟨-, rfl⟩
              · cases e
              · cases e
              · rw [hw2]; rfl
          rw [e1]
          simp only [sm_ast, e2]
          rw [if_pos ⟨trivial, hi, hC⟩]
          simp only [sm_nx, sa_gr, sa_gh, List.map_set, sa_ge, if_neg ht, sa_upd, e3]
        · cases hs
      · cases hs
    · cases hs
  · cases hs
theorem sa_astL_ok {pc : Nat} {ls : sm_L} {st : List Value} {h : sa_H} {r : sa_R} (hs : sa_astL pc ls st h = some r) : sm_astL pc (sa_gl ρ μ ls) (sa_gs ρ μ st) (sa_gh ρ μ h) = some (sa_gr ρ μ r) := by
  unfold sa_astL at hs
  split at hs
  · next x i a r0 =>
    split at hs
    · next t' n l ha =>
      split at hs
      · next hc =>
        obtain ⟨rfl, hi, hC⟩ := hc
        cases hs
        have e1 : sa_gs ρ μ (.long x :: .int i :: .ref a :: r0) = .long x :: .int i :: .ref a :: sa_gs ρ μ r0 := rfl
        have e2 : (sa_gh ρ μ h)[a]? = some (.inl (1, n, .inr (.inl (sa_fl ρ μ l)))) := by rw [sa_hget ha]; simp [sa_ge]
        rw [e1]
        simp only [sm_astL, e2]
        rw [if_pos ⟨trivial, hi, hC⟩]
        simp only [sm_nx, sa_gr, sa_gh, List.map_set, sa_ge, if_true, sa_updL]
        rfl
      · cases hs
    · cases hs
  · cases hs
theorem sa_fit {t : Nat} {v : Value} (h : sm_fit t v = true) : sm_fit t (sa_g ρ μ v) = true := by
  cases v with
  | retAddr k => unfold sm_fit at h; split at h <;> first | contradiction | cases h
  | double u => unfold sm_fit at h; split at h <;> first | contradiction | cases h
  | _ => exact h
theorem sa_dflt (t : Nat) : sa_g ρ μ (sm_dflt t) = sm_dflt t := by unfold sm_dflt; split <;> rfl
theorem sa_dflts (ts : List Nat) : (ts.map sm_dflt).map (sa_g ρ μ) = ts.map sm_dflt := by
  rw [List.map_map]
  exact List.map_congr_left fun t _ => sa_dflt t
set_option maxHeartbeats 4000000 in
theorem sa_step_ok (hF : ∀ f ∈ F, sa_true ρ μ f) {q : sm_I} {pc : Nat} {ls : sm_L} {st : List Value} {h : sa_H} {r : sa_R} (hs : sa_step F q pc ls st h = some r) : sm_step q pc (sa_gl ρ μ ls) (sa_gs ρ μ st) (sa_gh ρ μ h) = some (sa_gr ρ μ r) := by
  obtain ⟨i, len, rs⟩ := q
  have hload : ∀ {k : Nat} {n : Nat}, sa_load sa_isI n k pc ls st h = some r → sm_loadK sm_isI n k pc (sa_gl ρ μ ls) (sa_gs ρ μ st) (sa_gh ρ μ h) = some (sa_gr ρ μ r) := by
    intro k n hs
    simp only [sa_load, sm_loadK] at hs ⊢
    rw [sa_lget]
    split at hs
    · next v hv =>
      split at hs
      · next hk => cases hs; rw [hv]; simp [sa_isI_g hk, sm_nx, sa_gr]
      · cases hs
    · cases hs
  have hloadL : ∀ {k : Nat} {n : Nat}, sa_load sa_isL n k pc ls st h = some r → sm_loadK sm_isL n k pc (sa_gl ρ μ ls) (sa_gs ρ μ st) (sa_gh ρ μ h) = some (sa_gr ρ μ r) := by
    intro k n hs
    simp only [sa_load, sm_loadK] at hs ⊢
    rw [sa_lget]
    split at hs
    · next v hv =>
      split at hs
      · next hk =>
        cases hs
        rw [hv]
        obtain ⟨x, hx⟩ := sa_isL_g (ρ := ρ) (μ := μ) hk
        simp [hx, sm_isL, sm_nx, sa_gr]
      · cases hs
    · cases hs
  have hstore : ∀ {k : Nat} {n : Nat}, sa_store1 n k pc ls st h = some r → sm_store1 sm_isI n k pc (sa_gl ρ μ ls) (sa_gs ρ μ st) (sa_gh ρ μ h) = some (sa_gr ρ μ r) := by
    intro k n hs
    unfold sa_store1 at hs
    split at hs
    · next v r0 =>
      split at hs
      · next hk =>
        split at hs
        · next l2 hp => cases hs; simp [sm_store1, sa_isI_g hk, sa_put1 hp, sm_nx, sa_gr]
        · cases hs
      · cases hs
    · cases hs
  have hstoreL : ∀ {k : Nat} {n : Nat}, sa_store2 n k pc ls st h = some r → sm_store2 n k pc (sa_gl ρ μ ls) (sa_gs ρ μ st) (sa_gh ρ μ h) = some (sa_gr ρ μ r) := by
    intro k n hs
    unfold sa_store2 at hs
    split at hs
    · next v r0 =>
      split at hs
      · next hk =>
        split at hs
        · next l2 hp =>
          cases hs
          obtain ⟨x, hx⟩ := sa_isL_g (ρ := ρ) (μ := μ) hk
          have h2 := sa_put2 (ρ := ρ) (μ := μ) hp
          rw [hx] at h2
          simp [sm_store2, hx, h2, sm_nx, sa_gr]
        · cases hs
      · cases hs
    · cases hs
  have hbr : ∀ {c : ClassFile.Cond} {x y : Value} {off : Int} {r0 : List Value}, sa_br F c x y pc off ls r0 h = some r → ∃ a b, sa_g ρ μ x = .int a ∧ sa_g ρ μ y = .int b ∧ sm_if (sm_cmp c a b) pc off (sa_gl ρ μ ls) (sa_gs ρ μ r0) (sa_gh ρ μ h) = some (sa_gr ρ μ r) := by
    intro c x y off r0 hs
    unfold sa_br at hs
    split at hs
    · next z hz =>
      obtain ⟨a, b, h1, h2, h3⟩ := sa_tc (hF _ (sa_fact_mem F hz))
      refine ⟨a, b, h1, h2, ?_⟩
      cases h3
      cases hb : sm_cmp c a b with
      | true => rw [hb] at hs; simp [sa_nx] at hs; subst hs; rfl
      | false => rw [hb] at hs; simp [sa_nx] at hs; subst hs; rfl
    · cases hs
  cases i with
  | iload_n k => exact hload hs
  | iload k => exact hload hs
  | lload_n k => exact hloadL hs
  | lload k => exact hloadL hs
  | istore_n k => exact hstore hs
  | istore k => exact hstore hs
  | lstore_n k => exact hstoreL hs
  | lstore k => exact hstoreL hs
  | iaload => exact (sa_ald_ok hs).1
  | caload => exact (sa_ald_ok hs).1
  | baload =>
    simp only [sa_step, sm_step] at hs ⊢
    split at hs
    · next r1 h1 => cases hs; rw [(sa_ald_ok h1).1]
    · rw [(sa_ald_ok (ρ := ρ) (μ := μ) hs).2 3 (by decide)]
      exact (sa_ald_ok hs).1
  | laload => exact sa_aldL_ok hs
  | iastore => exact sa_ast_ok hF (Or.inl ⟨rfl, rfl⟩) hs
  | castore => exact sa_ast_ok hF (Or.inr (Or.inl ⟨rfl, rfl⟩)) hs
  | bastore => exact sa_ast_ok hF (Or.inr (Or.inr ⟨rfl, rfl⟩)) hs
  | lastore => exact sa_astL_ok hs
  | arraylength =>
    simp only [sa_step, sa_alen] at hs
    split at hs
    · next a r0 =>
      split at hs
      · next t n l ha =>
        split at hs
        · next hc =>
          cases hs
          have e2 := sa_hget (ρ := ρ) (μ := μ) ha
          simp only [sm_step, sa_gs, List.map_cons, sa_g]
          rw [e2]
          simp [sa_ge, hc, sm_nx, sa_gr, sa_g]
        · cases hs
      · cases hs
    · cases hs
  | getfield idx =>
    simp only [sa_step, sa_getf] at hs
    split at hs
    · next a r0 k z cs =>
      split at hs
      · next ci fs ha =>
        split at hs
        · next hc =>
          split at hs
          · next v hv =>
            cases hs
            have e2 := sa_hget (ρ := ρ) (μ := μ) ha
            simp only [sm_step, sm_getf, sa_gs, List.map_cons, sa_g]
            rw [e2]
            simp only [sa_ge]
            rw [if_pos hc, List.getElem?_map, hv]
            rfl
          · cases hs
        · cases hs
      · cases hs
    · cases hs
  | putfield idx =>
    simp only [sa_step, sa_putf] at hs
    split at hs
    · next v a r0 k t z cs =>
      split at hs
      · next ci fs ha =>
        split at hs
        · next hc =>
          cases hs
          have e2 := sa_hget (ρ := ρ) (μ := μ) ha
          show sm_putf (k :: t :: z :: cs) pc (sa_gl ρ μ ls) (sa_g ρ μ v :: .ref a :: sa_gs ρ μ r0) (sa_gh ρ μ h) = _
          simp only [sm_putf]
          rw [e2]
          simp only [sa_ge]
          rw [if_pos ⟨hc.1, by rw [List.length_map]; exact hc.2.1, sa_fit hc.2.2.1, hc.2.2.2⟩]
          simp only [sm_nx, sa_gr, sa_gh, List.map_set, sa_ge]
        · cases hs
      · cases hs
    · cases hs
  | new idx =>
    simp only [sa_step, sa_newo] at hs
    split at hs
    · next ci ts =>
      split at hs
      · cases hs
      · next hc =>
        cases hs
        simp only [sm_step, sm_newo]
        rw [if_neg hc]
        simp only [sm_nx, sa_gr, sa_gh, sa_gs, List.map_append, List.map_cons, List.map_nil, List.length_map, sa_ge, sa_dflts, sa_g]
    · cases hs
  | newarray idx =>
    simp only [sa_step, sa_newa] at hs
    split at hs
    · next n r0 t =>
      split at hs
      · next hc =>
        cases hs
        simp only [sm_step, sm_newa, sa_gs, List.map_cons, sa_g]
        rw [if_pos hc]
        simp only [sm_nx, sa_gr, sa_gh, sa_gs, List.map_append, List.map_cons, List.map_nil, List.length_map, sa_ge, sa_g]
        rfl
      · cases hs
    · cases hs
  | invokevirtual idx =>
    simp only [sa_step, sa_callV] at hs
    split at hs
    · next k n ps =>
      split at hs
      · next a as r0 hargs =>
        split at hs
        · next ci fs ha =>
          split at hs
          · next m hm =>
            cases hs
            have e2 := sa_hget (ρ := ρ) (μ := μ) ha
            simp only [sm_step, sm_callV]
            rw [sa_args hargs]
            simp only [sa_gs, List.map_cons, sa_g]
            rw [e2]
            simp only [sa_ge, hm]
            rfl
          · cases hs
        · cases hs
      · cases hs
    · cases hs
  | iand =>
    simp only [sa_step] at hs
    split at hs
    · unfold sa_bin at hs
      split at hs
      · next y x r0 =>
        split at hs
        · next z hz =>
          cases hs
          obtain ⟨a, b, h1, h2, h3⟩ := sa_t1 (hF _ (sa_fact_mem F hz))
          simp [sm_step, sm_bin, h1, h2, h3, sm_nx, sa_gr]
        · cases hs
      · cases hs
    · exact sa_pure_ok rfl hs
  | i2c =>
    simp only [sa_step] at hs
    split at hs
    · unfold sa_un at hs
      split at hs
      · next x r0 =>
        split at hs
        · next z hz =>
          cases hs
          obtain ⟨a, h1, h3⟩ := sa_t2 (hF _ (sa_fact_mem F hz))
          simp [sm_step, h1, h3, sm_nx, sa_gr]
        · cases hs
      · cases hs
    · exact sa_pure_ok rfl hs
  | i2l =>
    simp only [sa_step] at hs
    split at hs
    · unfold sa_un at hs
      split at hs
      · next x r0 =>
        split at hs
        · next z hz =>
          cases hs
          obtain ⟨a, h1, h3⟩ := sa_t3 (hF _ (sa_fact_mem F hz))
          simp [sm_step, h1, h3, sm_nx, sa_gr]
        · cases hs
      · cases hs
    · exact sa_pure_ok rfl hs
  | lshl =>
    simp only [sa_step] at hs
    split at hs
    · unfold sa_bin at hs
      split at hs
      · next y x r0 =>
        split at hs
        · next z hz =>
          cases hs
          obtain ⟨a, b, h1, h2, h3⟩ := sa_t4 (hF _ (sa_fact_mem F hz))
          simp [sm_step, h1, h2, h3, sm_nx, sa_gr]
        · cases hs
      · cases hs
    · exact sa_pure_ok rfl hs
  | land =>
    simp only [sa_step] at hs
    split at hs
    · unfold sa_bin at hs
      split at hs
      · next y x r0 =>
        split at hs
        · next z hz =>
          cases hs
          obtain ⟨a, b, h1, h2, h3⟩ := sa_t5 (hF _ (sa_fact_mem F hz))
          simp [sm_step, sm_binL, h1, h2, h3, sm_nx, sa_gr]
        · cases hs
      · cases hs
    · exact sa_pure_ok rfl hs
  | lor =>
    simp only [sa_step] at hs
    split at hs
    · unfold sa_bin at hs
      split at hs
      · next y x r0 =>
        split at hs
        · next z hz =>
          cases hs
          obtain ⟨a, b, h1, h2, h3⟩ := sa_t6 (hF _ (sa_fact_mem F hz))
          simp [sm_step, sm_binL, h1, h2, h3, sm_nx, sa_gr]
        · cases hs
      · cases hs
    · exact sa_pure_ok rfl hs
  | if_icmp c off =>
    simp only [sa_step] at hs
    split at hs
    · split at hs
      · next y x r0 _ =>
        obtain ⟨a, b, h1, h2, h3⟩ := hbr hs
        simp only [sm_step, sa_gs, List.map_cons, h1, h2]
        exact h3
      · cases hs
    · exact sa_pure_ok rfl hs
  | ifCond c off =>
    simp only [sa_step] at hs
    split at hs
    · split at hs
      · next x r0 _ =>
        obtain ⟨a, b, h1, h2, h3⟩ := hbr hs
        cases h2
        simp only [sm_step, sa_gs, List.map_cons, h1]
        exact h3
      · cases hs
    · exact sa_pure_ok rfl hs
  | tableswitch d lo hi offs =>
    simp only [sa_step] at hs
    split at hs
    · split at hs
      · next x r0 _ =>
        split at hs
        · next hc =>
          split at hs
          · next z hz =>
            cases hs
            obtain ⟨a, b, h1, h2, h3⟩ := sa_t30 (hF _ (sa_fact_mem F hz))
            cases h2
            obtain ⟨c1, c2, c3⟩ := hc
            have hb : (Int32.ofInt hi).toInt = hi := Int32.toInt_ofInt_of_le (by omega) (by omega)
            rw [hb] at h3
            simp only [sm_step, sa_gs, List.map_cons, h1]
            rw [if_pos (by rw [c1]; exact h3)]
            rfl
          · cases hs
        · cases hs
      · cases hs
    · exact sa_pure_ok rfl hs
  | _ => exact sa_pure_ok rfl hs
end SAT
end
section
/-! RUNS with unknown numbers -/
def sa_run (F : sa_F) (P : Nat → Option sm_M) : Nat → Nat → Nat → Nat → sm_L → List Value → sa_H → Option (Option Value × sa_H)
  | 0, _, _, _, _, _, _ => none
  | n + 1, d, m, pc, ls, st, h => match P m with
    | none => none
    | some (_, k, tab) => match tab[pc]? with
      | some (some q) => match sa_step F q pc ls st h with
        | some (.inl (pc', ls', st', h')) => sa_run F P n d m pc' ls' st' h'
        | some (.inr (.inl v)) => if sm_okret k v then some (v, h) else none
        | some (.inr (.inr (m', as, r))) => match d, P m' with
          | d' + 1, some (nl, _, _) => if (sm_slots as).length ≤ nl ∧ (r.map fun v => v.category).sum ≤ 8 then (match sa_run F P n d' m' 0 (sm_entry nl as) [] h with
            | some (v, h') => sa_run F P n d m (pc + 3) ls (sm_back v r) h'
            | none => none) else none
          | _, _ => none
        | none => none
      | _ => none
def sa_exc (x : Nat) : sa_E := .inr (x, List.replicate 6 .null)
def sa_runT (F : sa_F) (P : Nat → Option sm_M) : Nat → Nat → Nat → Nat → sm_L → List Value → sa_H → Option (Nat × sa_H)
  | 0, _, _, _, _, _, _ => none
  | n + 1, d, m, pc, ls, st, h => match P m with
    | none => none
    | some (_, _, tab) => match tab[pc]? with
      | some (some q) => match sm_thr q with
        | some x => match st with
          | [] => some (x, h ++ [sa_exc x])
          | _ :: _ => none
        | none => match sa_step F q pc ls st h with
          | some (.inl (pc', ls', st', h')) => sa_runT F P n d m pc' ls' st' h'
          | some (.inr (.inl _)) => none
          | some (.inr (.inr (m', as, r))) => match d, P m' with
            | d' + 1, some (nl, _, _) => if (sm_slots as).length ≤ nl ∧ (r.map fun v => v.category).sum ≤ 8 then (match sa_run F P n d' m' 0 (sm_entry nl as) [] h with
              | some (v, h') => sa_runT F P n d m (pc + 3) ls (sm_back v r) h'
              | none => none) else none
            | _, _ => none
          | none => none
      | _ => none
def sa_runW (F : sa_F) (P : Nat → Option sm_M) (PW : Nat → Option sm_MW) : Nat → Nat → Nat → Nat → sm_L → List Value → sa_H → Option (Option Value × sa_H)
  | 0, _, _, _, _, _, _ => none
  | n + 1, d, m, pc, ls, st, h => match PW m with
    | none => none
    | some ((_, k, tab), al) => match tab[pc]? with
      | some (some q) => match sa_step F q pc ls st h with
        | some (.inl (pc', ls', st', h')) => sa_runW F P PW n d m pc' ls' st' h'
        | some (.inr (.inl v)) => if sm_okret k v then some (v, h) else none
        | some (.inr (.inr (m', as, r))) => match d, P m' with
          | d' + 1, some (nl, _, _) => if (sm_slots as).length ≤ nl ∧ (r.map fun v => v.category).sum ≤ 8 then (match sa_run F P n d' m' 0 (sm_entry nl as) [] h with
            | some (v, h') => sa_runW F P PW n d m (pc + 3) ls (sm_back v r) h'
            | none => match sa_runT F P n d' m' 0 (sm_entry nl as) [] h with
              | some (x, h') => match sm_find pc x al with
                | some hp => sa_runW F P PW n d m hp ls [.ref (h'.length - 1)] h'
                | none => none
              | none => none) else none
          | _, _ => none
        | none => none
      | _ => none
def sa_runL (F : sa_F) (P : Nat → Option sm_M) (PW : Nat → Option sm_MW) (tab : List (Option sm_I)) : Nat → Nat → Nat → sm_L → List Value → sa_H → Option (Option Value × sa_H)
  | 0, _, _, _, _, _ => none
  | n + 1, d, pc, ls, st, h => match tab[pc]? with
      | some (some q) => match sa_step F q pc ls st h with
        | some (.inl (pc', ls', st', h')) => sa_runL F P PW tab n d pc' ls' st' h'
        | some (.inr (.inl v)) => some (v, h)
        | some (.inr (.inr (m', as, r))) => match d with
          | d' + 1 => match PW m' with
            | some ((nl, _, _), _) => if (sm_slots as).length ≤ nl ∧ (r.map fun v => v.category).sum ≤ 8 then (match sa_runW F P PW n d' m' 0 (sm_entry nl as) [] h with
              | some (v, h') => sa_runL F P PW tab n d (pc + 3) ls (sm_back v r) h'
              | none => none) else none
            | none => match P m' with
              | some (nl, _, _) => if (sm_slots as).length ≤ nl ∧ (r.map fun v => v.category).sum ≤ 8 then (match sa_run F P n d' m' 0 (sm_entry nl as) [] h with
                | some (v, h') => sa_runL F P PW tab n d (pc + 3) ls (sm_back v r) h'
                | none => none) else none
              | none => none
          | 0 => none
        | none => none
      | _ => none
section SAR
variable {ρ : Nat → Int32} {μ : UInt64 → Int64} {F : sa_F} {P : Nat → Option sm_M} {PW : Nat → Option sm_MW}
theorem sa_slots (as : List Value) : sm_slots (sa_gs ρ μ as) = sa_gl ρ μ (sm_slots as) := by
  induction as with
  | nil => rfl
  | cons v as ih =>
    simp only [sa_gs, List.map_cons, sm_slots, sa_cat]
    split
    · simp only [sa_gl, List.map_cons, Option.map_some, Option.map_none]
      exact congrArg _ (congrArg _ ih)
    · simp only [sa_gl, List.map_cons, Option.map_some]
      exact congrArg _ ih
theorem sa_entry (n : Nat) (as : List Value) : sm_entry n (sa_gs ρ μ as) = sa_gl ρ μ (sm_entry n as) := by
  unfold sm_entry
  rw [sa_slots]
  simp [sa_gl]
theorem sa_okret {k : Nat} {v : Option Value} (h : sm_okret k v = true) : sm_okret k (v.map (sa_g ρ μ)) = true := by
  cases v with
  | none => exact h
  | some v =>
    cases v with
    | retAddr a => unfold sm_okret at h; split at h <;> simp_all
    | double u => unfold sm_okret at h; split at h <;> simp_all
    | _ => exact h
theorem sa_back (v : Option Value) (r : List Value) : sm_back (v.map (sa_g ρ μ)) (sa_gs ρ μ r) = sa_gs ρ μ (sm_back v r) := by cases v <;> rfl
theorem sa_callc {as r : List Value} {nl : Nat} (hc : (sm_slots as).length ≤ nl ∧ (r.map fun v => v.category).sum ≤ 8) : (sm_slots (sa_gs ρ μ as)).length ≤ nl ∧ ((sa_gs ρ μ r).map fun v => v.category).sum ≤ 8 := by
  rw [sa_slots, sa_cats, List.length_map]
  exact hc
theorem sa_run_ok (hF : ∀ f ∈ F, sa_true ρ μ f) : ∀ (n d m pc : Nat) (ls : sm_L) (st : List Value) (h : sa_H) (v : Option Value) (h' : sa_H), sa_run F P n d m pc ls st h = some (v, h') → sm_run P n d m pc (sa_gl ρ μ ls) (sa_gs ρ μ st) (sa_gh ρ μ h) = some (v.map (sa_g ρ μ), sa_gh ρ μ h') := by
  intro n
  induction n with
  | zero => intro d m pc ls st h v h' hr; simp [sa_run] at hr
  | succ n ih =>
    intro d m pc ls st h v h' hr
    unfold sa_run at hr
    rw [sm_run]
    split at hr
    · cases hr
    · next nl0 k tab hP =>
      rw [hP]
      dsimp only
      split at hr
      · next q hq =>
        rw [hq]
        dsimp only
        split at hr
        · next pc1 ls1 st1 h1 hs => rw [sa_step_ok hF hs]; exact ih _ _ _ _ _ _ _ _ hr
        · next v1 hs =>
          rw [sa_step_ok hF hs]
          split at hr
          · next hk => cases hr; simp only [sa_gr]; rw [if_pos (sa_okret hk)]
          · cases hr
        · next m1 as r hs =>
          rw [sa_step_ok hF hs]
          simp only [sa_gr]
          split at hr
          · next d1 nl1 k1 t1 hm1 =>
            rw [hm1]
            dsimp only
            split at hr
            · next hc =>
              rw [if_pos (sa_callc hc), sa_entry]
              split at hr
              · next v1 h1 hcall =>
                have := ih _ _ _ _ _ _ _ _ hcall
                simp only [List.map_nil, sa_gs] at this
                rw [this]
                dsimp only
                rw [sa_back]
                exact ih _ _ _ _ _ _ _ _ hr
              · cases hr
            · cases hr
          · cases hr
        · cases hr
      · cases hr
theorem sa_runT_ok (hF : ∀ f ∈ F, sa_true ρ μ f) : ∀ (n d m pc : Nat) (ls : sm_L) (st : List Value) (h : sa_H) (x : Nat) (h' : sa_H), sa_runT F P n d m pc ls st h = some (x, h') → sm_runT P n d m pc (sa_gl ρ μ ls) (sa_gs ρ μ st) (sa_gh ρ μ h) = some (x, sa_gh ρ μ h') ∧ sm_run P n d m pc (sa_gl ρ μ ls) (sa_gs ρ μ st) (sa_gh ρ μ h) = none := by
  intro n
  induction n with
  | zero => intro d m pc ls st h x h' hr; simp [sa_runT] at hr
  | succ n ih =>
    intro d m pc ls st h x h' hr
    unfold sa_runT at hr
    rw [sm_runT, sm_run]
    split at hr
    · cases hr
    · next nl0 k tab hP =>
      rw [hP]
      dsimp only
      split at hr
      · next q hq =>
        rw [hq]
        dsimp only
        split at hr
        · next y hy =>
          rw [hy, sm_thr_step hy]
          split at hr
          · cases hr
            refine ⟨?_, rfl⟩
            simp only [sa_gs, List.map_nil, if_true, sa_gh, List.map_append, List.map_cons]
            rfl
          · cases hr
        · next hy =>
          rw [hy]
          dsimp only
          split at hr
          · next pc1 ls1 st1 h1 hs => rw [sa_step_ok hF hs]; exact ih _ _ _ _ _ _ _ _ hr
          · cases hr
          · next m1 as r hs =>
            rw [sa_step_ok hF hs]
            simp only [sa_gr]
            split at hr
            · next d1 nl1 k1 t1 hm1 =>
              rw [hm1]
              dsimp only
              split at hr
              · next hc =>
                rw [if_pos (sa_callc hc), if_pos (sa_callc hc), sa_entry]
                split at hr
                · next v1 h1 hcall =>
                  have := sa_run_ok hF _ _ _ _ _ _ _ _ _ hcall
                  simp only [List.map_nil, sa_gs] at this
                  rw [this]
                  dsimp only
                  rw [sa_back]
                  exact ih _ _ _ _ _ _ _ _ hr
                · cases hr
              · cases hr
            · cases hr
          · cases hr
      · cases hr
theorem sa_runW_ok (hF : ∀ f ∈ F, sa_true ρ μ f) : ∀ (n d m pc : Nat) (ls : sm_L) (st : List Value) (h : sa_H) (v : Option Value) (h' : sa_H), sa_runW F P PW n d m pc ls st h = some (v, h') → sm_runW P PW n d m pc (sa_gl ρ μ ls) (sa_gs ρ μ st) (sa_gh ρ μ h) = some (v.map (sa_g ρ μ), sa_gh ρ μ h') := by
  intro n
  induction n with
  | zero => intro d m pc ls st h v h' hr; simp [sa_runW] at hr
  | succ n ih =>
    intro d m pc ls st h v h' hr
    unfold sa_runW at hr
    rw [sm_runW]
    split at hr
    · cases hr
    · next nl0 k tab al hP =>
      rw [hP]
      dsimp only
      split at hr
      · next q hq =>
        rw [hq]
        dsimp only
        split at hr
        · next pc1 ls1 st1 h1 hs => rw [sa_step_ok hF hs]; exact ih _ _ _ _ _ _ _ _ hr
        · next v1 hs =>
          rw [sa_step_ok hF hs]
          split at hr
          · next hk => cases hr; simp only [sa_gr]; rw [if_pos (sa_okret hk)]
          · cases hr
        · next m1 as r hs =>
          rw [sa_step_ok hF hs]
          simp only [sa_gr]
          split at hr
          · next d1 nl1 k1 t1 hm1 =>
            rw [hm1]
            dsimp only
            split at hr
            · next hc =>
              rw [if_pos (sa_callc hc), sa_entry]
              split at hr
              · next v1 h1 hcall =>
                have := sa_run_ok (ρ := ρ) (μ := μ) hF _ _ _ _ _ _ _ _ _ hcall
                simp only [List.map_nil, sa_gs] at this
                rw [this]
                dsimp only
                rw [sa_back]
                exact ih _ _ _ _ _ _ _ _ hr
              · split at hr
                · next x1 h1 hcall =>
                  obtain ⟨t1, t2⟩ := sa_runT_ok (ρ := ρ) (μ := μ) hF _ _ _ _ _ _ _ _ _ hcall
                  simp only [List.map_nil, sa_gs] at t1 t2
                  rw [t2]
                  dsimp only
                  rw [t1]
                  dsimp only
                  split at hr
                  · next hp hf =>
                    rw [hf]
                    dsimp only
                    have := ih _ _ _ _ _ _ _ _ hr
                    simp only [sa_gs, List.map_cons, List.map_nil, sa_g] at this
                    rw [List.length_map]
                    exact this
                  · cases hr
                · cases hr
            · cases hr
          · cases hr
        · cases hr
      · cases hr
theorem sa_runL_ok (hF : ∀ f ∈ F, sa_true ρ μ f) {tab : List (Option sm_I)} : ∀ (n d pc : Nat) (ls : sm_L) (st : List Value) (h : sa_H) (v : Option Value) (h' : sa_H), sa_runL F P PW tab n d pc ls st h = some (v, h') → sm_runL P PW tab n d pc (sa_gl ρ μ ls) (sa_gs ρ μ st) (sa_gh ρ μ h) = some (v.map (sa_g ρ μ), sa_gh ρ μ h') := by
  intro n
  induction n with
  | zero => intro d pc ls st h v h' hr; simp [sa_runL] at hr
  | succ n ih =>
    intro d pc ls st h v h' hr
    unfold sa_runL at hr
    rw [sm_runL]
    split at hr
    · next q hq =>
      rw [hq]
      dsimp only
      split at hr
      · next pc1 ls1 st1 h1 hs => rw [sa_step_ok hF hs]; exact ih _ _ _ _ _ _ _ hr
      · next v1 hs => cases hr; rw [sa_step_ok hF hs]; rfl
      · next m1 as r hs =>
        rw [sa_step_ok hF hs]
        simp only [sa_gr]
        split at hr
        · next d1 =>
          dsimp only
          split at hr
          · next nl1 k1 t1 al1 hm1 =>
            rw [hm1]
            dsimp only
            split at hr
            · next hc =>
              rw [if_pos (sa_callc hc), sa_entry]
              split at hr
              · next v1 h1 hcall =>
                have := sa_runW_ok (ρ := ρ) (μ := μ) hF _ _ _ _ _ _ _ _ _ hcall
                simp only [List.map_nil, sa_gs] at this
                rw [this]
                dsimp only
                rw [sa_back]
                exact ih _ _ _ _ _ _ _ hr
              · cases hr
            · cases hr
          · next hm0 =>
            rw [hm0]
            dsimp only
            split at hr
            · next nl1 k1 t1 hm1 =>
              rw [hm1]
              dsimp only
              split at hr
              · next hc =>
                rw [if_pos (sa_callc hc), sa_entry]
                split at hr
                · next v1 h1 hcall =>
                  have := sa_run_ok (ρ := ρ) (μ := μ) hF _ _ _ _ _ _ _ _ _ hcall
                  simp only [List.map_nil, sa_gs] at this
                  rw [this]
                  dsimp only
                  rw [sa_back]
                  exact ih _ _ _ _ _ _ _ hr
                · cases hr
              · cases hr
            · cases hr
        · cases hr
      · cases hr
    · cases hr
/-- the run is good: it answers 1, and keeps to so many cells and slots -/
def sa_sz (e : sa_E) : Nat := match e with
  | .inl (_, n, _) => n
  | .inr (_, fs) => fs.length
def sa_good (mc ms : Nat) (r : Option (Option Value × sa_H)) : Bool := match r with
  | some (some (.int x), h) => decide (x = 1) && (decide (h.length ≤ mc) && decide ((h.map sa_sz).sum ≤ ms))
  | _ => false
theorem sa_good_ok (hF : ∀ f ∈ F, sa_true ρ μ f) {tab : List (Option sm_I)} {n d pc mc ms : Nat} {ls : sm_L} {st : List Value} {h : sa_H} (hr : sa_good mc ms (sa_runL F P PW tab n d pc ls st h) = true) :
    ∃ h', sm_runL P PW tab n d pc (sa_gl ρ μ ls) (sa_gs ρ μ st) (sa_gh ρ μ h) = some (some (.int 1), h') ∧ h'.length ≤ mc ∧ sm_sl h' ≤ ms := by
  unfold sa_good at hr
  split at hr
  · next x h1 he =>
    simp only [Bool.and_eq_true, decide_eq_true_eq] at hr
    obtain ⟨rfl, h2, h3⟩ := hr
    refine ⟨_, sa_runL_ok hF _ _ _ _ _ _ _ _ he, by rw [List.length_map]; exact h2, ?_⟩
    have e : sm_sl (sa_gh ρ μ h1) = (h1.map sa_sz).sum := by
      unfold sm_sl
      rw [List.map_map]
      congr 1
      refine List.map_congr_left fun e _ => ?_
      rcases e with ⟨t, n, l⟩ | ⟨ci, fs⟩
      · rfl
      · simp [sa_ge, sm_sz, sa_sz]
    rw [e]
    exact h3
  · cases hr
end SAR
end
