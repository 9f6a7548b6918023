section
/-! the tables' words: PART A of the claim's own skeleton (a starting text) -/
/-- a private method of a class that the tables say can be made, by its rows of tables_1 -/
def lw_okq (q : MethodName × Nat) : Prop := (q.1.cls ≠ "java/lang/invoke/MethodHandle" ∧ q.1.cls ≠ "java/lang/invoke/VarHandle") ∧ Cond.instantiable q.1.cls q.2 ∈ tables_1 ∧ Cond.privateMethod q.1 ∈ tables_1 ∧ Cond.instanceMethod q.1 ∈ tables_1
theorem lw_p0 : lw_okq (⟨"TwoWayGrammar$Tokens", "takeWord", "()V"⟩, 5) := ⟨⟨by decide +kernel, by decide +kernel⟩, List.mem_of_getElem? (i := 172) (by decide +kernel), List.mem_of_getElem? (i := 547) (by decide +kernel), List.mem_of_getElem? (i := 548) (by decide +kernel)⟩
theorem lw_p1 : lw_okq (⟨"TwoWayGrammar$Tokens", "takeKeyword", "()V"⟩, 5) := ⟨⟨by decide +kernel, by decide +kernel⟩, List.mem_of_getElem? (i := 172) (by decide +kernel), List.mem_of_getElem? (i := 615) (by decide +kernel), List.mem_of_getElem? (i := 616) (by decide +kernel)⟩
theorem lw_p2 : lw_okq (⟨"TwoWayGrammar$Tokens", "takeSign", "()V"⟩, 5) := ⟨⟨by decide +kernel, by decide +kernel⟩, List.mem_of_getElem? (i := 172) (by decide +kernel), List.mem_of_getElem? (i := 623) (by decide +kernel), List.mem_of_getElem? (i := 624) (by decide +kernel)⟩
theorem lw_p3 : lw_okq (⟨"TwoWayGrammar$Tokens", "takeCharacter", "(C)V"⟩, 5) := ⟨⟨by decide +kernel, by decide +kernel⟩, List.mem_of_getElem? (i := 172) (by decide +kernel), List.mem_of_getElem? (i := 637) (by decide +kernel), List.mem_of_getElem? (i := 638) (by decide +kernel)⟩
theorem lw_p4 : lw_okq (⟨"TwoWayGrammar$Reader", "beginRule", "()I"⟩, 4) := ⟨⟨by decide +kernel, by decide +kernel⟩, List.mem_of_getElem? (i := 170) (by decide +kernel), List.mem_of_getElem? (i := 699) (by decide +kernel), List.mem_of_getElem? (i := 700) (by decide +kernel)⟩
theorem lw_p5 : lw_okq (⟨"TwoWayGrammar$Reader", "blame", "(II)V"⟩, 4) := ⟨⟨by decide +kernel, by decide +kernel⟩, List.mem_of_getElem? (i := 170) (by decide +kernel), List.mem_of_getElem? (i := 703) (by decide +kernel), List.mem_of_getElem? (i := 704) (by decide +kernel)⟩
theorem lw_p6 : lw_okq (⟨"TwoWayGrammar$Reader", "expect", "(I)V"⟩, 4) := ⟨⟨by decide +kernel, by decide +kernel⟩, List.mem_of_getElem? (i := 170) (by decide +kernel), List.mem_of_getElem? (i := 719) (by decide +kernel), List.mem_of_getElem? (i := 720) (by decide +kernel)⟩
theorem lw_p7 : lw_okq (⟨"TwoWayGrammar$Reader", "readForm", "(II)V"⟩, 4) := ⟨⟨by decide +kernel, by decide +kernel⟩, List.mem_of_getElem? (i := 170) (by decide +kernel), List.mem_of_getElem? (i := 723) (by decide +kernel), List.mem_of_getElem? (i := 724) (by decide +kernel)⟩
theorem lw_p8 : lw_okq (⟨"TwoWayGrammar$Reader", "readItems", "(II)V"⟩, 4) := ⟨⟨by decide +kernel, by decide +kernel⟩, List.mem_of_getElem? (i := 170) (by decide +kernel), List.mem_of_getElem? (i := 731) (by decide +kernel), List.mem_of_getElem? (i := 732) (by decide +kernel)⟩
theorem lw_p9 : lw_okq (⟨"TwoWayGrammar$Reader", "readUnit", "(III)I"⟩, 4) := ⟨⟨by decide +kernel, by decide +kernel⟩, List.mem_of_getElem? (i := 170) (by decide +kernel), List.mem_of_getElem? (i := 735) (by decide +kernel), List.mem_of_getElem? (i := 736) (by decide +kernel)⟩
theorem lw_p10 : lw_okq (⟨"TwoWayGrammar$Reader", "isOneTooMany", "(I)Z"⟩, 4) := ⟨⟨by decide +kernel, by decide +kernel⟩, List.mem_of_getElem? (i := 170) (by decide +kernel), List.mem_of_getElem? (i := 743) (by decide +kernel), List.mem_of_getElem? (i := 744) (by decide +kernel)⟩
theorem lw_p11 : lw_okq (⟨"TwoWayGrammar$Reader", "readPart", "(I)I"⟩, 4) := ⟨⟨by decide +kernel, by decide +kernel⟩, List.mem_of_getElem? (i := 170) (by decide +kernel), List.mem_of_getElem? (i := 751) (by decide +kernel), List.mem_of_getElem? (i := 752) (by decide +kernel)⟩
theorem lw_p12 : lw_okq (⟨"TwoWayGrammar$Reader", "nameUses", "()V"⟩, 4) := ⟨⟨by decide +kernel, by decide +kernel⟩, List.mem_of_getElem? (i := 170) (by decide +kernel), List.mem_of_getElem? (i := 773) (by decide +kernel), List.mem_of_getElem? (i := 774) (by decide +kernel)⟩
theorem lw_p13 : lw_okq (⟨"TwoWayGrammar$Sets", "spreadStarts", "()V"⟩, 16) := ⟨⟨by decide +kernel, by decide +kernel⟩, List.mem_of_getElem? (i := 214) (by decide +kernel), List.mem_of_getElem? (i := 786) (by decide +kernel), List.mem_of_getElem? (i := 787) (by decide +kernel)⟩
theorem lw_p14 : lw_okq (⟨"TwoWayGrammar$Sets", "refreshForm", "(I)V"⟩, 16) := ⟨⟨by decide +kernel, by decide +kernel⟩, List.mem_of_getElem? (i := 214) (by decide +kernel), List.mem_of_getElem? (i := 791) (by decide +kernel), List.mem_of_getElem? (i := 792) (by decide +kernel)⟩
theorem lw_p15 : lw_okq (⟨"TwoWayGrammar$Sets", "refreshAlternative", "(I)V"⟩, 16) := ⟨⟨by decide +kernel, by decide +kernel⟩, List.mem_of_getElem? (i := 214) (by decide +kernel), List.mem_of_getElem? (i := 796) (by decide +kernel), List.mem_of_getElem? (i := 797) (by decide +kernel)⟩
def lw_privs_1 : List (MethodName × Nat) := [(⟨"TwoWayGrammar$Tokens", "takeWord", "()V"⟩, 5), (⟨"TwoWayGrammar$Tokens", "takeKeyword", "()V"⟩, 5), (⟨"TwoWayGrammar$Tokens", "takeSign", "()V"⟩, 5), (⟨"TwoWayGrammar$Tokens", "takeCharacter", "(C)V"⟩, 5), (⟨"TwoWayGrammar$Reader", "beginRule", "()I"⟩, 4), (⟨"TwoWayGrammar$Reader", "blame", "(II)V"⟩, 4), (⟨"TwoWayGrammar$Reader", "expect", "(I)V"⟩, 4), (⟨"TwoWayGrammar$Reader", "readForm", "(II)V"⟩, 4), (⟨"TwoWayGrammar$Reader", "readItems", "(II)V"⟩, 4), (⟨"TwoWayGrammar$Reader", "readUnit", "(III)I"⟩, 4), (⟨"TwoWayGrammar$Reader", "isOneTooMany", "(I)Z"⟩, 4), (⟨"TwoWayGrammar$Reader", "readPart", "(I)I"⟩, 4), (⟨"TwoWayGrammar$Reader", "nameUses", "()V"⟩, 4), (⟨"TwoWayGrammar$Sets", "spreadStarts", "()V"⟩, 16), (⟨"TwoWayGrammar$Sets", "refreshForm", "(I)V"⟩, 16), (⟨"TwoWayGrammar$Sets", "refreshAlternative", "(I)V"⟩, 16)]
theorem lw_r1 : ∀ q ∈ lw_privs_1, lw_okq q := List.forall_mem_cons.mpr ⟨lw_p0, List.forall_mem_cons.mpr ⟨lw_p1, List.forall_mem_cons.mpr ⟨lw_p2, List.forall_mem_cons.mpr ⟨lw_p3, List.forall_mem_cons.mpr ⟨lw_p4, List.forall_mem_cons.mpr ⟨lw_p5, List.forall_mem_cons.mpr ⟨lw_p6, List.forall_mem_cons.mpr ⟨lw_p7, List.forall_mem_cons.mpr ⟨lw_p8, List.forall_mem_cons.mpr ⟨lw_p9, List.forall_mem_cons.mpr ⟨lw_p10, List.forall_mem_cons.mpr ⟨lw_p11, List.forall_mem_cons.mpr ⟨lw_p12, List.forall_mem_cons.mpr ⟨lw_p13, List.forall_mem_cons.mpr ⟨lw_p14, List.forall_mem_cons.mpr ⟨lw_p15, fun _ h => absurd h List.not_mem_nil⟩⟩⟩⟩⟩⟩⟩⟩⟩⟩⟩⟩⟩⟩⟩⟩
theorem lw_p16 : lw_okq (⟨"TwoWayGrammar$Sets", "refreshPart", "(I)V"⟩, 16) := ⟨⟨by decide +kernel, by decide +kernel⟩, List.mem_of_getElem? (i := 214) (by decide +kernel), List.mem_of_getElem? (i := 800) (by decide +kernel), List.mem_of_getElem? (i := 801) (by decide +kernel)⟩
theorem lw_p17 : lw_okq (⟨"TwoWayGrammar$Sets", "begins", "(I)I"⟩, 16) := ⟨⟨by decide +kernel, by decide +kernel⟩, List.mem_of_getElem? (i := 214) (by decide +kernel), List.mem_of_getElem? (i := 813) (by decide +kernel), List.mem_of_getElem? (i := 814) (by decide +kernel)⟩
theorem lw_p18 : lw_okq (⟨"TwoWayGrammar$Sets", "mayBePassed", "(I)Z"⟩, 16) := ⟨⟨by decide +kernel, by decide +kernel⟩, List.mem_of_getElem? (i := 214) (by decide +kernel), List.mem_of_getElem? (i := 817) (by decide +kernel), List.mem_of_getElem? (i := 818) (by decide +kernel)⟩
theorem lw_p19 : lw_okq (⟨"TwoWayGrammar$Sets", "height", "(I)I"⟩, 16) := ⟨⟨by decide +kernel, by decide +kernel⟩, List.mem_of_getElem? (i := 214) (by decide +kernel), List.mem_of_getElem? (i := 821) (by decide +kernel), List.mem_of_getElem? (i := 822) (by decide +kernel)⟩
theorem lw_p20 : lw_okq (⟨"TwoWayGrammar$Sets", "spreadFollows", "()V"⟩, 16) := ⟨⟨by decide +kernel, by decide +kernel⟩, List.mem_of_getElem? (i := 214) (by decide +kernel), List.mem_of_getElem? (i := 827) (by decide +kernel), List.mem_of_getElem? (i := 828) (by decide +kernel)⟩
theorem lw_p21 : lw_okq (⟨"TwoWayGrammar$Sets", "spreadInto", "(IJ)V"⟩, 16) := ⟨⟨by decide +kernel, by decide +kernel⟩, List.mem_of_getElem? (i := 214) (by decide +kernel), List.mem_of_getElem? (i := 831) (by decide +kernel), List.mem_of_getElem? (i := 832) (by decide +kernel)⟩
theorem lw_p22 : lw_okq (⟨"TwoWayGrammar$Sets", "startsFrom", "(IJ)J"⟩, 16) := ⟨⟨by decide +kernel, by decide +kernel⟩, List.mem_of_getElem? (i := 214) (by decide +kernel), List.mem_of_getElem? (i := 835) (by decide +kernel), List.mem_of_getElem? (i := 836) (by decide +kernel)⟩
theorem lw_p23 : lw_okq (⟨"TwoWayGrammar$Sets", "findDirectors", "()V"⟩, 16) := ⟨⟨by decide +kernel, by decide +kernel⟩, List.mem_of_getElem? (i := 214) (by decide +kernel), List.mem_of_getElem? (i := 840) (by decide +kernel), List.mem_of_getElem? (i := 841) (by decide +kernel)⟩
theorem lw_p24 : lw_okq (⟨"TwoWayGrammar$Sets", "findTops", "()V"⟩, 16) := ⟨⟨by decide +kernel, by decide +kernel⟩, List.mem_of_getElem? (i := 214) (by decide +kernel), List.mem_of_getElem? (i := 844) (by decide +kernel), List.mem_of_getElem? (i := 845) (by decide +kernel)⟩
theorem lw_p25 : lw_okq (⟨"TwoWayGrammar$Sets", "groupTops", "(I)I"⟩, 16) := ⟨⟨by decide +kernel, by decide +kernel⟩, List.mem_of_getElem? (i := 214) (by decide +kernel), List.mem_of_getElem? (i := 848) (by decide +kernel), List.mem_of_getElem? (i := 849) (by decide +kernel)⟩
theorem lw_p26 : lw_okq (⟨"TwoWayGrammar$Checks", "checkRules", "()V"⟩, 3) := ⟨⟨by decide +kernel, by decide +kernel⟩, List.mem_of_getElem? (i := 282) (by decide +kernel), List.mem_of_getElem? (i := 856) (by decide +kernel), List.mem_of_getElem? (i := 857) (by decide +kernel)⟩
theorem lw_p27 : lw_okq (⟨"TwoWayGrammar$Checks", "blame", "(II)V"⟩, 3) := ⟨⟨by decide +kernel, by decide +kernel⟩, List.mem_of_getElem? (i := 282) (by decide +kernel), List.mem_of_getElem? (i := 861) (by decide +kernel), List.mem_of_getElem? (i := 862) (by decide +kernel)⟩
theorem lw_p28 : lw_okq (⟨"TwoWayGrammar$Checks", "checkRepeats", "()V"⟩, 3) := ⟨⟨by decide +kernel, by decide +kernel⟩, List.mem_of_getElem? (i := 282) (by decide +kernel), List.mem_of_getElem? (i := 869) (by decide +kernel), List.mem_of_getElem? (i := 870) (by decide +kernel)⟩
theorem lw_p29 : lw_okq (⟨"TwoWayGrammar$Checks", "checkChoice", "(I)V"⟩, 3) := ⟨⟨by decide +kernel, by decide +kernel⟩, List.mem_of_getElem? (i := 282) (by decide +kernel), List.mem_of_getElem? (i := 874) (by decide +kernel), List.mem_of_getElem? (i := 875) (by decide +kernel)⟩
theorem lw_p30 : lw_okq (⟨"java/lang/Throwable", "fillInStackTrace", "(I)Ljava/lang/Throwable;"⟩, 6) := ⟨⟨by decide +kernel, by decide +kernel⟩, List.mem_of_getElem? (i := 959) (by decide +kernel), List.mem_of_getElem? (i := 957) (by decide +kernel), List.mem_of_getElem? (i := 958) (by decide +kernel)⟩
theorem lw_p31 : lw_okq (⟨"TwoWayGrammar", "text", "(I)LTwoWayGrammar$Text;"⟩, 16) := ⟨⟨by decide +kernel, by decide +kernel⟩, List.mem_of_getElem? (i := 30) (by decide +kernel), List.mem_of_getElem? (i := 988) (by decide +kernel), List.mem_of_getElem? (i := 989) (by decide +kernel)⟩
def lw_privs_2 : List (MethodName × Nat) := [(⟨"TwoWayGrammar$Sets", "refreshPart", "(I)V"⟩, 16), (⟨"TwoWayGrammar$Sets", "begins", "(I)I"⟩, 16), (⟨"TwoWayGrammar$Sets", "mayBePassed", "(I)Z"⟩, 16), (⟨"TwoWayGrammar$Sets", "height", "(I)I"⟩, 16), (⟨"TwoWayGrammar$Sets", "spreadFollows", "()V"⟩, 16), (⟨"TwoWayGrammar$Sets", "spreadInto", "(IJ)V"⟩, 16), (⟨"TwoWayGrammar$Sets", "startsFrom", "(IJ)J"⟩, 16), (⟨"TwoWayGrammar$Sets", "findDirectors", "()V"⟩, 16), (⟨"TwoWayGrammar$Sets", "findTops", "()V"⟩, 16), (⟨"TwoWayGrammar$Sets", "groupTops", "(I)I"⟩, 16), (⟨"TwoWayGrammar$Checks", "checkRules", "()V"⟩, 3), (⟨"TwoWayGrammar$Checks", "blame", "(II)V"⟩, 3), (⟨"TwoWayGrammar$Checks", "checkRepeats", "()V"⟩, 3), (⟨"TwoWayGrammar$Checks", "checkChoice", "(I)V"⟩, 3), (⟨"java/lang/Throwable", "fillInStackTrace", "(I)Ljava/lang/Throwable;"⟩, 6), (⟨"TwoWayGrammar", "text", "(I)LTwoWayGrammar$Text;"⟩, 16)]
theorem lw_r2 : ∀ q ∈ lw_privs_2, lw_okq q := List.forall_mem_cons.mpr ⟨lw_p16, List.forall_mem_cons.mpr ⟨lw_p17, List.forall_mem_cons.mpr ⟨lw_p18, List.forall_mem_cons.mpr ⟨lw_p19, List.forall_mem_cons.mpr ⟨lw_p20, List.forall_mem_cons.mpr ⟨lw_p21, List.forall_mem_cons.mpr ⟨lw_p22, List.forall_mem_cons.mpr ⟨lw_p23, List.forall_mem_cons.mpr ⟨lw_p24, List.forall_mem_cons.mpr ⟨lw_p25, List.forall_mem_cons.mpr ⟨lw_p26, List.forall_mem_cons.mpr ⟨lw_p27, List.forall_mem_cons.mpr ⟨lw_p28, List.forall_mem_cons.mpr ⟨lw_p29, List.forall_mem_cons.mpr ⟨lw_p30, List.forall_mem_cons.mpr ⟨lw_p31, fun _ h => absurd h List.not_mem_nil⟩⟩⟩⟩⟩⟩⟩⟩⟩⟩⟩⟩⟩⟩⟩⟩
theorem lw_p32 : lw_okq (⟨"TwoWayGrammar$Parsing", "takeToken", "()V"⟩, 12) := ⟨⟨by decide +kernel, by decide +kernel⟩, List.mem_of_getElem? (i := 325) (by decide +kernel), List.mem_of_getElem? (i := 1092) (by decide +kernel), List.mem_of_getElem? (i := 1093) (by decide +kernel)⟩
theorem lw_p33 : lw_okq (⟨"TwoWayGrammar$Parsing", "takeNumber", "()V"⟩, 12) := ⟨⟨by decide +kernel, by decide +kernel⟩, List.mem_of_getElem? (i := 325) (by decide +kernel), List.mem_of_getElem? (i := 1100) (by decide +kernel), List.mem_of_getElem? (i := 1101) (by decide +kernel)⟩
theorem lw_p34 : lw_okq (⟨"TwoWayGrammar$Parsing", "takeWord", "()V"⟩, 12) := ⟨⟨by decide +kernel, by decide +kernel⟩, List.mem_of_getElem? (i := 325) (by decide +kernel), List.mem_of_getElem? (i := 1110) (by decide +kernel), List.mem_of_getElem? (i := 1111) (by decide +kernel)⟩
theorem lw_p35 : lw_okq (⟨"TwoWayGrammar$Parsing", "literalOr", "(II)I"⟩, 12) := ⟨⟨by decide +kernel, by decide +kernel⟩, List.mem_of_getElem? (i := 325) (by decide +kernel), List.mem_of_getElem? (i := 1116) (by decide +kernel), List.mem_of_getElem? (i := 1117) (by decide +kernel)⟩
theorem lw_p36 : lw_okq (⟨"TwoWayGrammar$Parsing", "blame", "()V"⟩, 12) := ⟨⟨by decide +kernel, by decide +kernel⟩, List.mem_of_getElem? (i := 325) (by decide +kernel), List.mem_of_getElem? (i := 1122) (by decide +kernel), List.mem_of_getElem? (i := 1123) (by decide +kernel)⟩
theorem lw_p37 : lw_okq (⟨"TwoWayGrammar$Growing", "lowest", "(I)I"⟩, 8) := ⟨⟨by decide +kernel, by decide +kernel⟩, List.mem_of_getElem? (i := 398) (by decide +kernel), List.mem_of_getElem? (i := 1174) (by decide +kernel), List.mem_of_getElem? (i := 1175) (by decide +kernel)⟩
theorem lw_p38 : lw_okq (⟨"TwoWayGrammar$Growing", "draw", "(I)I"⟩, 8) := ⟨⟨by decide +kernel, by decide +kernel⟩, List.mem_of_getElem? (i := 398) (by decide +kernel), List.mem_of_getElem? (i := 1179) (by decide +kernel), List.mem_of_getElem? (i := 1180) (by decide +kernel)⟩
theorem lw_p39 : lw_okq (⟨"TwoWayGrammar$Parsing", "isNextIn", "(J)Z"⟩, 12) := ⟨⟨by decide +kernel, by decide +kernel⟩, List.mem_of_getElem? (i := 325) (by decide +kernel), List.mem_of_getElem? (i := 1190) (by decide +kernel), List.mem_of_getElem? (i := 1191) (by decide +kernel)⟩
theorem lw_p40 : lw_okq (⟨"TwoWayGrammar$Growing", "drawName", "()I"⟩, 8) := ⟨⟨by decide +kernel, by decide +kernel⟩, List.mem_of_getElem? (i := 398) (by decide +kernel), List.mem_of_getElem? (i := 1233) (by decide +kernel), List.mem_of_getElem? (i := 1234) (by decide +kernel)⟩
theorem lw_p41 : lw_okq (⟨"TwoWayGrammar$Printing", "nextValue", "()I"⟩, 13) := ⟨⟨by decide +kernel, by decide +kernel⟩, List.mem_of_getElem? (i := 417) (by decide +kernel), List.mem_of_getElem? (i := 1247) (by decide +kernel), List.mem_of_getElem? (i := 1248) (by decide +kernel)⟩
theorem lw_p42 : lw_okq (⟨"TwoWayGrammar$Printing", "writeNumber", "(I)V"⟩, 13) := ⟨⟨by decide +kernel, by decide +kernel⟩, List.mem_of_getElem? (i := 417) (by decide +kernel), List.mem_of_getElem? (i := 1251) (by decide +kernel), List.mem_of_getElem? (i := 1252) (by decide +kernel)⟩
theorem lw_p43 : lw_okq (⟨"TwoWayGrammar$Printing", "separate", "(Z)V"⟩, 13) := ⟨⟨by decide +kernel, by decide +kernel⟩, List.mem_of_getElem? (i := 417) (by decide +kernel), List.mem_of_getElem? (i := 1255) (by decide +kernel), List.mem_of_getElem? (i := 1256) (by decide +kernel)⟩
theorem lw_p44 : lw_okq (⟨"TwoWayGrammar$Printing", "write", "(C)V"⟩, 13) := ⟨⟨by decide +kernel, by decide +kernel⟩, List.mem_of_getElem? (i := 417) (by decide +kernel), List.mem_of_getElem? (i := 1260) (by decide +kernel), List.mem_of_getElem? (i := 1261) (by decide +kernel)⟩
theorem lw_p45 : lw_okq (⟨"TwoWayGrammar$Printing", "writeCode", "(I)V"⟩, 13) := ⟨⟨by decide +kernel, by decide +kernel⟩, List.mem_of_getElem? (i := 417) (by decide +kernel), List.mem_of_getElem? (i := 1265) (by decide +kernel), List.mem_of_getElem? (i := 1266) (by decide +kernel)⟩
theorem lw_p46 : lw_okq (⟨"TwoWayGrammar$Tree", "turnRound", "(II)V"⟩, 4) := ⟨⟨by decide +kernel, by decide +kernel⟩, List.mem_of_getElem? (i := 298) (by decide +kernel), List.mem_of_getElem? (i := 1324) (by decide +kernel), List.mem_of_getElem? (i := 1325) (by decide +kernel)⟩
theorem lw_p47 : lw_okq (⟨"TwoWayGrammarModel", "say", "(J)V"⟩, 96) := ⟨⟨by decide +kernel, by decide +kernel⟩, List.mem_of_getElem? (i := 1452) (by decide +kernel), List.mem_of_getElem? (i := 1765) (by decide +kernel), List.mem_of_getElem? (i := 1766) (by decide +kernel)⟩
def lw_privs_3 : List (MethodName × Nat) := [(⟨"TwoWayGrammar$Parsing", "takeToken", "()V"⟩, 12), (⟨"TwoWayGrammar$Parsing", "takeNumber", "()V"⟩, 12), (⟨"TwoWayGrammar$Parsing", "takeWord", "()V"⟩, 12), (⟨"TwoWayGrammar$Parsing", "literalOr", "(II)I"⟩, 12), (⟨"TwoWayGrammar$Parsing", "blame", "()V"⟩, 12), (⟨"TwoWayGrammar$Growing", "lowest", "(I)I"⟩, 8), (⟨"TwoWayGrammar$Growing", "draw", "(I)I"⟩, 8), (⟨"TwoWayGrammar$Parsing", "isNextIn", "(J)Z"⟩, 12), (⟨"TwoWayGrammar$Growing", "drawName", "()I"⟩, 8), (⟨"TwoWayGrammar$Printing", "nextValue", "()I"⟩, 13), (⟨"TwoWayGrammar$Printing", "writeNumber", "(I)V"⟩, 13), (⟨"TwoWayGrammar$Printing", "separate", "(Z)V"⟩, 13), (⟨"TwoWayGrammar$Printing", "write", "(C)V"⟩, 13), (⟨"TwoWayGrammar$Printing", "writeCode", "(I)V"⟩, 13), (⟨"TwoWayGrammar$Tree", "turnRound", "(II)V"⟩, 4), (⟨"TwoWayGrammarModel", "say", "(J)V"⟩, 96)]
theorem lw_r3 : ∀ q ∈ lw_privs_3, lw_okq q := List.forall_mem_cons.mpr ⟨lw_p32, List.forall_mem_cons.mpr ⟨lw_p33, List.forall_mem_cons.mpr ⟨lw_p34, List.forall_mem_cons.mpr ⟨lw_p35, List.forall_mem_cons.mpr ⟨lw_p36, List.forall_mem_cons.mpr ⟨lw_p37, List.forall_mem_cons.mpr ⟨lw_p38, List.forall_mem_cons.mpr ⟨lw_p39, List.forall_mem_cons.mpr ⟨lw_p40, List.forall_mem_cons.mpr ⟨lw_p41, List.forall_mem_cons.mpr ⟨lw_p42, List.forall_mem_cons.mpr ⟨lw_p43, List.forall_mem_cons.mpr ⟨lw_p44, List.forall_mem_cons.mpr ⟨lw_p45, List.forall_mem_cons.mpr ⟨lw_p46, List.forall_mem_cons.mpr ⟨lw_p47, fun _ h => absurd h List.not_mem_nil⟩⟩⟩⟩⟩⟩⟩⟩⟩⟩⟩⟩⟩⟩⟩⟩
theorem lw_p48 : lw_okq (⟨"TwoWayGrammarModel", "read", "()V"⟩, 96) := ⟨⟨by decide +kernel, by decide +kernel⟩, List.mem_of_getElem? (i := 1452) (by decide +kernel), List.mem_of_getElem? (i := 1813) (by decide +kernel), List.mem_of_getElem? (i := 1814) (by decide +kernel)⟩
theorem lw_p49 : lw_okq (⟨"TwoWayGrammarModel", "scan", "()V"⟩, 96) := ⟨⟨by decide +kernel, by decide +kernel⟩, List.mem_of_getElem? (i := 1452) (by decide +kernel), List.mem_of_getElem? (i := 1817) (by decide +kernel), List.mem_of_getElem? (i := 1818) (by decide +kernel)⟩
theorem lw_p50 : lw_okq (⟨"TwoWayGrammarModel", "charAt", "(I)I"⟩, 96) := ⟨⟨by decide +kernel, by decide +kernel⟩, List.mem_of_getElem? (i := 1452) (by decide +kernel), List.mem_of_getElem? (i := 1824) (by decide +kernel), List.mem_of_getElem? (i := 1825) (by decide +kernel)⟩
theorem lw_p51 : lw_okq (⟨"TwoWayGrammarModel", "letters", "(I)I"⟩, 96) := ⟨⟨by decide +kernel, by decide +kernel⟩, List.mem_of_getElem? (i := 1452) (by decide +kernel), List.mem_of_getElem? (i := 1831) (by decide +kernel), List.mem_of_getElem? (i := 1832) (by decide +kernel)⟩
theorem lw_p52 : lw_okq (⟨"TwoWayGrammarModel", "readRule", "()V"⟩, 96) := ⟨⟨by decide +kernel, by decide +kernel⟩, List.mem_of_getElem? (i := 1452) (by decide +kernel), List.mem_of_getElem? (i := 1840) (by decide +kernel), List.mem_of_getElem? (i := 1841) (by decide +kernel)⟩
theorem lw_p53 : lw_okq (⟨"TwoWayGrammarModel", "blame", "(II)V"⟩, 96) := ⟨⟨by decide +kernel, by decide +kernel⟩, List.mem_of_getElem? (i := 1452) (by decide +kernel), List.mem_of_getElem? (i := 1844) (by decide +kernel), List.mem_of_getElem? (i := 1845) (by decide +kernel)⟩
theorem lw_p54 : lw_okq (⟨"TwoWayGrammarModel", "newForm", "()I"⟩, 96) := ⟨⟨by decide +kernel, by decide +kernel⟩, List.mem_of_getElem? (i := 1452) (by decide +kernel), List.mem_of_getElem? (i := 1848) (by decide +kernel), List.mem_of_getElem? (i := 1849) (by decide +kernel)⟩
theorem lw_p55 : lw_okq (⟨"TwoWayGrammarModel", "form", "()V"⟩, 96) := ⟨⟨by decide +kernel, by decide +kernel⟩, List.mem_of_getElem? (i := 1452) (by decide +kernel), List.mem_of_getElem? (i := 1852) (by decide +kernel), List.mem_of_getElem? (i := 1853) (by decide +kernel)⟩
theorem lw_p56 : lw_okq (⟨"TwoWayGrammarModel", "begin", "(I)V"⟩, 96) := ⟨⟨by decide +kernel, by decide +kernel⟩, List.mem_of_getElem? (i := 1452) (by decide +kernel), List.mem_of_getElem? (i := 1856) (by decide +kernel), List.mem_of_getElem? (i := 1857) (by decide +kernel)⟩
theorem lw_p57 : lw_okq (⟨"TwoWayGrammarModel", "isPart", "()Z"⟩, 96) := ⟨⟨by decide +kernel, by decide +kernel⟩, List.mem_of_getElem? (i := 1452) (by decide +kernel), List.mem_of_getElem? (i := 1860) (by decide +kernel), List.mem_of_getElem? (i := 1861) (by decide +kernel)⟩
theorem lw_p58 : lw_okq (⟨"TwoWayGrammarModel", "part", "()V"⟩, 96) := ⟨⟨by decide +kernel, by decide +kernel⟩, List.mem_of_getElem? (i := 1452) (by decide +kernel), List.mem_of_getElem? (i := 1874) (by decide +kernel), List.mem_of_getElem? (i := 1875) (by decide +kernel)⟩
theorem lw_p59 : lw_okq (⟨"TwoWayGrammarModel", "literal", "()I"⟩, 96) := ⟨⟨by decide +kernel, by decide +kernel⟩, List.mem_of_getElem? (i := 1452) (by decide +kernel), List.mem_of_getElem? (i := 1878) (by decide +kernel), List.mem_of_getElem? (i := 1879) (by decide +kernel)⟩
theorem lw_p60 : lw_okq (⟨"TwoWayGrammarModel", "put", "(I)V"⟩, 96) := ⟨⟨by decide +kernel, by decide +kernel⟩, List.mem_of_getElem? (i := 1452) (by decide +kernel), List.mem_of_getElem? (i := 1882) (by decide +kernel), List.mem_of_getElem? (i := 1883) (by decide +kernel)⟩
theorem lw_p61 : lw_okq (⟨"TwoWayGrammarModel", "plus", "()V"⟩, 96) := ⟨⟨by decide +kernel, by decide +kernel⟩, List.mem_of_getElem? (i := 1452) (by decide +kernel), List.mem_of_getElem? (i := 1886) (by decide +kernel), List.mem_of_getElem? (i := 1887) (by decide +kernel)⟩
theorem lw_p62 : lw_okq (⟨"TwoWayGrammarModel", "study", "()V"⟩, 96) := ⟨⟨by decide +kernel, by decide +kernel⟩, List.mem_of_getElem? (i := 1452) (by decide +kernel), List.mem_of_getElem? (i := 1890) (by decide +kernel), List.mem_of_getElem? (i := 1891) (by decide +kernel)⟩
theorem lw_p63 : lw_okq (⟨"TwoWayGrammarModel", "weigh", "(I)V"⟩, 96) := ⟨⟨by decide +kernel, by decide +kernel⟩, List.mem_of_getElem? (i := 1452) (by decide +kernel), List.mem_of_getElem? (i := 1894) (by decide +kernel), List.mem_of_getElem? (i := 1895) (by decide +kernel)⟩
def lw_privs_4 : List (MethodName × Nat) := [(⟨"TwoWayGrammarModel", "read", "()V"⟩, 96), (⟨"TwoWayGrammarModel", "scan", "()V"⟩, 96), (⟨"TwoWayGrammarModel", "charAt", "(I)I"⟩, 96), (⟨"TwoWayGrammarModel", "letters", "(I)I"⟩, 96), (⟨"TwoWayGrammarModel", "readRule", "()V"⟩, 96), (⟨"TwoWayGrammarModel", "blame", "(II)V"⟩, 96), (⟨"TwoWayGrammarModel", "newForm", "()I"⟩, 96), (⟨"TwoWayGrammarModel", "form", "()V"⟩, 96), (⟨"TwoWayGrammarModel", "begin", "(I)V"⟩, 96), (⟨"TwoWayGrammarModel", "isPart", "()Z"⟩, 96), (⟨"TwoWayGrammarModel", "part", "()V"⟩, 96), (⟨"TwoWayGrammarModel", "literal", "()I"⟩, 96), (⟨"TwoWayGrammarModel", "put", "(I)V"⟩, 96), (⟨"TwoWayGrammarModel", "plus", "()V"⟩, 96), (⟨"TwoWayGrammarModel", "study", "()V"⟩, 96), (⟨"TwoWayGrammarModel", "weigh", "(I)V"⟩, 96)]
theorem lw_r4 : ∀ q ∈ lw_privs_4, lw_okq q := List.forall_mem_cons.mpr ⟨lw_p48, List.forall_mem_cons.mpr ⟨lw_p49, List.forall_mem_cons.mpr ⟨lw_p50, List.forall_mem_cons.mpr ⟨lw_p51, List.forall_mem_cons.mpr ⟨lw_p52, List.forall_mem_cons.mpr ⟨lw_p53, List.forall_mem_cons.mpr ⟨lw_p54, List.forall_mem_cons.mpr ⟨lw_p55, List.forall_mem_cons.mpr ⟨lw_p56, List.forall_mem_cons.mpr ⟨lw_p57, List.forall_mem_cons.mpr ⟨lw_p58, List.forall_mem_cons.mpr ⟨lw_p59, List.forall_mem_cons.mpr ⟨lw_p60, List.forall_mem_cons.mpr ⟨lw_p61, List.forall_mem_cons.mpr ⟨lw_p62, List.forall_mem_cons.mpr ⟨lw_p63, fun _ h => absurd h List.not_mem_nil⟩⟩⟩⟩⟩⟩⟩⟩⟩⟩⟩⟩⟩⟩⟩⟩
theorem lw_p64 : lw_okq (⟨"TwoWayGrammarModel", "alternative", "(I)V"⟩, 96) := ⟨⟨by decide +kernel, by decide +kernel⟩, List.mem_of_getElem? (i := 1452) (by decide +kernel), List.mem_of_getElem? (i := 1898) (by decide +kernel), List.mem_of_getElem? (i := 1899) (by decide +kernel)⟩
theorem lw_p65 : lw_okq (⟨"TwoWayGrammarModel", "line", "(I)I"⟩, 96) := ⟨⟨by decide +kernel, by decide +kernel⟩, List.mem_of_getElem? (i := 1452) (by decide +kernel), List.mem_of_getElem? (i := 1902) (by decide +kernel), List.mem_of_getElem? (i := 1903) (by decide +kernel)⟩
theorem lw_p66 : lw_okq (⟨"TwoWayGrammarModel", "isVoid", "(I)Z"⟩, 96) := ⟨⟨by decide +kernel, by decide +kernel⟩, List.mem_of_getElem? (i := 1452) (by decide +kernel), List.mem_of_getElem? (i := 1906) (by decide +kernel), List.mem_of_getElem? (i := 1907) (by decide +kernel)⟩
theorem lw_p67 : lw_okq (⟨"TwoWayGrammarModel", "formOf", "(I)V"⟩, 96) := ⟨⟨by decide +kernel, by decide +kernel⟩, List.mem_of_getElem? (i := 1452) (by decide +kernel), List.mem_of_getElem? (i := 1910) (by decide +kernel), List.mem_of_getElem? (i := 1911) (by decide +kernel)⟩
theorem lw_p68 : lw_okq (⟨"TwoWayGrammarModel", "behind", "(IJ)V"⟩, 96) := ⟨⟨by decide +kernel, by decide +kernel⟩, List.mem_of_getElem? (i := 1452) (by decide +kernel), List.mem_of_getElem? (i := 1914) (by decide +kernel), List.mem_of_getElem? (i := 1915) (by decide +kernel)⟩
theorem lw_p69 : lw_okq (⟨"TwoWayGrammarModel", "check", "()I"⟩, 96) := ⟨⟨by decide +kernel, by decide +kernel⟩, List.mem_of_getElem? (i := 1452) (by decide +kernel), List.mem_of_getElem? (i := 1918) (by decide +kernel), List.mem_of_getElem? (i := 1919) (by decide +kernel)⟩
theorem lw_p70 : lw_okq (⟨"TwoWayGrammarModel", "least", "(III)I"⟩, 96) := ⟨⟨by decide +kernel, by decide +kernel⟩, List.mem_of_getElem? (i := 1452) (by decide +kernel), List.mem_of_getElem? (i := 1922) (by decide +kernel), List.mem_of_getElem? (i := 1923) (by decide +kernel)⟩
theorem lw_p71 : lw_okq (⟨"TwoWayGrammarModel", "directors", "(II)J"⟩, 96) := ⟨⟨by decide +kernel, by decide +kernel⟩, List.mem_of_getElem? (i := 1452) (by decide +kernel), List.mem_of_getElem? (i := 1926) (by decide +kernel), List.mem_of_getElem? (i := 1927) (by decide +kernel)⟩
theorem lw_p72 : lw_okq (⟨"TwoWayGrammarModel", "walk", "(I)V"⟩, 96) := ⟨⟨by decide +kernel, by decide +kernel⟩, List.mem_of_getElem? (i := 1452) (by decide +kernel), List.mem_of_getElem? (i := 1938) (by decide +kernel), List.mem_of_getElem? (i := 1939) (by decide +kernel)⟩
theorem lw_p73 : lw_okq (⟨"TwoWayGrammarModel", "enter", "(I)V"⟩, 96) := ⟨⟨by decide +kernel, by decide +kernel⟩, List.mem_of_getElem? (i := 1452) (by decide +kernel), List.mem_of_getElem? (i := 1942) (by decide +kernel), List.mem_of_getElem? (i := 1943) (by decide +kernel)⟩
theorem lw_p74 : lw_okq (⟨"TwoWayGrammarModel", "comes", "(IJ)I"⟩, 96) := ⟨⟨by decide +kernel, by decide +kernel⟩, List.mem_of_getElem? (i := 1452) (by decide +kernel), List.mem_of_getElem? (i := 1946) (by decide +kernel), List.mem_of_getElem? (i := 1947) (by decide +kernel)⟩
theorem lw_p75 : lw_okq (⟨"TwoWayGrammarModel", "push", "(III)V"⟩, 96) := ⟨⟨by decide +kernel, by decide +kernel⟩, List.mem_of_getElem? (i := 1452) (by decide +kernel), List.mem_of_getElem? (i := 1950) (by decide +kernel), List.mem_of_getElem? (i := 1951) (by decide +kernel)⟩
theorem lw_p76 : lw_okq (⟨"TwoWayGrammarModel", "unit", "(IZ)V"⟩, 96) := ⟨⟨by decide +kernel, by decide +kernel⟩, List.mem_of_getElem? (i := 1452) (by decide +kernel), List.mem_of_getElem? (i := 1955) (by decide +kernel), List.mem_of_getElem? (i := 1956) (by decide +kernel)⟩
theorem lw_p77 : lw_okq (⟨"TwoWayGrammarModel", "draw", "(I)I"⟩, 96) := ⟨⟨by decide +kernel, by decide +kernel⟩, List.mem_of_getElem? (i := 1452) (by decide +kernel), List.mem_of_getElem? (i := 1959) (by decide +kernel), List.mem_of_getElem? (i := 1960) (by decide +kernel)⟩
theorem lw_p78 : lw_okq (⟨"TwoWayGrammarModel", "has", "(J)Z"⟩, 96) := ⟨⟨by decide +kernel, by decide +kernel⟩, List.mem_of_getElem? (i := 1452) (by decide +kernel), List.mem_of_getElem? (i := 1965) (by decide +kernel), List.mem_of_getElem? (i := 1966) (by decide +kernel)⟩
theorem lw_p79 : lw_okq (⟨"TwoWayGrammarModel", "single", "(I)V"⟩, 96) := ⟨⟨by decide +kernel, by decide +kernel⟩, List.mem_of_getElem? (i := 1452) (by decide +kernel), List.mem_of_getElem? (i := 1969) (by decide +kernel), List.mem_of_getElem? (i := 1970) (by decide +kernel)⟩
def lw_privs_5 : List (MethodName × Nat) := [(⟨"TwoWayGrammarModel", "alternative", "(I)V"⟩, 96), (⟨"TwoWayGrammarModel", "line", "(I)I"⟩, 96), (⟨"TwoWayGrammarModel", "isVoid", "(I)Z"⟩, 96), (⟨"TwoWayGrammarModel", "formOf", "(I)V"⟩, 96), (⟨"TwoWayGrammarModel", "behind", "(IJ)V"⟩, 96), (⟨"TwoWayGrammarModel", "check", "()I"⟩, 96), (⟨"TwoWayGrammarModel", "least", "(III)I"⟩, 96), (⟨"TwoWayGrammarModel", "directors", "(II)J"⟩, 96), (⟨"TwoWayGrammarModel", "walk", "(I)V"⟩, 96), (⟨"TwoWayGrammarModel", "enter", "(I)V"⟩, 96), (⟨"TwoWayGrammarModel", "comes", "(IJ)I"⟩, 96), (⟨"TwoWayGrammarModel", "push", "(III)V"⟩, 96), (⟨"TwoWayGrammarModel", "unit", "(IZ)V"⟩, 96), (⟨"TwoWayGrammarModel", "draw", "(I)I"⟩, 96), (⟨"TwoWayGrammarModel", "has", "(J)Z"⟩, 96), (⟨"TwoWayGrammarModel", "single", "(I)V"⟩, 96)]
theorem lw_r5 : ∀ q ∈ lw_privs_5, lw_okq q := List.forall_mem_cons.mpr ⟨lw_p64, List.forall_mem_cons.mpr ⟨lw_p65, List.forall_mem_cons.mpr ⟨lw_p66, List.forall_mem_cons.mpr ⟨lw_p67, List.forall_mem_cons.mpr ⟨lw_p68, List.forall_mem_cons.mpr ⟨lw_p69, List.forall_mem_cons.mpr ⟨lw_p70, List.forall_mem_cons.mpr ⟨lw_p71, List.forall_mem_cons.mpr ⟨lw_p72, List.forall_mem_cons.mpr ⟨lw_p73, List.forall_mem_cons.mpr ⟨lw_p74, List.forall_mem_cons.mpr ⟨lw_p75, List.forall_mem_cons.mpr ⟨lw_p76, List.forall_mem_cons.mpr ⟨lw_p77, List.forall_mem_cons.mpr ⟨lw_p78, List.forall_mem_cons.mpr ⟨lw_p79, fun _ h => absurd h List.not_mem_nil⟩⟩⟩⟩⟩⟩⟩⟩⟩⟩⟩⟩⟩⟩⟩⟩
theorem lw_p80 : lw_okq (⟨"TwoWayGrammarModel", "match", "(I)V"⟩, 96) := ⟨⟨by decide +kernel, by decide +kernel⟩, List.mem_of_getElem? (i := 1452) (by decide +kernel), List.mem_of_getElem? (i := 1973) (by decide +kernel), List.mem_of_getElem? (i := 1974) (by decide +kernel)⟩
theorem lw_p81 : lw_okq (⟨"TwoWayGrammarModel", "grown", "(I)V"⟩, 96) := ⟨⟨by decide +kernel, by decide +kernel⟩, List.mem_of_getElem? (i := 1452) (by decide +kernel), List.mem_of_getElem? (i := 1978) (by decide +kernel), List.mem_of_getElem? (i := 1979) (by decide +kernel)⟩
theorem lw_p82 : lw_okq (⟨"TwoWayGrammarModel", "keywordOf", "(J)I"⟩, 96) := ⟨⟨by decide +kernel, by decide +kernel⟩, List.mem_of_getElem? (i := 1452) (by decide +kernel), List.mem_of_getElem? (i := 1982) (by decide +kernel), List.mem_of_getElem? (i := 1983) (by decide +kernel)⟩
theorem lw_p83 : lw_okq (⟨"TwoWayGrammarModel", "shown", "(I)V"⟩, 96) := ⟨⟨by decide +kernel, by decide +kernel⟩, List.mem_of_getElem? (i := 1452) (by decide +kernel), List.mem_of_getElem? (i := 1987) (by decide +kernel), List.mem_of_getElem? (i := 1988) (by decide +kernel)⟩
theorem lw_p84 : lw_okq (⟨"TwoWayGrammarModel", "letters2", "(J)V"⟩, 96) := ⟨⟨by decide +kernel, by decide +kernel⟩, List.mem_of_getElem? (i := 1452) (by decide +kernel), List.mem_of_getElem? (i := 1991) (by decide +kernel), List.mem_of_getElem? (i := 1992) (by decide +kernel)⟩
theorem lw_p85 : lw_okq (⟨"TwoWayGrammarModel", "between", "(I)V"⟩, 96) := ⟨⟨by decide +kernel, by decide +kernel⟩, List.mem_of_getElem? (i := 1452) (by decide +kernel), List.mem_of_getElem? (i := 1996) (by decide +kernel), List.mem_of_getElem? (i := 1997) (by decide +kernel)⟩
theorem lw_p86 : lw_okq (⟨"TwoWayGrammarModel", "write", "(I)V"⟩, 96) := ⟨⟨by decide +kernel, by decide +kernel⟩, List.mem_of_getElem? (i := 1452) (by decide +kernel), List.mem_of_getElem? (i := 2000) (by decide +kernel), List.mem_of_getElem? (i := 2001) (by decide +kernel)⟩
theorem lw_p87 : lw_okq (⟨"TwoWayGrammarModel", "layout", "(I)V"⟩, 96) := ⟨⟨by decide +kernel, by decide +kernel⟩, List.mem_of_getElem? (i := 1452) (by decide +kernel), List.mem_of_getElem? (i := 2007) (by decide +kernel), List.mem_of_getElem? (i := 2008) (by decide +kernel)⟩
theorem lw_p88 : lw_okq (⟨"TwoWayGrammarModel", "choose", "(I)V"⟩, 96) := ⟨⟨by decide +kernel, by decide +kernel⟩, List.mem_of_getElem? (i := 1452) (by decide +kernel), List.mem_of_getElem? (i := 2011) (by decide +kernel), List.mem_of_getElem? (i := 2012) (by decide +kernel)⟩
theorem lw_p89 : lw_okq (⟨"TwoWayGrammarModel", "directed", "(I)I"⟩, 96) := ⟨⟨by decide +kernel, by decide +kernel⟩, List.mem_of_getElem? (i := 1452) (by decide +kernel), List.mem_of_getElem? (i := 2015) (by decide +kernel), List.mem_of_getElem? (i := 2016) (by decide +kernel)⟩
theorem lw_p90 : lw_okq (⟨"TwoWayGrammarModel", "lowest", "(I)I"⟩, 96) := ⟨⟨by decide +kernel, by decide +kernel⟩, List.mem_of_getElem? (i := 1452) (by decide +kernel), List.mem_of_getElem? (i := 2019) (by decide +kernel), List.mem_of_getElem? (i := 2020) (by decide +kernel)⟩
theorem lw_p91 : lw_okq (⟨"TwoWayGrammarModel", "swap", "()V"⟩, 96) := ⟨⟨by decide +kernel, by decide +kernel⟩, List.mem_of_getElem? (i := 1452) (by decide +kernel), List.mem_of_getElem? (i := 2023) (by decide +kernel), List.mem_of_getElem? (i := 2024) (by decide +kernel)⟩
theorem lw_p92 : lw_okq (⟨"TwoWayGrammarModel", "again", "(II)V"⟩, 96) := ⟨⟨by decide +kernel, by decide +kernel⟩, List.mem_of_getElem? (i := 1452) (by decide +kernel), List.mem_of_getElem? (i := 2027) (by decide +kernel), List.mem_of_getElem? (i := 2028) (by decide +kernel)⟩
theorem lw_p93 : lw_okq (⟨"TwoWayGrammarModel", "tokenize", "()V"⟩, 96) := ⟨⟨by decide +kernel, by decide +kernel⟩, List.mem_of_getElem? (i := 1452) (by decide +kernel), List.mem_of_getElem? (i := 2035) (by decide +kernel), List.mem_of_getElem? (i := 2036) (by decide +kernel)⟩
theorem lw_p94 : lw_okq (⟨"TwoWayGrammarModel", "signOf", "(I)I"⟩, 96) := ⟨⟨by decide +kernel, by decide +kernel⟩, List.mem_of_getElem? (i := 1452) (by decide +kernel), List.mem_of_getElem? (i := 2041) (by decide +kernel), List.mem_of_getElem? (i := 2042) (by decide +kernel)⟩
theorem lw_p95 : lw_okq (⟨"TwoWayGrammarModel", "take", "()I"⟩, 96) := ⟨⟨by decide +kernel, by decide +kernel⟩, List.mem_of_getElem? (i := 1452) (by decide +kernel), List.mem_of_getElem? (i := 2045) (by decide +kernel), List.mem_of_getElem? (i := 2046) (by decide +kernel)⟩
def lw_privs_6 : List (MethodName × Nat) := [(⟨"TwoWayGrammarModel", "match", "(I)V"⟩, 96), (⟨"TwoWayGrammarModel", "grown", "(I)V"⟩, 96), (⟨"TwoWayGrammarModel", "keywordOf", "(J)I"⟩, 96), (⟨"TwoWayGrammarModel", "shown", "(I)V"⟩, 96), (⟨"TwoWayGrammarModel", "letters2", "(J)V"⟩, 96), (⟨"TwoWayGrammarModel", "between", "(I)V"⟩, 96), (⟨"TwoWayGrammarModel", "write", "(I)V"⟩, 96), (⟨"TwoWayGrammarModel", "layout", "(I)V"⟩, 96), (⟨"TwoWayGrammarModel", "choose", "(I)V"⟩, 96), (⟨"TwoWayGrammarModel", "directed", "(I)I"⟩, 96), (⟨"TwoWayGrammarModel", "lowest", "(I)I"⟩, 96), (⟨"TwoWayGrammarModel", "swap", "()V"⟩, 96), (⟨"TwoWayGrammarModel", "again", "(II)V"⟩, 96), (⟨"TwoWayGrammarModel", "tokenize", "()V"⟩, 96), (⟨"TwoWayGrammarModel", "signOf", "(I)I"⟩, 96), (⟨"TwoWayGrammarModel", "take", "()I"⟩, 96)]
theorem lw_r6 : ∀ q ∈ lw_privs_6, lw_okq q := List.forall_mem_cons.mpr ⟨lw_p80, List.forall_mem_cons.mpr ⟨lw_p81, List.forall_mem_cons.mpr ⟨lw_p82, List.forall_mem_cons.mpr ⟨lw_p83, List.forall_mem_cons.mpr ⟨lw_p84, List.forall_mem_cons.mpr ⟨lw_p85, List.forall_mem_cons.mpr ⟨lw_p86, List.forall_mem_cons.mpr ⟨lw_p87, List.forall_mem_cons.mpr ⟨lw_p88, List.forall_mem_cons.mpr ⟨lw_p89, List.forall_mem_cons.mpr ⟨lw_p90, List.forall_mem_cons.mpr ⟨lw_p91, List.forall_mem_cons.mpr ⟨lw_p92, List.forall_mem_cons.mpr ⟨lw_p93, List.forall_mem_cons.mpr ⟨lw_p94, List.forall_mem_cons.mpr ⟨lw_p95, fun _ h => absurd h List.not_mem_nil⟩⟩⟩⟩⟩⟩⟩⟩⟩⟩⟩⟩⟩⟩⟩⟩
theorem lw_p96 : lw_okq (⟨"TwoWayGrammarModel", "levelOf", "(I)I"⟩, 96) := ⟨⟨by decide +kernel, by decide +kernel⟩, List.mem_of_getElem? (i := 1452) (by decide +kernel), List.mem_of_getElem? (i := 2057) (by decide +kernel), List.mem_of_getElem? (i := 2058) (by decide +kernel)⟩
theorem lw_p97 : lw_okq (⟨"TwoWayGrammarModel", "isName", "(J)Z"⟩, 96) := ⟨⟨by decide +kernel, by decide +kernel⟩, List.mem_of_getElem? (i := 1452) (by decide +kernel), List.mem_of_getElem? (i := 2066) (by decide +kernel), List.mem_of_getElem? (i := 2067) (by decide +kernel)⟩
def lw_privs_7 : List (MethodName × Nat) := [(⟨"TwoWayGrammarModel", "levelOf", "(I)I"⟩, 96), (⟨"TwoWayGrammarModel", "isName", "(J)Z"⟩, 96)]
theorem lw_r7 : ∀ q ∈ lw_privs_7, lw_okq q := List.forall_mem_cons.mpr ⟨lw_p96, List.forall_mem_cons.mpr ⟨lw_p97, fun _ h => absurd h List.not_mem_nil⟩⟩
def lw_privs : List (MethodName × Nat) := lw_privs_1 ++ (lw_privs_2 ++ (lw_privs_3 ++ (lw_privs_4 ++ (lw_privs_5 ++ (lw_privs_6 ++ (lw_privs_7))))))
def lw_tbl : List Cond := k2_sels lw_privs ++ tables_1
theorem lw_privs_ok : ∀ q ∈ lw_privs, lw_okq q := by
  show ∀ q ∈ lw_privs_1 ++ (lw_privs_2 ++ (lw_privs_3 ++ (lw_privs_4 ++ (lw_privs_5 ++ (lw_privs_6 ++ (lw_privs_7)))))), lw_okq q
  exact List.forall_mem_append.mpr ⟨lw_r1, List.forall_mem_append.mpr ⟨lw_r2, List.forall_mem_append.mpr ⟨lw_r3, List.forall_mem_append.mpr ⟨lw_r4, List.forall_mem_append.mpr ⟨lw_r5, List.forall_mem_append.mpr ⟨lw_r6, lw_r7⟩⟩⟩⟩⟩⟩
end
section
/-! THE SMALL MACHINE. A machine of our own over pictures of the cells: a cell is known by its place in a list, a reference is such a place.
A run of it is a run of the JVM (part 11); all that is said of the programs is said of it. -/
/-- a cell: an array (the number of its class in 'tys', its contents), or an object (the number of its class in 'classes', its fields) -/
abbrev sm_E : Type := (Nat × vp_A) ⊕ (Nat × List Value)
abbrev sm_H : Type := List sm_E
abbrev sm_L : Type := List (Option Value)
/-- an instruction, its length, what its operand names (resolved) -/
abbrev sm_I : Type := Instr × Nat × List Nat
/-- a local -/
def sm_lget (ls : sm_L) (i : Nat) : Option Value := match ls[i]? with
  | some (some v) => some v
  | _ => none
/-- a store at i breaks a long that ends there -/
def sm_kill (ls : sm_L) (i : Nat) : sm_L := match i with
  | 0 => ls
  | j + 1 => match ls[j]? with
    | some (some v) => if v.category = 2 then ls.set j none else ls
    | _ => ls
def sm_put1 (ls : sm_L) (i : Nat) (v : Value) : Option sm_L := if i < ls.length then some ((sm_kill ls i).set i (some v)) else none
def sm_put2 (ls : sm_L) (i : Nat) (v : Value) : Option sm_L := if i + 1 < ls.length then some (((sm_kill ls i).set i (some v)).set (i + 1) none) else none
def sm_jmp (pc : Nat) (off : Int) : Nat := ((pc : Int) + off).toNat
def sm_cmp (c : ClassFile.Cond) (x y : Int32) : Bool := match c with
  | .eq => decide (x = y)
  | .ne => !decide (x = y)
  | .lt => decide (x < y)
  | .ge => decide (y ≤ x)
  | .gt => decide (y < x)
  | .le => decide (x ≤ y)
/-- where one instruction leads: on; the method's answer; a call (method, arguments, what lies below them) -/
abbrev sm_R : Type := (Nat × sm_L × List Value × sm_H) ⊕ (Option Value ⊕ (Nat × List Value × List Value))
def sm_nx (pc : Nat) (ls : sm_L) (st : List Value) (h : sm_H) : Option sm_R := some (.inl (pc, ls, st, h))
def sm_ret (v : Option Value) : Option sm_R := some (.inr (.inl v))
def sm_call (m : Nat) (as rest : List Value) : Option sm_R := some (.inr (.inr (m, as, rest)))
/-- so many cells at the front of a picture were there before the law began, and are never written -/
def sm_C : Nat := 51
/-- a value fits a field of a kind: 0 int, 1 long, 2 reference, 3 boolean, 4 char -/
def sm_fit (t : Nat) (v : Value) : Bool := match t, v with
  | 0, .int _ => true
  | 1, .long _ => true
  | 2, .ref _ => true
  | 2, .null => true
  | 3, .int x => decide (x = 0 ∨ x = 1)
  | 4, .int x => decide (0 ≤ x ∧ x ≤ 65535)
  | _, _ => false
def sm_dflt (t : Nat) : Value := match t with
  | 1 => .long 0
  | 2 => .null
  | _ => .int 0
/-- an index of an array of n places -/
def sm_ix (x : Int32) (n : Nat) : Bool := decide (¬ x < 0 ∧ x.toNatClampNeg < n)
def sm_args (n : Nat) (st : List Value) : Option (List Value × List Value) := if n ≤ st.length then some ((st.take n).reverse, st.drop n) else none
/-- the method that a class number has in a list [class, method, class, method ..] -/
def sm_pick (ci : Nat) : List Nat → Option Nat
  | c :: m :: r => if c = ci then some m else sm_pick ci r
  | _ => none
def sm_bin (f : Int32 → Int32 → Int32) (pc : Nat) (ls : sm_L) (st : List Value) (h : sm_H) : Option sm_R := match st with
  | .int y :: .int x :: r => sm_nx (pc + 1) ls (.int (f x y) :: r) h
  | _ => none
def sm_binL (f : Int64 → Int64 → Int64) (pc : Nat) (ls : sm_L) (st : List Value) (h : sm_H) : Option sm_R := match st with
  | .long y :: .long x :: r => sm_nx (pc + 1) ls (.long (f x y) :: r) h
  | _ => none
def sm_load (n i pc : Nat) (ls : sm_L) (st : List Value) (h : sm_H) : Option sm_R := match sm_lget ls i with
  | some v => sm_nx (pc + n) ls (v :: st) h
  | none => none
def sm_isI (v : Value) : Bool := match v with | .int _ => true | _ => false
def sm_isL (v : Value) : Bool := match v with | .long _ => true | _ => false
def sm_isA (v : Value) : Bool := match v with | .ref _ => true | _ => false
def sm_loadK (k : Value → Bool) (n i pc : Nat) (ls : sm_L) (st : List Value) (h : sm_H) : Option sm_R := match sm_lget ls i with
  | some v => if k v then sm_nx (pc + n) ls (v :: st) h else none
  | none => none
def sm_store1 (k : Value → Bool) (n i pc : Nat) (ls : sm_L) (st : List Value) (h : sm_H) : Option sm_R := match st with
  | v :: r => if k v then (sm_put1 ls i v).bind (fun ls' => sm_nx (pc + n) ls' r h) else none
  | _ => none
def sm_store2 (n i pc : Nat) (ls : sm_L) (st : List Value) (h : sm_H) : Option sm_R := match st with
  | .long v :: r => (sm_put2 ls i (.long v)).bind (fun ls' => sm_nx (pc + n) ls' r h)
  | _ => none
/-- the array classes' numbers -/
def sm_ty (t : Nat) : Option FieldType := match t with
  | 0 => some .int
  | 1 => some .long
  | 2 => some .char
  | 3 => some .boolean
  | 4 => some .byte
  | _ => none
/-- an element of an array of class number t, of ints -/
def sm_ald (t pc : Nat) (ls : sm_L) (st : List Value) (h : sm_H) : Option sm_R := match st with
  | .int i :: .ref a :: r => match h[a]? with
    | some (.inl (t', n, .inl f)) => if t' = t ∧ sm_ix i n then sm_nx (pc + 1) ls (.int (f i.toNatClampNeg) :: r) h else none
    | _ => none
  | _ => none
def sm_ast (t : Nat) (g : Int32 → Int32) (pc : Nat) (ls : sm_L) (st : List Value) (h : sm_H) : Option sm_R := match st with
  | .int x :: .int i :: .ref a :: r => match h[a]? with
    | some (.inl (t', n, .inl f)) => if t' = t ∧ sm_ix i n ∧ sm_C ≤ a then sm_nx (pc + 1) ls r (h.set a (.inl (t', n, .inl (upd f i.toNatClampNeg (g x))))) else none
    | _ => none
  | _ => none
def sm_aldL (pc : Nat) (ls : sm_L) (st : List Value) (h : sm_H) : Option sm_R := match st with
  | .int i :: .ref a :: r => match h[a]? with
    | some (.inl (t', n, .inr (.inl f))) => if t' = 1 ∧ sm_ix i n then sm_nx (pc + 1) ls (.long (f i.toNatClampNeg) :: r) h else none
    | _ => none
  | _ => none
def sm_astL (pc : Nat) (ls : sm_L) (st : List Value) (h : sm_H) : Option sm_R := match st with
  | .long x :: .int i :: .ref a :: r => match h[a]? with
    | some (.inl (t', n, .inr (.inl f))) => if t' = 1 ∧ sm_ix i n ∧ sm_C ≤ a then sm_nx (pc + 1) ls r (h.set a (.inl (t', n, .inr (.inl (vp_updL f i.toNatClampNeg x))))) else none
    | _ => none
  | _ => none
/-- a char of an int -/
def sm_chr (x : Int32) : Int32 := (x.toUInt32 % 65536).toInt32
/-- getfield: rs = [field, 0, classes that the object may have ..], or [field, 1, class] of an object that was there before -/
def sm_getf (rs : List Nat) (pc : Nat) (ls : sm_L) (st : List Value) (h : sm_H) : Option sm_R := match st, rs with
  | .ref a :: r, k :: z :: cs => match h[a]? with
    | some (.inr (ci, fs)) => if ci ∈ cs ∧ (z = 0 ∨ a < sm_C) then (match fs[k]? with
      | some v => sm_nx (pc + 3) ls (v :: r) h
      | none => none) else none
    | _ => none
  | _, _ => none
/-- putfield: rs = [field, its kind, final, classes ..] -/
def sm_putf (rs : List Nat) (pc : Nat) (ls : sm_L) (st : List Value) (h : sm_H) : Option sm_R := match st, rs with
  | v :: .ref a :: r, k :: t :: _ :: cs => match h[a]? with
    | some (.inr (ci, fs)) => if ci ∈ cs ∧ k < fs.length ∧ sm_fit t v ∧ sm_C ≤ a then sm_nx (pc + 3) ls r (h.set a (.inr (ci, fs.set k v))) else none
    | _ => none
  | _, _ => none
/-- new: rs = [class, kinds of its fields ..]; [1000, class] begins 'throw new ..' -/
def sm_newo (rs : List Nat) (pc : Nat) (ls : sm_L) (st : List Value) (h : sm_H) : Option sm_R := match rs with
  | ci :: ts => if ci = 1000 then none else sm_nx (pc + 3) ls (.ref h.length :: st) (h ++ [.inr (ci, ts.map sm_dflt)])
  | _ => none
/-- newarray: rs = [class number of the array] -/
def sm_newa (rs : List Nat) (pc : Nat) (ls : sm_L) (st : List Value) (h : sm_H) : Option sm_R := match st, rs with
  | .int n :: r, [t] => if ¬ n < 0 ∧ n.toNatClampNeg ≤ 65536 then
      sm_nx (pc + 2) ls (.ref h.length :: r) (h ++ [.inl (t, n.toNatClampNeg, if t = 1 then .inr (.inl (fun _ => 0)) else .inl (fun _ => 0))]) else none
  | _, _ => none
/-- a call of a method that is known: rs = [kind, method, number of arguments (with the object)]; of Math.max and Math.min (which the JVM's model knows itself) rs = [7, 0], [7, 1] -/
def sm_callS (rs : List Nat) (st : List Value) : Option sm_R := match rs with
  | [_, m, n] => match sm_args n st with
    | some (as, r) => sm_call m as r
    | none => none
  | _ => none
/-- .. of a constructor -/
def sm_callI (rs : List Nat) (st : List Value) : Option sm_R := match rs with
  | [_, m, n] => match sm_args n st with
    | some (.ref a :: as, r) => sm_call m (.ref a :: as) r
    | _ => none
  | _ => none
/-- a call by the object's class: rs = [kind, number of arguments (without the object), class, method, class, method ..] -/
def sm_callV (rs : List Nat) (st : List Value) (h : sm_H) : Option sm_R := match rs with
  | _ :: n :: ps => match sm_args (n + 1) st with
    | some (.ref a :: as, r) => match h[a]? with
      | some (.inr (ci, _)) => match sm_pick ci ps with
        | some m => sm_call m (.ref a :: as) r
        | none => none
      | _ => none
    | _ => none
  | _ => none
def sm_if (b : Bool) (pc : Nat) (off : Int) (ls : sm_L) (r : List Value) (h : sm_H) : Option sm_R := sm_nx (if b then sm_jmp pc off else pc + 3) ls r h
/-- one instruction -/
def sm_step (q : sm_I) (pc : Nat) (ls : sm_L) (st : List Value) (h : sm_H) : Option sm_R := match q with
  | (i, len, rs) => match i with
    | .iconst n => sm_nx (pc + 1) ls (.int (Int32.ofInt n) :: st) h
    | .bipush n => sm_nx (pc + 2) ls (.int (Int8.ofInt n).toInt32 :: st) h
    | .sipush n => sm_nx (pc + 3) ls (.int (Int16.ofInt n).toInt32 :: st) h
    | .lconst n => sm_nx (pc + 1) ls (.long (Int64.ofNat (n : Nat)) :: st) h
    | .aconst_null => sm_nx (pc + 1) ls (.null :: st) h
    | .ldc _ => match rs with
      | [0, n] => sm_nx (pc + 2) ls (.int (Int32.ofNat n) :: st) h
      | [1, n] => sm_nx (pc + 2) ls (.ref n :: st) h
      | _ => none
    | .ldc_w _ => match rs with
      | [0, n] => sm_nx (pc + 3) ls (.int (Int32.ofNat n) :: st) h
      | _ => none
    | .ldc2_w _ => match rs with
      | [n] => sm_nx (pc + 3) ls (.long (Int64.ofNat n) :: st) h
      | _ => none
    | .iload_n k => sm_loadK sm_isI 1 k pc ls st h
    | .iload k => sm_loadK sm_isI 2 k pc ls st h
    | .lload_n k => sm_loadK sm_isL 1 k pc ls st h
    | .lload k => sm_loadK sm_isL 2 k pc ls st h
    | .aload_n k => sm_loadK sm_isA 1 k pc ls st h
    | .aload k => sm_loadK sm_isA 2 k pc ls st h
    | .istore_n k => sm_store1 sm_isI 1 k pc ls st h
    | .istore k => sm_store1 sm_isI 2 k pc ls st h
    | .astore_n k => sm_store1 sm_isA 1 k pc ls st h
    | .astore k => sm_store1 sm_isA 2 k pc ls st h
    | .lstore_n k => sm_store2 1 k pc ls st h
    | .lstore k => sm_store2 2 k pc ls st h
    | .iinc k n => match sm_lget ls k with
      | some (.int x) => (sm_put1 ls k (.int (x + Int32.ofInt n))).bind (fun ls' => sm_nx (pc + 3) ls' st h)
      | _ => none
    | .iadd => sm_bin (· + ·) pc ls st h
    | .isub => sm_bin (· - ·) pc ls st h
    | .imul => sm_bin (· * ·) pc ls st h
    | .iand => sm_bin (· &&& ·) pc ls st h
    | .ior => sm_bin (· ||| ·) pc ls st h
    | .ixor => sm_bin (· ^^^ ·) pc ls st h
    | .ishl => sm_bin (fun x y => x <<< (y &&& 31)) pc ls st h
    | .ishr => sm_bin (fun x y => x >>> (y &&& 31)) pc ls st h
    | .iushr => sm_bin (fun x y => (x.toUInt32 >>> (y.toUInt32 &&& Int32.toUInt32 31)).toInt32) pc ls st h
    | .idiv => match st with
      | .int y :: .int x :: r => if y = 0 then none else sm_nx (pc + 1) ls (.int (x / y) :: r) h
      | _ => none
    | .irem => match st with
      | .int y :: .int x :: r => if y = 0 then none else sm_nx (pc + 1) ls (.int (x - x / y * y) :: r) h
      | _ => none
    | .ineg => match st with
      | .int x :: r => sm_nx (pc + 1) ls (.int (-x) :: r) h
      | _ => none
    | .ladd => sm_binL (· + ·) pc ls st h
    | .lsub => sm_binL (· - ·) pc ls st h
    | .lmul => sm_binL (· * ·) pc ls st h
    | .land => sm_binL (· &&& ·) pc ls st h
    | .lor => sm_binL (· ||| ·) pc ls st h
    | .lxor => sm_binL (· ^^^ ·) pc ls st h
    | .lrem => match st with
      | .long y :: .long x :: r => if y = 0 then none else sm_nx (pc + 1) ls (.long (x - x / y * y) :: r) h
      | _ => none
    | .ldiv => match st with
      | .long y :: .long x :: r => if y = 0 then none else sm_nx (pc + 1) ls (.long (x / y) :: r) h
      | _ => none
    | .lushr => match st with
      | .int y :: .long x :: r => sm_nx (pc + 1) ls (.long (x.toUInt64 >>> (y.toInt64.toUInt64 &&& Int64.toUInt64 63)).toInt64 :: r) h
      | _ => none
    | .lshl => match st with
      | .int y :: .long x :: r => sm_nx (pc + 1) ls (.long (x <<< (y.toInt64 &&& 63)) :: r) h
      | _ => none
    | .lshr => match st with
      | .int y :: .long x :: r => sm_nx (pc + 1) ls (.long (x >>> (y.toInt64 &&& 63)) :: r) h
      | _ => none
    | .lcmp => match st with
      | .long y :: .long x :: r => sm_nx (pc + 1) ls (.int (lg_cmp x y) :: r) h
      | _ => none
    | .i2l => match st with
      | .int x :: r => sm_nx (pc + 1) ls (.long x.toInt64 :: r) h
      | _ => none
    | .l2i => match st with
      | .long x :: r => sm_nx (pc + 1) ls (.int x.toInt32 :: r) h
      | _ => none
    | .i2c => match st with
      | .int x :: r => sm_nx (pc + 1) ls (.int (sm_chr x) :: r) h
      | _ => none
    | .i2b => match st with
      | .int x :: r => sm_nx (pc + 1) ls (.int x.toInt8.toInt32 :: r) h
      | _ => none
    | .dup => match st with
      | v :: r => if v.category = 1 then sm_nx (pc + 1) ls (v :: v :: r) h else none
      | _ => none
    | .pop => match st with
      | v :: r => if v.category = 1 then sm_nx (pc + 1) ls r h else none
      | _ => none
    | .dup_x1 => match st with
      | v :: w :: r => if v.category = 1 ∧ w.category = 1 then sm_nx (pc + 1) ls (v :: w :: v :: r) h else none
      | _ => none
    | .dup_x2 => match st with
      | v :: w :: u :: r => if v.category = 1 ∧ w.category = 1 ∧ u.category = 1 then sm_nx (pc + 1) ls (v :: w :: u :: v :: r) h else none
      | _ => none
    | .dup2 => match st with
      | .long x :: r => sm_nx (pc + 1) ls (.long x :: .long x :: r) h
      | v :: w :: r => if v.category = 1 ∧ w.category = 1 then sm_nx (pc + 1) ls (v :: w :: v :: w :: r) h else none
      | _ => none
    | .pop2 => match st with
      | .long _ :: r => sm_nx (pc + 1) ls r h
      | v :: w :: r => if v.category = 1 ∧ w.category = 1 then sm_nx (pc + 1) ls r h else none
      | _ => none
    | .if_icmp c off => match st with
      | .int y :: .int x :: r => sm_if (sm_cmp c x y) pc off ls r h
      | _ => none
    | .ifCond c off => match st with
      | .int x :: r => sm_if (sm_cmp c x 0) pc off ls r h
      | _ => none
    | .goto off => sm_nx (sm_jmp pc off) ls st h
    | .tableswitch d lo hi offs => match st with
      | .int x :: r => if x.toInt < lo ∨ hi < x.toInt then sm_nx (sm_jmp pc d) ls r h else (match offs[(x.toInt - lo).toNat]? with
        | some off => sm_nx (sm_jmp pc off) ls r h
        | none => none)
      | _ => none
    | .arraylength => match st with
      | .ref a :: r => match h[a]? with
        | some (.inl (t, n, _)) => if (sm_ty t).isSome then sm_nx (pc + 1) ls (.int (Int32.ofNat n) :: r) h else none
        | _ => none
      | _ => none
    | .iaload => sm_ald 0 pc ls st h
    | .caload => sm_ald 2 pc ls st h
    | .baload => match sm_ald 3 pc ls st h with
      | some r => some r
      | none => sm_ald 4 pc ls st h
    | .iastore => sm_ast 0 (fun x => x) pc ls st h
    | .bastore => sm_ast 3 (fun x => x &&& 1) pc ls st h
    | .castore => sm_ast 2 sm_chr pc ls st h
    | .laload => sm_aldL pc ls st h
    | .lastore => sm_astL pc ls st h
    | .getstatic _ => match rs with
      | [n] => sm_nx (pc + 3) ls (.int (Int32.ofNat n) :: st) h
      | _ => none
    | .getfield _ => sm_getf rs pc ls st h
    | .putfield _ => sm_putf rs pc ls st h
    | .new _ => sm_newo rs pc ls st h
    | .newarray _ => sm_newa rs pc ls st h
    | .invokestatic _ => match rs with
      | [_, k] => match st with
        | .int y :: .int x :: r => if (r.map fun v => v.category).sum ≤ 8 then sm_nx (pc + 3) ls (.int (if k = 0 then (if x < y then y else x) else (if y < x then y else x)) :: r) h else none
        | _ => none
      | _ => sm_callS rs st
    | .invokespecial _ => match rs with
      | [_] => match st with
        | .ref _ :: r => if (r.map fun v => v.category).sum ≤ 8 then sm_nx (pc + 3) ls r h else none
        | _ => none
      | _ => sm_callI rs st
    | .invokevirtual _ => sm_callV rs st h
    | .ireturn => match st with
      | [.int v] => sm_ret (some (.int v))
      | _ => none
    | .lreturn => match st with
      | [.long v] => sm_ret (some (.long v))
      | _ => none
    | .areturn => match st with
      | [.ref v] => sm_ret (some (.ref v))
      | _ => none
    | .return_ => match st with
      | [] => sm_ret none
      | _ => none
    | _ => none
/-- a method: how many locals, the kind of its answer (0 none, 1 int, 2 long, 3 reference, 4 boolean, 5 char, 6 byte), its instructions by their places -/
abbrev sm_M : Type := Nat × Nat × List (Option sm_I)
/-- the locals at the start -/
def sm_slots : List Value → sm_L
  | [] => []
  | v :: vs => if v.category = 2 then some v :: none :: sm_slots vs else some v :: sm_slots vs
def sm_entry (n : Nat) (as : List Value) : sm_L := sm_slots as ++ List.replicate (n - (sm_slots as).length) none
/-- an answer of a kind -/
def sm_okret (k : Nat) (v : Option Value) : Bool := match k, v with
  | 0, none => true
  | 1, some (.int _) => true
  | 2, some (.long _) => true
  | 3, some (.ref _) => true
  | 4, some (.int x) => decide (x = 0 ∨ x = 1)
  | 5, some (.int x) => decide (0 ≤ x ∧ x ≤ 65535)
  | 6, some (.int x) => decide (x = 0 ∨ x = 1)
  | _, _ => false
/-- what is pushed of an answer -/
def sm_back (v : Option Value) (r : List Value) : List Value := match v with
  | some x => x :: r
  | none => r
/-- a run: n the steps, d the depth of calls that is left -/
def sm_run (P : Nat → Option sm_M) : Nat → Nat → Nat → Nat → sm_L → List Value → sm_H → Option (Option Value × sm_H)
  | 0, _, _, _, _, _, _ => none
  | n + 1, d, m, pc, ls, st, h => match P m with
    | none => none
    | some (_, k, tab) => match tab[pc]? with
      | some (some q) => match sm_step q pc ls st h with
        | some (.inl (pc', ls', st', h')) => sm_run P n d m pc' ls' st' h'
        | some (.inr (.inl v)) => if sm_okret k v then some (v, h) else none
        | some (.inr (.inr (m', as, r))) => match d, P m' with
          | d' + 1, some (nl, _, _) => if (sm_slots as).length ≤ nl ∧ (r.map fun v => v.category).sum ≤ 8 then (match sm_run P n d' m' 0 (sm_entry nl as) [] h with
            | some (v, h') => sm_run P n d m (pc + 3) ls (sm_back v r) h'
            | none => none) else none
          | _, _ => none
        | none => none
      | _ => none
end
section
/-! PICTURES AND HEAPS: what the small machine's state says of the JVM's. N0: the heap's size when the law began; cs: where the text constants lie. -/
def sm_mv (ad : Nat → Nat) (v : Value) : Value := match v with
  | .ref k => .ref (ad k)
  | .int x => .int x
  | .long x => .long x
  | .float x => .float x
  | .double x => .double x
  | .null => .null
  | .retAddr x => .retAddr x
def sm_ad (N0 : Nat) (cs : Nat → Nat) (k : Nat) : Nat := if k < sm_C then cs k else N0 + (k - sm_C)
def sm_me (ad : Nat → Nat) (tys : List (ClassId × FieldType)) (e : sm_E) : va_E := match e with
  | .inl (t, a) => .inl ((tys.getD t (0, .int)).1, a)
  | .inr (ci, fs) => .inr (ci, fs.map (sm_mv ad))
/-- the heap holds the picture; K: the cells that were there before -/
def sm_P (D : va_G) (cl : List vw_C) (tys : List (ClassId × FieldType)) (N0 : Nat) (cs : Nat → Nat) (K : sm_H) (h : sm_H) (H : Heap) : Prop :=
  H.size + sm_C = N0 + h.length ∧ sm_C ≤ h.length ∧ (∀ k, k < sm_C → cs k < N0 ∧ h[k]? = K[k]?) ∧ ∀ (k : Nat) (e : sm_E), h[k]? = some e → va_at D cl (sm_ad N0 cs k, sm_me (sm_ad N0 cs) tys e) H
/-- the locals hold the picture -/
def sm_LR (ad : Nat → Nat) (ls : sm_L) (LS : Array Slot) : Prop := LS.size = ls.length ∧ lv_wf LS ∧ ∀ (i : Nat) (v : Value), ls[i]? = some (some v) → LS[i]? = some (.val (sm_mv ad v))
theorem sm_cat (ad : Nat → Nat) (v : Value) : (sm_mv ad v).category = v.category := by cases v <;> rfl
theorem sm_ad_ge {N0 : Nat} {cs : Nat → Nat} {k : Nat} (h : sm_C ≤ k) : sm_ad N0 cs k = N0 + (k - sm_C) := if_neg (by omega)
theorem sm_ad_lt {N0 : Nat} {cs : Nat → Nat} {k : Nat} (h : k < sm_C) : sm_ad N0 cs k = cs k := if_pos h
def sm_al (ad : Nat → Nat) (ls : sm_L) : List (Nat × Value) := ls.zipIdx.filterMap (fun q => q.1.map (fun v => (q.2, sm_mv ad v)))
theorem sm_al_mem {ad : Nat → Nat} {ls : sm_L} {q : Nat × Value} : q ∈ sm_al ad ls ↔ ∃ v, ls[q.1]? = some (some v) ∧ q.2 = sm_mv ad v := by
  unfold sm_al
  rw [List.mem_filterMap]
  constructor
  · rintro ⟨⟨o, i⟩, h1, h2⟩
    have h3 := List.mem_zipIdx_iff_getElem?.mp h1
    cases o with
    | none => simp at h2
    | some v =>
      simp at h2
      obtain ⟨rfl⟩ := h2
      exact ⟨v, h3, rfl⟩
  · rintro ⟨v, h1, h2⟩
    refine ⟨(some v, q.1), List.mem_zipIdx_iff_getElem?.mpr h1, ?_⟩
    simp [← h2]
theorem sm_LR.has {ad : Nat → Nat} {ls : sm_L} {LS : Array Slot} (h : sm_LR ad ls LS) : lv_has LS ls.length (sm_al ad ls) :=
  ⟨h.1, h.2.1, fun q hq => by
    obtain ⟨v, h1, h2⟩ := sm_al_mem.mp hq
    rw [h2]
    exact h.2.2 _ _ h1⟩
theorem sm_lget_at {ad : Nat → Nat} {ls : sm_L} {LS : Array Slot} (h : sm_LR ad ls LS) {i : Nat} {v : Value} (hg : sm_lget ls i = some v) : LS[i]? = some (.val (sm_mv ad v)) := by
  unfold sm_lget at hg
  split at hg
  · next w hw => cases hg; exact h.2.2 _ _ hw
  · cases hg
theorem sm_kill_len (ls : sm_L) (i : Nat) : (sm_kill ls i).length = ls.length := by
  unfold sm_kill
  cases i with
  | zero => rfl
  | succ j =>
    dsimp only
    split
    · split <;> simp
    · rfl
theorem sm_kill_at {ls : sm_L} {i j : Nat} {w : Value} (h : (sm_kill ls i)[j]? = some (some w)) : ls[j]? = some (some w) ∧ ¬ (j + 1 = i ∧ w.category = 2) := by
  unfold sm_kill at h
  cases i with
  | zero => exact ⟨h, fun z => by omega⟩
  | succ k =>
    dsimp only at h
    split at h
    · next v hv =>
      split at h
      · next hc =>
        by_cases hjk : k = j
        · subst hjk
          have hl := (List.getElem?_eq_some_iff.mp hv).1
          rw [List.getElem?_set_self hl] at h
          cases h
        · rw [List.getElem?_set_ne hjk] at h
          exact ⟨h, fun z => by omega⟩
      · next hc =>
        refine ⟨h, fun z => ?_⟩
        have e : j = k := by omega
        subst e
        rw [hv] at h
        cases h
        exact hc z.2
    · next hno =>
      refine ⟨h, fun z => ?_⟩
      have e : j = k := by omega
      subst e
      exact hno _ h
theorem sm_put1_len {ls ls' : sm_L} {i : Nat} {v : Value} (h : sm_put1 ls i v = some ls') : i < ls.length ∧ ls' = (sm_kill ls i).set i (some v) := by
  unfold sm_put1 at h
  split at h
  · next hl => cases h; exact ⟨hl, rfl⟩
  · cases h
theorem sm_put2_len {ls ls' : sm_L} {i : Nat} {v : Value} (h : sm_put2 ls i v = some ls') : i + 1 < ls.length ∧ ls' = ((sm_kill ls i).set i (some v)).set (i + 1) none := by
  unfold sm_put2 at h
  split at h
  · next hl => cases h; exact ⟨hl, rfl⟩
  · cases h
theorem sm_LR.put1 {ad : Nat → Nat} {ls ls' : sm_L} {LS LS' : Array Slot} {i : Nat} {v : Value} (hp : sm_put1 ls i v = some ls')
    (h : lv_has LS' ls.length ((i, sm_mv ad v) :: (sm_al ad ls).filter (fun q => !(q.1 == i) && !(q.1 + 1 == i && q.2.category == 2)))) : sm_LR ad ls' LS' := by
  obtain ⟨hl, rfl⟩ := sm_put1_len hp
  refine ⟨by rw [h.1, List.length_set, sm_kill_len], h.2.1, fun j w hj => ?_⟩
  by_cases hji : i = j
  · subst hji
    rw [List.getElem?_set_self (by rw [sm_kill_len]; exact hl)] at hj
    cases hj
    exact h.2.2 _ List.mem_cons_self
  · rw [List.getElem?_set_ne hji] at hj
    obtain ⟨h1, h2⟩ := sm_kill_at hj
    refine h.2.2 (j, sm_mv ad w) (List.mem_cons_of_mem _ (List.mem_filter.mpr ⟨sm_al_mem.mpr ⟨w, h1, rfl⟩, ?_⟩))
    simp only [sm_cat]
    by_cases hc : w.category = 2
    · have : ¬ j + 1 = i := fun z => h2 ⟨z, hc⟩
      simp [hc, this, Ne.symm hji]
    · simp [hc, Ne.symm hji]
theorem sm_LR.put2 {ad : Nat → Nat} {ls ls' : sm_L} {LS LS' : Array Slot} {i : Nat} {v : Value} (hp : sm_put2 ls i v = some ls')
    (h : lv_has LS' ls.length ((i, sm_mv ad v) :: (sm_al ad ls).filter (fun q => !(q.1 == i) && (!(q.1 == i + 1) && !(q.1 + 1 == i && q.2.category == 2))))) : sm_LR ad ls' LS' := by
  obtain ⟨hl, rfl⟩ := sm_put2_len hp
  refine ⟨by rw [h.1, List.length_set, List.length_set, sm_kill_len], h.2.1, fun j w hj => ?_⟩
  by_cases hj1 : i + 1 = j
  · subst hj1
    rw [List.getElem?_set_self (by rw [List.length_set, sm_kill_len]; exact hl)] at hj
    cases hj
  · rw [List.getElem?_set_ne hj1] at hj
    by_cases hji : i = j
    · subst hji
      rw [List.getElem?_set_self (by rw [sm_kill_len]; omega)] at hj
      cases hj
      exact h.2.2 _ List.mem_cons_self
    · rw [List.getElem?_set_ne hji] at hj
      obtain ⟨h1, h2⟩ := sm_kill_at hj
      refine h.2.2 (j, sm_mv ad w) (List.mem_cons_of_mem _ (List.mem_filter.mpr ⟨sm_al_mem.mpr ⟨w, h1, rfl⟩, ?_⟩))
      simp only [sm_cat]
      by_cases hc : w.category = 2
      · have : ¬ j + 1 = i := fun z => h2 ⟨z, hc⟩
        simp [hc, this, Ne.symm hji, Ne.symm hj1]
      · simp [hc, Ne.symm hji, Ne.symm hj1]
theorem sm_entry_LR {ad : Nat → Nat} {as : List Value} {n : Nat} (h : (sm_slots as).length ≤ n) : sm_LR ad (sm_entry n as) ((lg_sl (as.map (sm_mv ad)) ++ List.replicate (n - (lg_sl (as.map (sm_mv ad))).length) Slot.unset).toArray) := by
  have key : ∀ vs : List Value, (lg_sl (vs.map (sm_mv ad))).length = (sm_slots vs).length ∧ ∀ (i : Nat) (v : Value), (sm_slots vs)[i]? = some (some v) → (lg_sl (vs.map (sm_mv ad)))[i]? = some (.val (sm_mv ad v)) := by
    intro vs
    induction vs with
    | nil => exact ⟨rfl, fun i v h => by simp [sm_slots] at h⟩
    | cons w vs ih =>
      obtain ⟨h1, h2⟩ := ih
      by_cases hc : w.category = 2
      · have e1 : lg_sl ((w :: vs).map (sm_mv ad)) = .val (sm_mv ad w) :: .second :: lg_sl (vs.map (sm_mv ad)) := by simp [lg_sl, sm_cat, hc]
        have e2 : sm_slots (w :: vs) = some w :: none :: sm_slots vs := by simp [sm_slots, hc]
        rw [e1, e2]
        refine ⟨by simp [h1], fun i v hi => ?_⟩
        match i, hi with
        | 0, hi => simp at hi; subst hi; rfl
        | 1, hi => simp at hi
        | i + 2, hi => exact h2 i v hi
      · have e1 : lg_sl ((w :: vs).map (sm_mv ad)) = .val (sm_mv ad w) :: lg_sl (vs.map (sm_mv ad)) := by simp [lg_sl, sm_cat, hc]
        have e2 : sm_slots (w :: vs) = some w :: sm_slots vs := by simp [sm_slots, hc]
        rw [e1, e2]
        refine ⟨by simp [h1], fun i v hi => ?_⟩
        match i, hi with
        | 0, hi => simp at hi; subst hi; rfl
        | i + 1, hi => exact h2 i v hi
  obtain ⟨h1, h2⟩ := key as
  have hen := lv_entry (as.map (sm_mv ad)) (n := n) (by rw [h1]; exact h)
  refine ⟨by rw [hen.1]; simp [sm_entry]; omega, hen.2.1, fun i v hi => ?_⟩
  unfold sm_entry at hi
  by_cases hl : i < (sm_slots as).length
  · rw [List.getElem?_append_left hl] at hi
    rw [List.getElem?_toArray, List.getElem?_append_left (by rw [h1]; exact hl)]
    exact h2 i v hi
  · rw [List.getElem?_append_right (by omega)] at hi
    have := List.eq_of_mem_replicate (List.mem_of_getElem? hi)
    cases this
end
section
/-! ROWS: what an instruction that writes or makes cells does to a picture -/
/-- the array classes, by their numbers -/
def sm_T (tys : List (ClassId × FieldType)) : Prop := ∀ (t : Nat) (ty : FieldType), sm_ty t = some ty → ∃ cA, tys[t]? = some (cA, ty)
/-- how many slots a cell has -/
def sm_sz (e : sm_E) : Nat := match e with
  | .inl (_, n, _) => n
  | .inr (_, fs) => fs.length
def sm_sl (h : sm_H) : Nat := (h.map sm_sz).sum
theorem sm_sl_app (h : sm_H) (e : sm_E) : sm_sl (h ++ [e]) = sm_sl h + sm_sz e := by simp [sm_sl]
theorem sm_sl_set {e e' : sm_E} (he : sm_sz e' = sm_sz e) : ∀ (h : sm_H) (k : Nat), h[k]? = some e → sm_sl (h.set k e') = sm_sl h := by
  intro h
  induction h with
  | nil => intro k hk; simp at hk
  | cons x h ih =>
    intro k hk
    cases k with
    | zero =>
      simp at hk
      subst hk
      simp [sm_sl, he]
    | succ k =>
      have := ih k (by simpa using hk)
      simp [sm_sl] at this ⊢
      exact this
section SMR
variable {p : Program} {l : Launch} {e : Env} {R : Room} {s : State} {m : MethodId} {args : Array Value} {below : List Frame} {meth : Method} {c : Code} {H : Heap} {locs : List Loc} {cells slots : Nat} {Q : State → Prop}
variable {cc : ByteArray} {pc : Nat} {ls : Array Slot} {rest : List Value} {D : va_G} {cl : List vw_C} {tys : List (ClassId × FieldType)} {N0 : Nat} {cs : Nat → Nat} {K h : sm_H}
/-- one cell is set to another picture -/
theorem sm_P.put {k : Nat} {e0 e1 : sm_E} {H1 : Heap} (hP : sm_P D cl tys N0 cs K h H) (hk : h[k]? = some e0) (hC : sm_C ≤ k) (ha : va_at D cl (sm_ad N0 cs k, sm_me (sm_ad N0 cs) tys e1) H1) (hz : H1.size = H.size) (ho : ∀ q, q ≠ sm_ad N0 cs k → H1[q]? = H[q]?) : sm_P D cl tys N0 cs K (h.set k e1) H1 := by
  refine ⟨by rw [hz, List.length_set]; exact hP.1, by rw [List.length_set]; exact hP.2.1, fun j hj => ⟨(hP.2.2.1 j hj).1, by rw [List.getElem?_set_ne (by omega)]; exact (hP.2.2.1 j hj).2⟩, fun j e hj => ?_⟩
  by_cases hjk : k = j
  · subst hjk
    rw [List.getElem?_set_self (List.getElem?_eq_some_iff.mp hk).1] at hj
    cases hj
    exact ha
  · rw [List.getElem?_set_ne hjk] at hj
    refine (hP.2.2.2 j e hj).kept (ho (sm_ad N0 cs j) ?_)
    rw [sm_ad_ge hC]
    by_cases hjC : j < sm_C
    · rw [sm_ad_lt hjC]
      have := (hP.2.2.1 j hjC).1
      omega
    · rw [sm_ad_ge (by omega)]
      omega
/-- one cell is made -/
theorem sm_P.make {e1 : sm_E} {H1 : Heap} (hP : sm_P D cl tys N0 cs K h H) (ha : va_at D cl (H.size, sm_me (sm_ad N0 cs) tys e1) H1) (hz : H1.size = H.size + 1) (ho : ∀ q, q < H.size → H1[q]? = H[q]?) : sm_P D cl tys N0 cs K (h ++ [e1]) H1 := by
  have hs := hP.1
  have hl := hP.2.1
  refine ⟨by rw [hz, List.length_append, List.length_singleton]; omega, by rw [List.length_append, List.length_singleton]; omega, fun j hj => ⟨(hP.2.2.1 j hj).1, by rw [List.getElem?_append_left (by omega)]; exact (hP.2.2.1 j hj).2⟩, fun j e hj => ?_⟩
  by_cases hjl : j < h.length
  · rw [List.getElem?_append_left hjl] at hj
    exact (hP.2.2.2 j e hj).kept (ho _ (hP.2.2.2 j e hj).lt)
  · rw [List.getElem?_append_right (by omega)] at hj
    have hz2 : j - h.length < 1 := (List.getElem?_eq_some_iff.mp hj).1
    have hj0 : j = h.length := by omega
    subst hj0
    simp at hj
    subst hj
    rw [sm_ad_ge hl, show N0 + (h.length - sm_C) = H.size by omega]
    exact ha
theorem sm_top (hP : sm_P D cl tys N0 cs K h H) : H.size = sm_ad N0 cs h.length := by
  have hs := hP.1
  have hl := hP.2.1
  rw [sm_ad_ge hl]
  omega
theorem sm_fit_ok {t : Nat} {v : Value} {ad : Nat → Nat} {ty : FieldType} (hf : sm_fit t v = true)
    (ht : (t = 0 ∧ ty = .int) ∨ (t = 1 ∧ ty = .long) ∨ (t = 2 ∧ ((∃ n, ty = .object n) ∨ ∃ n, ty = .array n)) ∨ (t = 3 ∧ ty = .boolean) ∨ (t = 4 ∧ ty = .char)) : narrow ty (sm_mv ad v) = sm_mv ad v ∧ fits ty (sm_mv ad v) = true := by
  rcases ht with ⟨rfl, rfl⟩ | ⟨rfl, rfl⟩ | ⟨rfl, ⟨n, rfl⟩ | ⟨n, rfl⟩⟩ | ⟨rfl, rfl⟩ | ⟨rfl, rfl⟩
  · cases v <;> simp [sm_fit] at hf <;> exact ⟨rfl, rfl⟩
  · cases v <;> simp [sm_fit] at hf <;> exact ⟨rfl, rfl⟩
  · cases v <;> simp [sm_fit] at hf <;> exact ⟨rfl, rfl⟩
  · cases v <;> simp [sm_fit] at hf <;> exact ⟨rfl, rfl⟩
  · cases v with
    | int x =>
      simp [sm_fit] at hf
      rcases hf with rfl | rfl <;> exact ⟨rfl, rfl⟩
    | _ => simp [sm_fit] at hf
  · cases v with
    | int x =>
      simp [sm_fit] at hf
      obtain ⟨j, hj, rfl⟩ := nI_of2 (x := x) (M := 65535) (n := 65535) (by decide) (Int32.not_lt.mpr hf.1) hf.2
      exact pk_charN (by omega)
    | _ => simp [sm_fit] at hf
theorem sm_Wput (hexec : p.tables.exec = Jvm.exec) (hb : c.code = cc) {own ref C : String} {T : u_T} {N ci index : Nat} {Ts : List Cond} (hts : ∀ w ∈ Ts, w.before args s = true) (hin : ∀ w ∈ u_ws C T N, w ∈ Ts) (ty0 : Nat → FieldType) (hty : ∀ k, k < N → parseFieldDescriptor (T k).2.2.1 = some (ty0 k)) (hnm : ∀ a, a < N → ∀ b, b < N → a ≠ b → (T a).2.1 ≠ (T b).2.1) (hown : s.vm.findClass own = some m.cls) (hK : va_K D cl tys s) {a : Nat} {fs : List Value} (he : va_at D cl (a, .inr (ci, fs)) H) (hc : cl[ci]? = some (C, T, N)) (k : Nat) (hk : k < N) (hlink : (Cond.fieldLink own index ref (T k).2.1 (T k).2.2.1).before args s = true) (hsame : ∀ x, s.fieldFound? (T k).1 (T k).2.1 (T k).2.2.1 = some x → s.fieldFound? ref (T k).2.1 (T k).2.2.1 = some x) (hfin : (T k).2.2.2 = false ∨ ((T k).2.2.2 = true ∧ meth.name = "<init>" ∧ (T k).1 = own)) {v : Value} (hn : narrow (ty0 k) v = v) (hfit : fits (ty0 k) v = true) (hl : k < fs.length)
    (hdg : decode cc pc = .ok (.putfield index, 3)) (kk : ∀ (H1 : Heap) (j : Nat), va_at D cl (a, .inr (ci, fs.set k v)) H1 → H1.size = H.size → (∀ q, q ≠ a → H1[q]? = H[q]?) → W p l e R s m args below meth c H1 (locs ++ [⟨a, j⟩]) cells slots Q (F0 m (pc + 3) ls rest)) : W p l e R s m args below meth c H locs cells slots Q (F0 m pc ls (v :: .ref a :: rest)) := by
  have hap := va_apart (own := own) hts hin ty0 hty hnm hK hc
  have hd := hty k hk
  obtain ⟨r, h1, cell, q1, q2, q3, q4⟩ := he
  have hr : r = (C, T, N) := Option.some.inj (h1.symm.trans hc)
  subst hr
  obtain ⟨hS, hfc, kC, hkC, hkind⟩ := hK.1 ci _ hc
  obtain ⟨cf, kf, fi, f, hi, hsl⟩ := hS k hk
  have hlay := hts _ (hin _ (u_in_lay hk))
  have hst := (u_facts hfc hkC (u_lays hts hin hk) hi).1
  have last : ∀ H' : Heap, H'[a]? = some (cell.setSlot (D.2 ci k) v) → va_at D cl (a, .inr (ci, fs.set k v)) H' := fun H' e1 => ⟨_, hc, t_OB.to (V := updV (vp_V fs) k v) ⟨_, e1, q2, q3, t_set q4 hap hk v⟩ (fun j _ => vp_updV_set hl v j)⟩
  rcases hfin with hfin | ⟨hfin, hin2, hdecl⟩
  · unfold u_lay at hlay
    rw [if_neg (by rw [hfin]; decide)] at hlay
    have h6 := u_store hfc hkC hkind hlay hi hd hn hfit
    refine W.putK hexec hb (f := f) ⟨hown, hlink, ⟨_, _, _, hsame _ hi⟩, hst⟩ (by rw [q2]; exact h6) q1 q3 (by rw [hsl]; exact k2_hasslot (q4 k hk)) rfl rfl hdg fun H' e1 e2 e3 => ?_
    rw [hsl] at e1 ⊢
    exact kk H' _ (last H' e1) e2 e3
  · unfold u_lay at hlay
    rw [if_pos hfin] at hlay
    have hcf : m.cls = cf := by
      obtain ⟨_, _, c', _, _, _, -, -, hf', -, -, -, hown2, -⟩ := Cond.laysFinal_spec hlay
      have e1 : c' = cf := by have := hi.symm.trans hf'; simp at this; exact this.1.symm
      rw [hdecl] at hown2
      rw [← e1]; exact Option.some.inj (hown.symm.trans hown2)
    have h6 := u_fits hfc hkC hkind (Or.inr hlay) hi hd hn hfit
    refine W.putFinK hexec hb hown hlink (hsame _ hi) hst hcf hin2 (by rw [q2]; exact h6) q1 q3 (by rw [hsl]; exact k2_hasslot (q4 k hk)) rfl rfl hdg fun H' e1 e2 e3 => ?_
    rw [hsl] at e1 ⊢
    exact kk H' _ (last H' e1) e2 e3
theorem sm_in {x : Int32} {n : Nat} (h : sm_ix x n = true) : vp_in x n := by
  simp [sm_ix] at h
  intro z
  rcases z with z | z
  · exact absurd z (Int32.not_lt.mpr h.1)
  · omega
theorem sm_upd_i (cA : ClassId) (n k : Nat) (f : Nat → Int32) (x : Int32) : (vp_cell cA (n, .inl f)).setSlot k (.int x) = vp_cell cA (n, .inl (upd f k x)) := by
  rw [vp_cell_i, vp_cell_i, arrV_store]
  congr 1
  funext q
  by_cases hq : q = k
  · subst hq
    simp [updV, upd]
  · simp [updV, upd, hq]
theorem sm_upd_l (cA : ClassId) (n k : Nat) (f : Nat → Int64) (x : Int64) : (vp_cell cA (n, .inr (.inl f))).setSlot k (.long x) = vp_cell cA (n, .inr (.inl (vp_updL f k x))) := by
  rw [vp_cell_l, vp_cell_l, arrV_store]
  congr 1
  funext q
  by_cases hq : q = k
  · subst hq
    simp [updV, vp_updL]
  · simp [updV, vp_updL, hq]
theorem sm_tys {t : Nat} {ty : FieldType} (hT : sm_T tys) (ht : sm_ty t = some ty) : tys[t]? = some ((tys.getD t (0, .int)).1, ty) := by
  obtain ⟨cA, hc⟩ := hT t ty ht
  rw [hc, List.getD_eq_getElem?_getD, hc]
  rfl
theorem sm_nchr (x : Int32) : narrow .char (.int x) = .int (sm_chr x) := congrArg Value.int (lg_i2c_nf x).symm
end SMR
end
section
/-! ONE STEP of the small machine that goes on in its method is a step of the JVM -/
def sm_lenOk (i : Instr) (n : Nat) : Bool := match i with
  | .bipush _ | .ldc _ | .iload _ | .lload _ | .aload _ | .istore _ | .lstore _ | .astore _ | .newarray _ => n == 2
  | .sipush _ | .ldc_w _ | .ldc2_w _ | .iinc _ _ | .if_icmp _ _ | .ifCond _ _ | .goto _ | .getstatic _ | .getfield _ | .putfield _ | .new _ | .invokestatic _ | .invokespecial _ | .invokevirtual _ => n == 3
  | .tableswitch _ _ _ _ => true
  | _ => n == 1
def sm_tk (t : Nat) (ty : FieldType) : Prop := (t = 0 ∧ ty = .int) ∨ (t = 1 ∧ ty = .long) ∨ (t = 2 ∧ ((∃ n, ty = .object n) ∨ ∃ n, ty = .array n)) ∨ (t = 3 ∧ ty = .boolean) ∨ (t = 4 ∧ ty = .char)
/-- what the tables must hold of an instruction -/
def sm_okI (Ts : List Cond) (sx : List (String × Nat × String × Nat)) (zx : List (String × String × String × Nat)) (oc : (List (Nat × Nat × String × String × String × Value) × List (String × Nat × MethodName × String))) (K : sm_H) (cl : List vw_C) (own mn : String) (pc : Nat) (i : Instr) (rs : List Nat) : Prop := match i, rs with
  | .if_icmp _ off, _ => 0 ≤ (pc : Int) + off
  | .ifCond _ off, _ => 0 ≤ (pc : Int) + off
  | .goto off, _ => 0 ≤ (pc : Int) + off
  | .tableswitch d _ _ offs, _ => 0 ≤ (pc : Int) + d ∧ ∀ o ∈ offs.toList, 0 ≤ (pc : Int) + o
  | .getstatic idx, [n] => ∃ (C nm d ref : String), (C, nm, d, n) ∈ zx ∧ Cond.fieldLink own idx ref nm d ∈ Ts ∧ (ref = C ∨ Cond.sameField ref C nm d ∈ Ts)
  | .getfield idx, k :: 1 :: cs => ∀ ci ∈ cs, ∀ a fs v, a < sm_C → K[a]? = some (.inr (ci, fs)) → fs[k]? = some v → ∃ (o nm d ref : String), (a, k, o, nm, d, v) ∈ oc.1 ∧ Cond.fieldLink own idx ref nm d ∈ Ts ∧ (ref = o ∨ Cond.sameField ref o nm d ∈ Ts)
  | .getfield _, _ :: (_ + 2) :: _ => False
  | .getfield idx, k :: 0 :: cs => ∀ ci ∈ cs, ∃ (C : String) (T : u_T) (N : Nat) (ref : String), cl[ci]? = some (C, T, N) ∧ k < N ∧ (∀ w ∈ u_ws C T N, w ∈ Ts) ∧ Cond.fieldLink own idx ref (T k).2.1 (T k).2.2.1 ∈ Ts ∧ (ref = (T k).1 ∨ Cond.sameField ref (T k).1 (T k).2.1 (T k).2.2.1 ∈ Ts)
  | .putfield idx, k :: t :: _ :: cs => ∀ ci ∈ cs, ∃ (C : String) (T : u_T) (N : Nat) (ref : String) (ty0 : Nat → FieldType), cl[ci]? = some (C, T, N) ∧ k < N ∧ (∀ w ∈ u_ws C T N, w ∈ Ts) ∧ Cond.fieldLink own idx ref (T k).2.1 (T k).2.2.1 ∈ Ts ∧ (ref = (T k).1 ∨ Cond.sameField ref (T k).1 (T k).2.1 (T k).2.2.1 ∈ Ts) ∧ (∀ k, k < N → parseFieldDescriptor (T k).2.2.1 = some (ty0 k)) ∧ (∀ a, a < N → ∀ b, b < N → a ≠ b → (T a).2.1 ≠ (T b).2.1) ∧ ((T k).2.2.2 = false ∨ ((T k).2.2.2 = true ∧ mn = "<init>" ∧ (T k).1 = own)) ∧ sm_tk t (ty0 k)
  | .new _, 1000 :: _ => True
  | .new idx, ci :: ts => ∃ (C : String) (T : u_T) (N : Nat) (ty0 : Nat → FieldType), cl[ci]? = some (C, T, N) ∧ (∀ w ∈ u_ws C T N, w ∈ Ts) ∧ (∀ k, k < N → parseFieldDescriptor (T k).2.2.1 = some (ty0 k)) ∧ Cond.classLink own idx C ∈ Ts ∧ Cond.instantiable C N ∈ Ts ∧ Cond.initialized C ∈ Ts ∧ ts.length = N ∧ ∀ j, j < N → defaultValue (ty0 j) = sm_dflt (ts.getD j 0)
  | .newarray at', [t] => sm_ty t = some (newarray.typeOf at') ∧ Cond.arrayClass (newarray.typeOf at') ∈ Ts
  | .invokestatic idx, [_, k] => (k = 0 ∧ Cond.methodLink own idx Lib.Math.max.name ∈ Ts ∧ Cond.static Lib.Math.max.name ∈ Ts ∧ Cond.initialized "java/lang/Math" ∈ Ts ∧ Cond.code Lib.Math.max.name Lib.Math.max.code 2 (some .int) ∈ Ts) ∨ (k = 1 ∧ Cond.methodLink own idx Lib.Math.min.name ∈ Ts ∧ Cond.static Lib.Math.min.name ∈ Ts ∧ Cond.initialized "java/lang/Math" ∈ Ts ∧ Cond.code Lib.Math.min.name Lib.Math.min.code 2 (some .int) ∈ Ts)
  | .invokespecial idx, [_] => Cond.methodLink own idx objectInit ∈ Ts ∧ Cond.instanceMethod objectInit ∈ Ts ∧ Cond.code objectInit ⟨#[0xb1]⟩ 1 none ∈ Ts
  | .ldc idx, [0, n] => Cond.constant own idx (Int32.ofNat n) ∈ Ts
  | .ldc idx, [1, n] => ∃ tx, (own, idx, tx, n) ∈ sx
  | .ldc_w idx, [0, n] => Cond.constant own idx (Int32.ofNat n) ∈ Ts
  | .ldc2_w idx, [n] => Cond.constantLong own idx (Int64.ofNat n) ∈ Ts
  | _, _ => True

theorem sm_bin_inv {f : Int32 → Int32 → Int32} {pc pc' : Nat} {ls ls' : sm_L} {st st' : List Value} {h h' : sm_H} (hs : sm_bin f pc ls st h = some (.inl (pc', ls', st', h'))) : ∃ x y r, st = .int y :: .int x :: r ∧ pc' = pc + 1 ∧ ls' = ls ∧ st' = .int (f x y) :: r ∧ h' = h := by
  unfold sm_bin at hs
  split at hs
  · next y x r => simp [sm_nx] at hs; exact ⟨x, y, r, rfl, hs.1.symm, hs.2.1.symm, hs.2.2.1.symm, hs.2.2.2.symm⟩
  · cases hs
theorem sm_binL_inv {f : Int64 → Int64 → Int64} {pc pc' : Nat} {ls ls' : sm_L} {st st' : List Value} {h h' : sm_H} (hs : sm_binL f pc ls st h = some (.inl (pc', ls', st', h'))) : ∃ x y r, st = .long y :: .long x :: r ∧ pc' = pc + 1 ∧ ls' = ls ∧ st' = .long (f x y) :: r ∧ h' = h := by
  unfold sm_binL at hs
  split at hs
  · next y x r => simp [sm_nx] at hs; exact ⟨x, y, r, rfl, hs.1.symm, hs.2.1.symm, hs.2.2.1.symm, hs.2.2.2.symm⟩
  · cases hs
theorem sm_nx_inv {pc pc' : Nat} {ls ls' : sm_L} {st st' : List Value} {h h' : sm_H} (hs : sm_nx pc ls st h = some (.inl (pc', ls', st', h'))) : pc' = pc ∧ ls' = ls ∧ st' = st ∧ h' = h := by
  simp [sm_nx] at hs; exact ⟨hs.1.symm, hs.2.1.symm, hs.2.2.1.symm, hs.2.2.2.symm⟩
theorem sm_loadK_inv {k : Value → Bool} {n i pc pc' : Nat} {ls ls' : sm_L} {st st' : List Value} {h h' : sm_H} (hs : sm_loadK k n i pc ls st h = some (.inl (pc', ls', st', h'))) : ∃ v, sm_lget ls i = some v ∧ k v = true ∧ pc' = pc + n ∧ ls' = ls ∧ st' = v :: st ∧ h' = h := by
  unfold sm_loadK at hs
  split at hs
  · next v hv =>
    split at hs
    · next hk => exact ⟨v, hv, hk, sm_nx_inv hs⟩
    · cases hs
  · cases hs
theorem sm_store1_inv {k : Value → Bool} {n i pc pc' : Nat} {ls ls' : sm_L} {st st' : List Value} {h h' : sm_H} (hs : sm_store1 k n i pc ls st h = some (.inl (pc', ls', st', h'))) : ∃ v, st = v :: st' ∧ k v = true ∧ sm_put1 ls i v = some ls' ∧ pc' = pc + n ∧ h' = h := by
  unfold sm_store1 at hs
  split at hs
  · next v r =>
    split at hs
    · next hk =>
      cases hp : sm_put1 ls i v with
      | none => rw [hp] at hs; cases hs
      | some l2 =>
        rw [hp] at hs
        obtain ⟨rfl, rfl, rfl, rfl⟩ := sm_nx_inv hs
        exact ⟨v, rfl, hk, hp, rfl, rfl⟩
    · cases hs
  · cases hs
theorem sm_store2_inv {n i pc pc' : Nat} {ls ls' : sm_L} {st st' : List Value} {h h' : sm_H} (hs : sm_store2 n i pc ls st h = some (.inl (pc', ls', st', h'))) : ∃ v, st = .long v :: st' ∧ sm_put2 ls i (.long v) = some ls' ∧ pc' = pc + n ∧ h' = h := by
  unfold sm_store2 at hs
  split at hs
  · next v r =>
    cases hp : sm_put2 ls i (.long v) with
    | none => rw [hp] at hs; cases hs
    | some l2 =>
      rw [hp] at hs
      obtain ⟨rfl, rfl, rfl, rfl⟩ := sm_nx_inv hs
      exact ⟨v, rfl, hp, rfl, rfl⟩
  · cases hs
theorem sm_isI_inv {v : Value} (h : sm_isI v = true) : ∃ x, v = .int x := by cases v <;> simp [sm_isI] at h; exact ⟨_, rfl⟩
theorem sm_isL_inv {v : Value} (h : sm_isL v = true) : ∃ x, v = .long x := by cases v <;> simp [sm_isL] at h; exact ⟨_, rfl⟩
theorem sm_isA_inv {v : Value} (h : sm_isA v = true) : ∃ x, v = .ref x := by cases v <;> simp [sm_isA] at h; exact ⟨_, rfl⟩
theorem sm_jmp_ok {pc : Nat} {off : Int} (h : 0 ≤ (pc : Int) + off) : (pc : Int) + off = ((sm_jmp pc off : Nat) : Int) := (Int.toNat_of_nonneg h).symm
theorem sm_ald_inv {t pc pc' : Nat} {ls ls' : sm_L} {st st' : List Value} {h h' : sm_H} (hs : sm_ald t pc ls st h = some (.inl (pc', ls', st', h'))) : ∃ i a n f r, st = .int i :: .ref a :: r ∧ h[a]? = some (.inl (t, n, .inl f)) ∧ sm_ix i n = true ∧ pc' = pc + 1 ∧ ls' = ls ∧ st' = .int (f i.toNatClampNeg) :: r ∧ h' = h := by
  unfold sm_ald at hs
  split at hs
  · next i a r =>
    split at hs
    · next t' n f ha =>
      split at hs
      · next hc =>
        obtain ⟨rfl, hc2⟩ := hc
        exact ⟨i, a, n, f, r, rfl, ha, hc2, sm_nx_inv hs⟩
      · cases hs
    · cases hs
  · cases hs
theorem sm_ast_inv {t pc pc' : Nat} {g : Int32 → Int32} {ls ls' : sm_L} {st st' : List Value} {h h' : sm_H} (hs : sm_ast t g pc ls st h = some (.inl (pc', ls', st', h'))) : ∃ x i a n f, st = .int x :: .int i :: .ref a :: st' ∧ h[a]? = some (.inl (t, n, .inl f)) ∧ sm_ix i n = true ∧ sm_C ≤ a ∧ pc' = pc + 1 ∧ ls' = ls ∧ h' = h.set a (.inl (t, n, .inl (upd f i.toNatClampNeg (g x)))) := by
  unfold sm_ast at hs
  split at hs
  · next x i a r =>
    split at hs
    · next t' n f ha =>
      split at hs
      · next hc =>
        obtain ⟨rfl, hc2, hc3⟩ := hc
        obtain ⟨rfl, rfl, rfl, rfl⟩ := sm_nx_inv hs
        exact ⟨x, i, a, n, f, rfl, ha, hc2, hc3, rfl, rfl, rfl⟩
      · cases hs
    · cases hs
  · cases hs

/-- what was there before, and stays: text constants, statics, fields of constants -/
def sm_X (sx : List (String × Nat × String × Nat)) (zx : List (String × String × String × Nat)) (oc : (List (Nat × Nat × String × String × String × Value) × List (String × Nat × MethodName × String))) (N0 : Nat) (cs : Nat → Nat) (U : State) : Prop :=
  (∀ q ∈ sx, vk_R q.1 q.2.1 q.2.2.1 (sm_ad N0 cs q.2.2.2) U) ∧ (∀ q ∈ zx, va_Z q.1 q.2.1 q.2.2.1 (.int (Int32.ofNat q.2.2.2)) (fun a => N0 ≤ a) U U.heap) ∧ (∀ q ∈ oc.1, va_OF q.2.2.1 q.2.2.2.1 q.2.2.2.2.1 (sm_mv (sm_ad N0 cs) q.2.2.2.2.2) (sm_ad N0 cs q.1) (fun a => N0 ≤ a) U U.heap) ∧ ∀ q ∈ oc.2, va_Nw (.methodLinkNest q.1 q.2.1 q.2.2.1 q.2.2.2) U
section SMN
variable {p : Program} {l : Launch} {e : Env} {R : Room} {s : State} {m : MethodId} {args : Array Value} {below : List Frame} {meth : Method} {c : Code} {H : Heap} {locs : List Loc} {cells slots : Nat} {Q : State → Prop}
variable {cc : ByteArray} {D : va_G} {cl : List vw_C} {tys : List (ClassId × FieldType)} {N0 : Nat} {cs : Nat → Nat} {K h h' : sm_H} {Ts : List Cond} {sx : List (String × Nat × String × Nat)} {zx : List (String × String × String × Nat)} {oc : (List (Nat × Nat × String × String × String × Value) × List (String × Nat × MethodName × String))} {own : String} {pc pc' : Nat} {ls ls' : sm_L} {LS : Array Slot} {st st' : List Value}
/-- an array's cell of a picture -/
theorem sm_cell {a t n : Nat} {f : (Nat → Int32) ⊕ (Nat → Int64) ⊕ (Nat → UInt32) ⊕ (Nat → UInt64) ⊕ (Nat → Option Nat)} (hP : sm_P D cl tys N0 cs K h H) (ha : h[a]? = some (.inl (t, n, f))) : H[sm_ad N0 cs a]? = some (vp_cell (tys.getD t (0, .int)).1 (n, f)) := hP.2.2.2 a _ ha
theorem sm_obj {a ci : Nat} {fs : List Value} (hP : sm_P D cl tys N0 cs K h H) (ha : h[a]? = some (.inr (ci, fs))) : va_at D cl (sm_ad N0 cs a, .inr (ci, fs.map (sm_mv (sm_ad N0 cs)))) H := hP.2.2.2 a _ ha
theorem sm_adN {a : Nat} (h : sm_C ≤ a) : N0 ≤ sm_ad N0 cs a := by rw [sm_ad_ge h]; exact Nat.le_add_right _ _
theorem sm_P1 {q : Nat × va_E} (h : va_at D cl q H) : va_P D cl [q] H := fun k x hx => by
  have hz : k < 1 := (List.getElem?_eq_some_iff.mp hx).1
  rw [show k = 0 by omega] at hx
  cases hx
  exact h
theorem sm_same {ref o n d : String} (hts : ∀ w ∈ Ts, w.before args s = true) (hsame : ref = o ∨ Cond.sameField ref o n d ∈ Ts) : ∀ x, s.fieldFound? o n d = some x → s.fieldFound? ref n d = some x := by
  rcases hsame with rfl | h
  · exact fun x h => h
  · exact fun x hx => u_same (hts _ h) x hx

set_option maxHeartbeats 16000000 in
set_option maxRecDepth 100000 in
theorem sm_next {i : Instr} {len : Nat} {rs : List Nat} (hexec : p.tables.exec = Jvm.exec) (hb : c.code = cc) (hts : ∀ w ∈ Ts, w.before args s = true) (hown : s.vm.findClass own = some m.cls) (hK : va_K D cl tys s) (hT : sm_T tys)
    (hX : sm_X sx zx oc N0 cs s) (hF : ∀ q, q < N0 → H[q]? = s.heap[q]?) (hZ0 : s.heap.size ≤ H.size) (hok : sm_okI Ts sx zx oc K cl own meth.name pc i rs) (hlen : sm_lenOk i len = true) (hd : decode cc pc = .ok (i, len))
    (hP : sm_P D cl tys N0 cs K h H) (hL : sm_LR (sm_ad N0 cs) ls LS) (hlocs : ∀ x ∈ locs, N0 ≤ x.base) (hR1 : 1 ≤ R.frames ∧ 21 ≤ R.locals) (hml : c.maxLocals = ls.length)
    (hroom : cells + (h'.length - h.length) ≤ R.cells ∧ slots + (sm_sl h' - sm_sl h) ≤ R.slots) (hs : sm_step (i, len, rs) pc ls st h = some (.inl (pc', ls', st', h')))
    (kk : ∀ (H' : Heap) (locs' : List Loc) (LS' : Array Slot), sm_P D cl tys N0 cs K h' H' → sm_LR (sm_ad N0 cs) ls' LS' → (∀ q, q < N0 → H'[q]? = H[q]?) → (∀ x ∈ locs', N0 ≤ x.base) →
      W p l e R s m args below meth c H' locs' (cells + (h'.length - h.length)) (slots + (sm_sl h' - sm_sl h)) Q (F0 m pc' LS' (st'.map (sm_mv (sm_ad N0 cs))))) :
    W p l e R s m args below meth c H locs cells slots Q (F0 m pc LS (st.map (sm_mv (sm_ad N0 cs)))) := by
  have hSS : va_S (fun a => N0 ≤ a) s.heap H locs := ⟨hZ0, fun q _ h2 => hF q (Nat.not_le.mp h2), hlocs⟩
  have k0 : h' = h → ∀ LS' : Array Slot, sm_LR (sm_ad N0 cs) ls' LS' → W p l e R s m args below meth c H locs cells slots Q (F0 m pc' LS' (st'.map (sm_mv (sm_ad N0 cs)))) := by
    intro e1 LS' hLR
    subst e1
    have := kk H locs LS' hP hLR (fun _ _ => rfl) hlocs
    simpa using this
  cases i with
  | iadd =>
    simp only [sm_lenOk, beq_iff_eq] at hlen
    subst hlen
    obtain ⟨x, y, r, rfl, rfl, rfl, rfl, rfl⟩ := sm_bin_inv hs
    exact lv_iadd hexec hb hd (k0 rfl LS hL)
  | isub =>
    simp only [sm_lenOk, beq_iff_eq] at hlen
    subst hlen
    obtain ⟨x, y, r, rfl, rfl, rfl, rfl, rfl⟩ := sm_bin_inv hs
    exact lv_isub hexec hb hd (k0 rfl LS hL)
  | imul =>
    simp only [sm_lenOk, beq_iff_eq] at hlen
    subst hlen
    obtain ⟨x, y, r, rfl, rfl, rfl, rfl, rfl⟩ := sm_bin_inv hs
    exact lv_imul hexec hb hd (k0 rfl LS hL)
  | iand =>
    simp only [sm_lenOk, beq_iff_eq] at hlen
    subst hlen
    obtain ⟨x, y, r, rfl, rfl, rfl, rfl, rfl⟩ := sm_bin_inv hs
    exact lv_iand hexec hb hd (k0 rfl LS hL)
  | ior =>
    simp only [sm_lenOk, beq_iff_eq] at hlen
    subst hlen
    obtain ⟨x, y, r, rfl, rfl, rfl, rfl, rfl⟩ := sm_bin_inv hs
    exact lv_ior hexec hb hd (k0 rfl LS hL)
  | ixor =>
    simp only [sm_lenOk, beq_iff_eq] at hlen
    subst hlen
    obtain ⟨x, y, r, rfl, rfl, rfl, rfl, rfl⟩ := sm_bin_inv hs
    exact lv_ixor hexec hb hd (k0 rfl LS hL)
  | ishl =>
    simp only [sm_lenOk, beq_iff_eq] at hlen
    subst hlen
    obtain ⟨x, y, r, rfl, rfl, rfl, rfl, rfl⟩ := sm_bin_inv hs
    exact lv_ishl hexec hb hd (k0 rfl LS hL)
  | ishr =>
    simp only [sm_lenOk, beq_iff_eq] at hlen
    subst hlen
    obtain ⟨x, y, r, rfl, rfl, rfl, rfl, rfl⟩ := sm_bin_inv hs
    exact lv_ishr hexec hb hd (k0 rfl LS hL)
  | iushr =>
    simp only [sm_lenOk, beq_iff_eq] at hlen
    subst hlen
    obtain ⟨x, y, r, rfl, rfl, rfl, rfl, rfl⟩ := sm_bin_inv hs
    exact lv_iushr hexec hb hd rfl (k0 rfl LS hL)
  | ladd =>
    simp only [sm_lenOk, beq_iff_eq] at hlen
    subst hlen
    obtain ⟨x, y, r, rfl, rfl, rfl, rfl, rfl⟩ := sm_binL_inv hs
    exact lv_ladd hexec hb hd (k0 rfl LS hL)
  | lsub =>
    simp only [sm_lenOk, beq_iff_eq] at hlen
    subst hlen
    obtain ⟨x, y, r, rfl, rfl, rfl, rfl, rfl⟩ := sm_binL_inv hs
    exact lv_lsub hexec hb hd (k0 rfl LS hL)
  | lmul =>
    simp only [sm_lenOk, beq_iff_eq] at hlen
    subst hlen
    obtain ⟨x, y, r, rfl, rfl, rfl, rfl, rfl⟩ := sm_binL_inv hs
    exact lv_lmul hexec hb hd (k0 rfl LS hL)
  | land =>
    simp only [sm_lenOk, beq_iff_eq] at hlen
    subst hlen
    obtain ⟨x, y, r, rfl, rfl, rfl, rfl, rfl⟩ := sm_binL_inv hs
    exact lv_land hexec hb hd (k0 rfl LS hL)
  | lor =>
    simp only [sm_lenOk, beq_iff_eq] at hlen
    subst hlen
    obtain ⟨x, y, r, rfl, rfl, rfl, rfl, rfl⟩ := sm_binL_inv hs
    exact lv_lor hexec hb hd (k0 rfl LS hL)
  | lxor =>
    simp only [sm_lenOk, beq_iff_eq] at hlen
    subst hlen
    obtain ⟨x, y, r, rfl, rfl, rfl, rfl, rfl⟩ := sm_binL_inv hs
    exact lv_lxor hexec hb hd (k0 rfl LS hL)
  | iconst n =>
    simp only [sm_lenOk, beq_iff_eq] at hlen
    subst hlen
    obtain ⟨rfl, rfl, rfl, rfl⟩ := sm_nx_inv hs
    exact lv_iconst hexec hb hd rfl (k0 rfl LS hL)
  | bipush n =>
    simp only [sm_lenOk, beq_iff_eq] at hlen
    subst hlen
    obtain ⟨rfl, rfl, rfl, rfl⟩ := sm_nx_inv hs
    exact lv_bipush hexec hb hd rfl (k0 rfl LS hL)
  | sipush n =>
    simp only [sm_lenOk, beq_iff_eq] at hlen
    subst hlen
    obtain ⟨rfl, rfl, rfl, rfl⟩ := sm_nx_inv hs
    exact lv_sipush hexec hb hd rfl (k0 rfl LS hL)
  | lconst n =>
    simp only [sm_lenOk, beq_iff_eq] at hlen
    subst hlen
    obtain ⟨rfl, rfl, rfl, rfl⟩ := sm_nx_inv hs
    exact lv_lconst hexec hb hd rfl (k0 rfl LS hL)
  | aconst_null  =>
    simp only [sm_lenOk, beq_iff_eq] at hlen
    subst hlen
    obtain ⟨rfl, rfl, rfl, rfl⟩ := sm_nx_inv hs
    exact lv_null hexec hb hd (k0 rfl LS hL)
  | iload_n k =>
    simp only [sm_lenOk, beq_iff_eq] at hlen
    subst hlen
    obtain ⟨v, hv, hk, rfl, rfl, rfl, rfl⟩ := sm_loadK_inv hs
    obtain ⟨x, rfl⟩ := sm_isI_inv hk
    exact lv_iload_n hexec hb hd rfl (sm_lget_at hL hv) (k0 rfl LS hL)
  | iload k =>
    simp only [sm_lenOk, beq_iff_eq] at hlen
    subst hlen
    obtain ⟨v, hv, hk, rfl, rfl, rfl, rfl⟩ := sm_loadK_inv hs
    obtain ⟨x, rfl⟩ := sm_isI_inv hk
    exact lv_iload hexec hb hd (sm_lget_at hL hv) (k0 rfl LS hL)
  | lload_n k =>
    simp only [sm_lenOk, beq_iff_eq] at hlen
    subst hlen
    obtain ⟨v, hv, hk, rfl, rfl, rfl, rfl⟩ := sm_loadK_inv hs
    obtain ⟨x, rfl⟩ := sm_isL_inv hk
    exact lv_lload_n hexec hb hd rfl (sm_lget_at hL hv) (k0 rfl LS hL)
  | lload k =>
    simp only [sm_lenOk, beq_iff_eq] at hlen
    subst hlen
    obtain ⟨v, hv, hk, rfl, rfl, rfl, rfl⟩ := sm_loadK_inv hs
    obtain ⟨x, rfl⟩ := sm_isL_inv hk
    exact lv_lload hexec hb hd (sm_lget_at hL hv) (k0 rfl LS hL)
  | aload_n k =>
    simp only [sm_lenOk, beq_iff_eq] at hlen
    subst hlen
    obtain ⟨v, hv, hk, rfl, rfl, rfl, rfl⟩ := sm_loadK_inv hs
    obtain ⟨x, rfl⟩ := sm_isA_inv hk
    exact lv_aload_n hexec hb hd rfl (sm_lget_at hL hv) (k0 rfl LS hL)
  | aload k =>
    simp only [sm_lenOk, beq_iff_eq] at hlen
    subst hlen
    obtain ⟨v, hv, hk, rfl, rfl, rfl, rfl⟩ := sm_loadK_inv hs
    obtain ⟨x, rfl⟩ := sm_isA_inv hk
    exact lv_aload hexec hb hd (sm_lget_at hL hv) (k0 rfl LS hL)
  | istore_n k =>
    simp only [sm_lenOk, beq_iff_eq] at hlen
    subst hlen
    obtain ⟨v, rfl, hk, hp, rfl, rfl⟩ := sm_store1_inv hs
    obtain ⟨x, rfl⟩ := sm_isI_inv hk
    exact lv_istore_n hexec hb hd rfl hL.has (sm_put1_len hp).1 rfl (fun LS' hl => k0 rfl LS' (sm_LR.put1 (LS := LS) hp hl))
  | istore k =>
    simp only [sm_lenOk, beq_iff_eq] at hlen
    subst hlen
    obtain ⟨v, rfl, hk, hp, rfl, rfl⟩ := sm_store1_inv hs
    obtain ⟨x, rfl⟩ := sm_isI_inv hk
    exact lv_istore hexec hb hd hL.has (sm_put1_len hp).1 rfl (fun LS' hl => k0 rfl LS' (sm_LR.put1 (LS := LS) hp hl))
  | astore_n k =>
    simp only [sm_lenOk, beq_iff_eq] at hlen
    subst hlen
    obtain ⟨v, rfl, hk, hp, rfl, rfl⟩ := sm_store1_inv hs
    obtain ⟨x, rfl⟩ := sm_isA_inv hk
    exact lv_astore_n hexec hb hd rfl hL.has (sm_put1_len hp).1 rfl (fun LS' hl => k0 rfl LS' (sm_LR.put1 (LS := LS) hp hl))
  | astore k =>
    simp only [sm_lenOk, beq_iff_eq] at hlen
    subst hlen
    obtain ⟨v, rfl, hk, hp, rfl, rfl⟩ := sm_store1_inv hs
    obtain ⟨x, rfl⟩ := sm_isA_inv hk
    exact lv_astore hexec hb hd hL.has (sm_put1_len hp).1 rfl (fun LS' hl => k0 rfl LS' (sm_LR.put1 (LS := LS) hp hl))
  | lstore_n k =>
    simp only [sm_lenOk, beq_iff_eq] at hlen
    subst hlen
    obtain ⟨v, rfl, hp, rfl, rfl⟩ := sm_store2_inv hs
    exact lv_lstore_n hexec hb hd rfl hL.has (sm_put2_len hp).1 rfl (fun LS' hl => k0 rfl LS' (sm_LR.put2 (LS := LS) hp hl))
  | lstore k =>
    simp only [sm_lenOk, beq_iff_eq] at hlen
    subst hlen
    obtain ⟨v, rfl, hp, rfl, rfl⟩ := sm_store2_inv hs
    exact lv_lstore hexec hb hd hL.has (sm_put2_len hp).1 rfl (fun LS' hl => k0 rfl LS' (sm_LR.put2 (LS := LS) hp hl))
  | ineg =>
    simp only [sm_lenOk, beq_iff_eq] at hlen
    subst hlen
    simp only [sm_step] at hs
    split at hs
    · next x r =>
      obtain ⟨rfl, rfl, rfl, rfl⟩ := sm_nx_inv hs
      exact lv_ineg hexec hb hd (k0 rfl LS hL)
    · cases hs
  | i2l =>
    simp only [sm_lenOk, beq_iff_eq] at hlen
    subst hlen
    simp only [sm_step] at hs
    split at hs
    · next x r =>
      obtain ⟨rfl, rfl, rfl, rfl⟩ := sm_nx_inv hs
      exact lv_i2l hexec hb hd rfl (k0 rfl LS hL)
    · cases hs
  | l2i =>
    simp only [sm_lenOk, beq_iff_eq] at hlen
    subst hlen
    simp only [sm_step] at hs
    split at hs
    · next x r =>
      obtain ⟨rfl, rfl, rfl, rfl⟩ := sm_nx_inv hs
      exact lv_l2i hexec hb hd rfl (k0 rfl LS hL)
    · cases hs
  | i2c =>
    simp only [sm_lenOk, beq_iff_eq] at hlen
    subst hlen
    simp only [sm_step] at hs
    split at hs
    · next x r =>
      obtain ⟨rfl, rfl, rfl, rfl⟩ := sm_nx_inv hs
      exact lv_i2c hexec hb hd rfl (k0 rfl LS hL)
    · cases hs
  | i2b =>
    simp only [sm_lenOk, beq_iff_eq] at hlen
    subst hlen
    simp only [sm_step] at hs
    split at hs
    · next x r =>
      obtain ⟨rfl, rfl, rfl, rfl⟩ := sm_nx_inv hs
      exact lv_i2b hexec hb hd rfl (k0 rfl LS hL)
    · cases hs
  | lushr =>
    simp only [sm_lenOk, beq_iff_eq] at hlen
    subst hlen
    simp only [sm_step] at hs
    split at hs
    · next y x r =>
      obtain ⟨rfl, rfl, rfl, rfl⟩ := sm_nx_inv hs
      exact lv_lushr hexec hb hd rfl (k0 rfl LS hL)
    · cases hs
  | lshl =>
    simp only [sm_lenOk, beq_iff_eq] at hlen
    subst hlen
    simp only [sm_step] at hs
    split at hs
    · next y x r =>
      obtain ⟨rfl, rfl, rfl, rfl⟩ := sm_nx_inv hs
      exact lv_lshl hexec hb hd rfl (k0 rfl LS hL)
    · cases hs
  | lshr =>
    simp only [sm_lenOk, beq_iff_eq] at hlen
    subst hlen
    simp only [sm_step] at hs
    split at hs
    · next y x r =>
      obtain ⟨rfl, rfl, rfl, rfl⟩ := sm_nx_inv hs
      exact lv_lshr hexec hb hd rfl (k0 rfl LS hL)
    · cases hs
  | lcmp =>
    simp only [sm_lenOk, beq_iff_eq] at hlen
    subst hlen
    simp only [sm_step] at hs
    split at hs
    · next y x r =>
      obtain ⟨rfl, rfl, rfl, rfl⟩ := sm_nx_inv hs
      exact W.lcmp hexec hb hd (k0 rfl LS hL)
    · cases hs
  | idiv =>
    simp only [sm_lenOk, beq_iff_eq] at hlen
    subst hlen
    simp only [sm_step] at hs
    split at hs
    · next y x r =>
      split at hs
      · cases hs
      · next hne =>
        obtain ⟨rfl, rfl, rfl, rfl⟩ := sm_nx_inv hs
        exact lv_idiv hexec hb hd hne (k0 rfl LS hL)
    · cases hs
  | irem =>
    simp only [sm_lenOk, beq_iff_eq] at hlen
    subst hlen
    simp only [sm_step] at hs
    split at hs
    · next y x r =>
      split at hs
      · cases hs
      · next hne =>
        obtain ⟨rfl, rfl, rfl, rfl⟩ := sm_nx_inv hs
        exact lv_irem hexec hb hd hne (k0 rfl LS hL)
    · cases hs
  | ldiv =>
    simp only [sm_lenOk, beq_iff_eq] at hlen
    subst hlen
    simp only [sm_step] at hs
    split at hs
    · next y x r =>
      split at hs
      · cases hs
      · next hne =>
        obtain ⟨rfl, rfl, rfl, rfl⟩ := sm_nx_inv hs
        exact lv_ldiv hexec hb hd hne (k0 rfl LS hL)
    · cases hs
  | lrem =>
    simp only [sm_lenOk, beq_iff_eq] at hlen
    subst hlen
    simp only [sm_step] at hs
    split at hs
    · next y x r =>
      split at hs
      · cases hs
      · next hne =>
        obtain ⟨rfl, rfl, rfl, rfl⟩ := sm_nx_inv hs
        exact lv_lrem hexec hb hd hne (k0 rfl LS hL)
    · cases hs
  | dup =>
    simp only [sm_lenOk, beq_iff_eq] at hlen
    subst hlen
    simp only [sm_step] at hs
    split at hs
    · next v r =>
      split at hs
      · next hc =>
        obtain ⟨rfl, rfl, rfl, rfl⟩ := sm_nx_inv hs
        exact lv_dup hexec hb hd ((sm_cat _ _).trans hc) (k0 rfl LS hL)
      · cases hs
    · cases hs
  | pop =>
    simp only [sm_lenOk, beq_iff_eq] at hlen
    subst hlen
    simp only [sm_step] at hs
    split at hs
    · next v r =>
      split at hs
      · next hc =>
        obtain ⟨rfl, rfl, rfl, rfl⟩ := sm_nx_inv hs
        exact lv_pop hexec hb hd ((sm_cat _ _).trans hc) (k0 rfl LS hL)
      · cases hs
    · cases hs
  | dup_x1 =>
    simp only [sm_lenOk, beq_iff_eq] at hlen
    subst hlen
    simp only [sm_step] at hs
    split at hs
    · next v u r =>
      split at hs
      · next hc =>
        obtain ⟨rfl, rfl, rfl, rfl⟩ := sm_nx_inv hs
        exact lv_dup_x1 hexec hb hd ((sm_cat _ _).trans hc.1) ((sm_cat _ _).trans hc.2) (k0 rfl LS hL)
      · cases hs
    · cases hs
  | dup2 =>
    simp only [sm_lenOk, beq_iff_eq] at hlen
    subst hlen
    simp only [sm_step] at hs
    split at hs
    · obtain ⟨rfl, rfl, rfl, rfl⟩ := sm_nx_inv hs
      exact lv_dup2_2 hexec hb hd rfl (k0 rfl LS hL)
    · split at hs
      · next hc =>
        obtain ⟨rfl, rfl, rfl, rfl⟩ := sm_nx_inv hs
        exact lv_dup2_11 hexec hb hd ((sm_cat _ _).trans hc.1) ((sm_cat _ _).trans hc.2) (k0 rfl LS hL)
      · cases hs
    · cases hs
  | pop2 =>
    simp only [sm_lenOk, beq_iff_eq] at hlen
    subst hlen
    simp only [sm_step] at hs
    split at hs
    · obtain ⟨rfl, rfl, rfl, rfl⟩ := sm_nx_inv hs
      exact lv_pop2_2 hexec hb hd rfl (k0 rfl LS hL)
    · split at hs
      · next hc =>
        obtain ⟨rfl, rfl, rfl, rfl⟩ := sm_nx_inv hs
        exact lv_pop2_11 hexec hb hd ((sm_cat _ _).trans hc.1) ((sm_cat _ _).trans hc.2) (k0 rfl LS hL)
      · cases hs
    · cases hs
  | iinc k n =>
    simp only [sm_lenOk, beq_iff_eq] at hlen
    subst hlen
    simp only [sm_step] at hs
    split at hs
    · next x hx =>
      cases hp : sm_put1 ls k (.int (x + Int32.ofInt n)) with
      | none => rw [hp] at hs; cases hs
      | some l2 =>
        rw [hp] at hs
        obtain ⟨rfl, rfl, rfl, rfl⟩ := sm_nx_inv hs
        have hm : (k, Value.int x) ∈ sm_al (sm_ad N0 cs) ls := by
          refine sm_al_mem.mpr ⟨.int x, ?_, rfl⟩
          unfold sm_lget at hx
          split at hx
          · next w hw => cases hx; exact hw
          · cases hx
        obtain ⟨j, hj⟩ := List.getElem?_of_mem hm
        exact lv_iinc hexec hb hd hL.has hj rfl (sm_put1_len hp).1 rfl (fun LS' hl => k0 rfl LS' (sm_LR.put1 (LS := LS) hp hl))
    · cases hs
  | if_icmp cd off =>
    simp only [sm_lenOk, beq_iff_eq] at hlen
    subst hlen
    simp only [sm_step] at hs
    split at hs
    · next y x r =>
      obtain ⟨e1, rfl, rfl, rfl⟩ := sm_nx_inv hs
      have hk := k0 rfl LS hL
      rw [e1] at hk
      have ho : (pc : Int) + off = ((sm_jmp pc off : Nat) : Int) := sm_jmp_ok hok
      cases cd with
      | eq => exact lv_icmp_eq hexec hb hd ho (fun z => by simpa [sm_cmp, z] using hk) (fun z => by simpa [sm_cmp, z] using hk)
      | ne => exact lv_icmp_ne hexec hb hd ho (fun z => by simpa [sm_cmp, z] using hk) (fun z => by simpa [sm_cmp, z] using hk)
      | lt => exact lv_icmp_lt hexec hb hd ho (fun z => by simpa [sm_cmp, z] using hk) (fun z => by simpa [sm_cmp, z] using hk)
      | ge => exact lv_icmp_ge hexec hb hd ho (fun z => by simpa [sm_cmp, z] using hk) (fun z => by simpa [sm_cmp, z] using hk)
      | gt => exact lv_icmp_gt hexec hb hd ho (fun z => by simpa [sm_cmp, z] using hk) (fun z => by simpa [sm_cmp, z] using hk)
      | le => exact lv_icmp_le hexec hb hd ho (fun z => by simpa [sm_cmp, z] using hk) (fun z => by simpa [sm_cmp, z] using hk)
    · cases hs
  | ifCond cd off =>
    simp only [sm_lenOk, beq_iff_eq] at hlen
    subst hlen
    simp only [sm_step] at hs
    split at hs
    · next x r =>
      obtain ⟨e1, rfl, rfl, rfl⟩ := sm_nx_inv hs
      have hk := k0 rfl LS hL
      rw [e1] at hk
      have ho : (pc : Int) + off = ((sm_jmp pc off : Nat) : Int) := sm_jmp_ok hok
      cases cd with
      | eq => exact lv_if_eq hexec hb hd ho (fun z => by simpa [sm_cmp, z] using hk) (fun z => by simpa [sm_cmp, z] using hk)
      | ne => exact lv_if_ne hexec hb hd ho (fun z => by simpa [sm_cmp, z] using hk) (fun z => by simpa [sm_cmp, z] using hk)
      | lt => exact lv_if_lt hexec hb hd ho (fun z => by simpa [sm_cmp, z] using hk) (fun z => by simpa [sm_cmp, z] using hk)
      | ge => exact lv_if_ge hexec hb hd ho (fun z => by simpa [sm_cmp, z] using hk) (fun z => by simpa [sm_cmp, z] using hk)
      | gt => exact lv_if_gt hexec hb hd ho (fun z => by simpa [sm_cmp, z] using hk) (fun z => by simpa [sm_cmp, z] using hk)
      | le => exact lv_if_le hexec hb hd ho (fun z => by simpa [sm_cmp, z] using hk) (fun z => by simpa [sm_cmp, z] using hk)
    · cases hs
  | dup_x2 =>
    simp only [sm_lenOk, beq_iff_eq] at hlen
    subst hlen
    simp only [sm_step] at hs
    split at hs
    · next v u z r =>
      split at hs
      · next hc =>
        obtain ⟨rfl, rfl, rfl, rfl⟩ := sm_nx_inv hs
        exact lv_dup_x2 hexec hb hd ((sm_cat _ _).trans hc.1) ((sm_cat _ _).trans hc.2.1) ((sm_cat _ _).trans hc.2.2) (k0 rfl LS hL)
      · cases hs
    · cases hs
  | goto off =>
    simp only [sm_lenOk, beq_iff_eq] at hlen
    subst hlen
    obtain ⟨rfl, rfl, rfl, rfl⟩ := sm_nx_inv hs
    exact lv_goto hexec hb hd (sm_jmp_ok hok) (k0 rfl LS hL)
  | tableswitch dd lo hi offs =>
    simp only [sm_step] at hs
    split at hs
    · next x r =>
      split at hs
      · next hc =>
        obtain ⟨rfl, rfl, rfl, rfl⟩ := sm_nx_inv hs
        exact lv_tableOut hexec hb hd hc (sm_jmp_ok hok.1) (k0 rfl LS hL)
      · next hc =>
        split at hs
        · next off ho =>
          obtain ⟨rfl, rfl, rfl, rfl⟩ := sm_nx_inv hs
          have hm : off ∈ offs.toList := Array.mem_toList_iff.mpr (Array.mem_of_getElem? ho)
          exact lv_tableIn hexec hb hd (fun z => hc (Or.inl z)) (fun z => hc (Or.inr z)) ho (sm_jmp_ok (hok.2 off hm)) (k0 rfl LS hL)
        · cases hs
    · cases hs
  | arraylength =>
    simp only [sm_lenOk, beq_iff_eq] at hlen
    subst hlen
    simp only [sm_step] at hs
    split at hs
    · next a r =>
      split at hs
      · next t n f ha =>
        split at hs
        · next hc =>
          obtain ⟨rfl, rfl, rfl, rfl⟩ := sm_nx_inv hs
          have h1 := sm_cell hP ha
          obtain ⟨ty, hty⟩ := Option.isSome_iff_exists.mp hc
          exact va_alen (D := D) (cl := cl) (ws := [(sm_ad N0 cs a, .inl ((tys.getD t (0, .int)).1, n, f))]) hexec hb hK (sm_P1 h1) 0 t rfl (sm_tys hT hty) rfl hd (k0 rfl LS hL)
        · cases hs
      · cases hs
    · cases hs
  | iaload =>
    simp only [sm_lenOk, beq_iff_eq] at hlen
    subst hlen
    obtain ⟨i, a, n, f, r, rfl, ha, hi, rfl, rfl, rfl, rfl⟩ := sm_ald_inv hs
    have h1 := sm_cell hP ha
    exact va_iald (D := D) (cl := cl) (ws := [(sm_ad N0 cs a, .inl ((tys.getD 0 (0, .int)).1, n, .inl f))]) hexec hb hK (sm_P1 h1) 0 0 rfl (sm_tys hT rfl) (sm_in hi) hd (k0 rfl LS hL)
  | caload =>
    simp only [sm_lenOk, beq_iff_eq] at hlen
    subst hlen
    obtain ⟨i, a, n, f, r, rfl, ha, hi, rfl, rfl, rfl, rfl⟩ := sm_ald_inv hs
    have h1 := sm_cell hP ha
    exact va_cald (D := D) (cl := cl) (ws := [(sm_ad N0 cs a, .inl ((tys.getD 2 (0, .int)).1, n, .inl f))]) hexec hb hK (sm_P1 h1) 0 2 rfl (sm_tys hT rfl) (sm_in hi) hd (k0 rfl LS hL)
  | baload =>
    simp only [sm_lenOk, beq_iff_eq] at hlen
    subst hlen
    simp only [sm_step] at hs
    split at hs
    · next r0 hr0 =>
      cases hs
      obtain ⟨i, a, n, f, r, rfl, ha, hi, rfl, rfl, rfl, rfl⟩ := sm_ald_inv hr0
      have h1 := sm_cell hP ha
      exact va_zald (D := D) (cl := cl) (ws := [(sm_ad N0 cs a, .inl ((tys.getD 3 (0, .int)).1, n, .inl f))]) hexec hb hK (sm_P1 h1) 0 3 rfl (sm_tys hT rfl) (sm_in hi) hd (k0 rfl LS hL)
    · obtain ⟨i, a, n, f, r, rfl, ha, hi, rfl, rfl, rfl, rfl⟩ := sm_ald_inv hs
      have h1 := sm_cell hP ha
      exact va_bald (D := D) (cl := cl) (ws := [(sm_ad N0 cs a, .inl ((tys.getD 4 (0, .int)).1, n, .inl f))]) hexec hb hK (sm_P1 h1) 0 4 rfl (sm_tys hT rfl) (sm_in hi) hd (k0 rfl LS hL)
  | laload =>
    simp only [sm_lenOk, beq_iff_eq] at hlen
    subst hlen
    simp only [sm_step, sm_aldL] at hs
    split at hs
    · next i a r =>
      split at hs
      · next t' n f ha =>
        split at hs
        · next hc =>
          obtain ⟨rfl, hi⟩ := hc
          obtain ⟨rfl, rfl, rfl, rfl⟩ := sm_nx_inv hs
          have h1 := sm_cell hP ha
          exact va_lald (D := D) (cl := cl) (ws := [(sm_ad N0 cs a, .inl ((tys.getD 1 (0, .int)).1, n, .inr (.inl f)))]) hexec hb hK (sm_P1 h1) 0 1 rfl (sm_tys hT rfl) (sm_in hi) hd (k0 rfl LS hL)
        · cases hs
      · cases hs
    · cases hs
  | iastore =>
    simp only [sm_lenOk, beq_iff_eq] at hlen
    subst hlen
    obtain ⟨x, i, a, n, f, rfl, ha, hi, hC, rfl, rfl, rfl⟩ := sm_ast_inv hs
    have h1 := sm_cell hP ha
    have hin := sm_in hi
    refine W.iast hexec hb h1 ((hK.2 0 _ (sm_tys hT rfl)).1 n (fun j => .int (f j))) (fun z => by cases z) (by show ¬ (i < 0 ∨ (arrV _ _ _).slots.size ≤ _); rw [arrV_size]; exact hin) rfl rfl hd fun H1 e1 z o => ?_
    have hP1 := hP.put (H1 := H1) (e1 := .inl (0, n, .inl (upd f i.toNatClampNeg x))) ha hC (by show H1[sm_ad N0 cs a]? = some (vp_cell _ _); rw [e1]; exact congrArg some (sm_upd_i _ _ _ _ _)) z o
    have e2 : (h.set a (.inl (0, n, .inl (upd f i.toNatClampNeg x)))).length - h.length = 0 := by rw [List.length_set]; omega
    have e3 := sm_sl_set (e := .inl (0, n, .inl f)) (e' := .inl (0, n, .inl (upd f i.toNatClampNeg x))) rfl h a ha
    have := kk H1 (locs ++ [⟨sm_ad N0 cs a, i.toNatClampNeg⟩]) LS hP1 hL (fun q hq => o q (Nat.ne_of_lt (Nat.lt_of_lt_of_le hq (sm_adN hC)))) (fun x hx => (List.mem_append.mp hx).elim (hlocs x) (fun hx => by rw [List.mem_singleton.mp hx]; exact sm_adN hC))
    rw [e2, e3, Nat.sub_self] at this
    exact this
  | castore =>
    simp only [sm_lenOk, beq_iff_eq] at hlen
    subst hlen
    obtain ⟨x, i, a, n, f, rfl, ha, hi, hC, rfl, rfl, rfl⟩ := sm_ast_inv hs
    have h1 := sm_cell hP ha
    have hin := sm_in hi
    refine W.cast hexec hb h1 ((hK.2 2 _ (sm_tys hT rfl)).1 n (fun j => .int (f j))) (fun z => by cases z) (by show ¬ (i < 0 ∨ (arrV _ _ _).slots.size ≤ _); rw [arrV_size]; exact hin) rfl rfl hd fun H1 e1 z o => ?_
    have hP1 := hP.put (H1 := H1) (e1 := .inl (2, n, .inl (upd f i.toNatClampNeg (sm_chr x)))) ha hC (by show H1[sm_ad N0 cs a]? = some (vp_cell _ _); rw [e1]; rw [sm_nchr]; exact congrArg some (sm_upd_i _ _ _ _ _)) z o
    have e2 : (h.set a (.inl (2, n, .inl (upd f i.toNatClampNeg (sm_chr x))))).length - h.length = 0 := by rw [List.length_set]; omega
    have e3 := sm_sl_set (e := .inl (2, n, .inl f)) (e' := .inl (2, n, .inl (upd f i.toNatClampNeg (sm_chr x)))) rfl h a ha
    have := kk H1 (locs ++ [⟨sm_ad N0 cs a, i.toNatClampNeg⟩]) LS hP1 hL (fun q hq => o q (Nat.ne_of_lt (Nat.lt_of_lt_of_le hq (sm_adN hC)))) (fun x hx => (List.mem_append.mp hx).elim (hlocs x) (fun hx => by rw [List.mem_singleton.mp hx]; exact sm_adN hC))
    rw [e2, e3, Nat.sub_self] at this
    exact this
  | bastore =>
    simp only [sm_lenOk, beq_iff_eq] at hlen
    subst hlen
    obtain ⟨x, i, a, n, f, rfl, ha, hi, hC, rfl, rfl, rfl⟩ := sm_ast_inv hs
    have h1 := sm_cell hP ha
    have hin := sm_in hi
    refine W.zast hexec hb h1 ((hK.2 3 _ (sm_tys hT rfl)).1 n (fun j => .int (f j))) (fun z => by cases z) (by show ¬ (i < 0 ∨ (arrV _ _ _).slots.size ≤ _); rw [arrV_size]; exact hin) rfl rfl hd fun H1 e1 z o => ?_
    have hP1 := hP.put (H1 := H1) (e1 := .inl (3, n, .inl (upd f i.toNatClampNeg (x &&& 1)))) ha hC (by show H1[sm_ad N0 cs a]? = some (vp_cell _ _); rw [e1]; exact congrArg some (sm_upd_i _ _ _ _ _)) z o
    have e2 : (h.set a (.inl (3, n, .inl (upd f i.toNatClampNeg (x &&& 1))))).length - h.length = 0 := by rw [List.length_set]; omega
    have e3 := sm_sl_set (e := .inl (3, n, .inl f)) (e' := .inl (3, n, .inl (upd f i.toNatClampNeg (x &&& 1)))) rfl h a ha
    have := kk H1 (locs ++ [⟨sm_ad N0 cs a, i.toNatClampNeg⟩]) LS hP1 hL (fun q hq => o q (Nat.ne_of_lt (Nat.lt_of_lt_of_le hq (sm_adN hC)))) (fun x hx => (List.mem_append.mp hx).elim (hlocs x) (fun hx => by rw [List.mem_singleton.mp hx]; exact sm_adN hC))
    rw [e2, e3, Nat.sub_self] at this
    exact this
  | lastore =>
    simp only [sm_lenOk, beq_iff_eq] at hlen
    subst hlen
    simp only [sm_step, sm_astL] at hs
    split at hs
    · next x i a r =>
      split at hs
      · next t' n f ha =>
        split at hs
        · next hc =>
          obtain ⟨rfl, hi, hC⟩ := hc
          obtain ⟨rfl, rfl, rfl, rfl⟩ := sm_nx_inv hs
          have h1 := sm_cell hP ha
          have hin := sm_in hi
          refine W.last hexec hb h1 ((hK.2 1 _ (sm_tys hT rfl)).1 n (fun j => .long (f j))) (fun z => by cases z) (by show ¬ (i < 0 ∨ (arrV _ _ _).slots.size ≤ _); rw [arrV_size]; exact hin) rfl rfl hd fun H1 e1 z o => ?_
          have hP1 := hP.put (H1 := H1) (e1 := .inl (1, n, .inr (.inl (vp_updL f i.toNatClampNeg x)))) ha hC (by show H1[sm_ad N0 cs a]? = some (vp_cell _ _); rw [e1]; exact congrArg some (sm_upd_l _ _ _ _ _)) z o
          have e2 : (h.set a (.inl (1, n, .inr (.inl (vp_updL f i.toNatClampNeg x))))).length - h.length = 0 := by rw [List.length_set]; omega
          have e3 := sm_sl_set (e := .inl (1, n, .inr (.inl f))) (e' := .inl (1, n, .inr (.inl (vp_updL f i.toNatClampNeg x)))) rfl h a ha
          have := kk H1 (locs ++ [⟨sm_ad N0 cs a, i.toNatClampNeg⟩]) LS hP1 hL (fun q hq => o q (Nat.ne_of_lt (Nat.lt_of_lt_of_le hq (sm_adN hC)))) (fun x hx => (List.mem_append.mp hx).elim (hlocs x) (fun hx => by rw [List.mem_singleton.mp hx]; exact sm_adN hC))
          rw [e2, e3, Nat.sub_self] at this
          exact this
        · cases hs
      · cases hs
    · cases hs
  | getstatic idx =>
    simp only [sm_lenOk, beq_iff_eq] at hlen
    subst hlen
    simp only [sm_step] at hs
    split at hs
    · next n =>
      obtain ⟨rfl, rfl, rfl, rfl⟩ := sm_nx_inv hs
      obtain ⟨C, nm, dd, ref, g1, g2, g3⟩ := hok
      exact va_gets hexec hb (hX.2.1 _ g1) hSS hown (hts _ g2) (sm_same hts g3) hd (k0 rfl LS hL)
    · cases hs
  | getfield idx =>
    simp only [sm_lenOk, beq_iff_eq] at hlen
    subst hlen
    simp only [sm_step, sm_getf] at hs
    split at hs
    · next a r k z cs' =>
      split at hs
      · next ci fs ha =>
        split at hs
        · next hc =>
          obtain ⟨hc, hz⟩ := hc
          split at hs
          · next v hv =>
            obtain ⟨rfl, rfl, rfl, rfl⟩ := sm_nx_inv hs
            match z, hok, hz with
            | 0, hok, hz =>
              obtain ⟨C, T, N, ref, g1, g2, g3, g4, g5⟩ := hok ci hc
              have h1 := sm_obj hP ha
              exact va_get (D := D) (cl := cl) (ws := [(sm_ad N0 cs a, .inr (ci, fs.map (sm_mv (sm_ad N0 cs))))]) hexec hb hts g3 hown hK (sm_P1 h1) 0 rfl g1 k g2 (hts _ g4) (sm_same hts g5) (v := sm_mv (sm_ad N0 cs) v) (by rw [List.getElem?_map, hv]; rfl) hd (k0 rfl LS hL)
            | 1, hok, hz =>
              have hz : a < sm_C := hz.resolve_left (by decide)
              obtain ⟨o, nm, dd, ref, g1, g2, g3⟩ := hok ci hc a fs v hz ((hP.2.2.1 a hz).2.symm.trans ha) hv
              exact vk_getf hexec hb (hX.2.2.1 _ g1) hSS hown (hts _ g2) (sm_same hts g3) hd (k0 rfl LS hL)
            | z + 2, hok, hz => exact hok.elim
          · cases hs
        · cases hs
      · cases hs
    · cases hs
  | putfield idx =>
    simp only [sm_lenOk, beq_iff_eq] at hlen
    subst hlen
    simp only [sm_step, sm_putf] at hs
    split at hs
    · next v a r k t fin cs' =>
      split at hs
      · next ci fs ha =>
        split at hs
        · next hc =>
          obtain ⟨hc1, hc2, hc3, hC⟩ := hc
          obtain ⟨rfl, rfl, rfl, rfl⟩ := sm_nx_inv hs
          obtain ⟨C, T, N, ref, ty0, g1, g2, g3, g4, g5, g6, g7, g8, g9⟩ := hok ci hc1
          have h1 := sm_obj hP ha
          obtain ⟨f1, f2⟩ := sm_fit_ok (ad := sm_ad N0 cs) hc3 g9
          refine sm_Wput hexec hb hts g3 ty0 g6 g7 hown hK h1 g1 k g2 (hts _ g4) (sm_same hts g5) g8 f1 f2 (by rw [List.length_map]; exact hc2) hd fun H1 j e1 z o => ?_
          have hP1 := hP.put (H1 := H1) (e1 := .inr (ci, fs.set k v)) ha hC (by show va_at D cl (sm_ad N0 cs a, .inr (ci, (fs.set k v).map (sm_mv (sm_ad N0 cs)))) H1; rw [List.map_set]; exact e1) z o
          have e2 : (h.set a (.inr (ci, fs.set k v))).length - h.length = 0 := by rw [List.length_set]; omega
          have e3 := sm_sl_set (e := .inr (ci, fs)) (e' := .inr (ci, fs.set k v)) (by simp [sm_sz]) h a ha
          have := kk H1 (locs ++ [⟨sm_ad N0 cs a, j⟩]) LS hP1 hL (fun q hq => o q (Nat.ne_of_lt (Nat.lt_of_lt_of_le hq (sm_adN hC)))) (fun x hx => (List.mem_append.mp hx).elim (hlocs x) (fun hx => by rw [List.mem_singleton.mp hx]; exact sm_adN hC))
          rw [e2, e3, Nat.sub_self] at this
          exact this
        · cases hs
      · cases hs
    · cases hs
  | new idx =>
    simp only [sm_lenOk, beq_iff_eq] at hlen
    subst hlen
    simp only [sm_step, sm_newo] at hs
    split at hs
    · next ci ts =>
      split at hs
      · cases hs
      · next hc1000 =>
        obtain ⟨rfl, rfl, rfl, rfl⟩ := sm_nx_inv hs
        have hok2 : ∃ (C : String) (T : u_T) (N : Nat) (ty0 : Nat → FieldType), cl[ci]? = some (C, T, N) ∧ (∀ w ∈ u_ws C T N, w ∈ Ts) ∧ (∀ k, k < N → parseFieldDescriptor (T k).2.2.1 = some (ty0 k)) ∧ Cond.classLink own idx C ∈ Ts ∧ Cond.instantiable C N ∈ Ts ∧ Cond.initialized C ∈ Ts ∧ ts.length = N ∧ ∀ j, j < N → defaultValue (ty0 j) = sm_dflt (ts.getD j 0) := by
          unfold sm_okI at hok
          split at hok <;> first | (rename_i hz; cases hz; done) | (simp_all; done) | simp_all
        obtain ⟨C, T, N, ty0, g1, g2, g3, g4, g5, g6, g7, g8⟩ := hok2
        have hKn := hK.1 ci _ g1
        have e2 : (h ++ [(.inr (ci, ts.map sm_dflt) : sm_E)]).length - h.length = 1 := by simp
        have e3 : sm_sl (h ++ [(.inr (ci, ts.map sm_dflt) : sm_E)]) - sm_sl h = N := by rw [sm_sl_app]; simp [sm_sz, g7]
        rw [e2, e3] at hroom
        refine W.newcK hexec hb hown (hts _ g4) (hts _ g5) (hts _ g6) rfl hd hroom.1 hroom.2 hKn.2.1 rfl fun H1 kC hkC e1 z o => ?_
        have hfs : ∀ j, j < N → defaultValue (ty0 j) = vp_V ((ts.map sm_dflt).map (sm_mv (sm_ad N0 cs))) j := fun j hj => by
          rw [g8 j hj]
          have hj2 : j < ts.length := by omega
          unfold vp_V
          rw [List.getD_eq_getElem?_getD, List.getD_eq_getElem?_getD, List.getElem?_map, List.getElem?_map, List.getElem?_eq_getElem hj2]
          show sm_dflt ts[j] = sm_mv _ (sm_dflt ts[j])
          unfold sm_dflt
          split <;> rfl
        have hP1 := hP.make (H1 := H1) (e1 := .inr (ci, ts.map sm_dflt)) ⟨_, g1, (u_born ty0 hts g2 hKn hkC e1 g3).to hfs⟩ z o
        have := kk H1 locs LS hP1 hL (fun q hq => o q (Nat.lt_of_lt_of_le hq (by have h1 := hP.1; have h2 := hP.2.1; omega))) hlocs
        rw [e2, e3] at this
        have e4 := sm_top hP
        rw [e4]
        exact this
    · cases hs
  | newarray at' =>
    simp only [sm_lenOk, beq_iff_eq] at hlen
    subst hlen
    simp only [sm_step, sm_newa] at hs
    split at hs
    · next n r t =>
      split at hs
      · next hc =>
        obtain ⟨hc1, hc2⟩ := hc
        obtain ⟨rfl, rfl, rfl, rfl⟩ := sm_nx_inv hs
        obtain ⟨g1, g2⟩ := hok
        have e2 : ∀ E : sm_E, (h ++ [E]).length - h.length = 1 := by simp
        have e3 : ∀ x, sm_sl (h ++ [(.inl (t, n.toNatClampNeg, x) : sm_E)]) - sm_sl h = n.toNatClampNeg := fun x => by rw [sm_sl_app]; simp [sm_sz]
        rw [e2, e3] at hroom
        have hby : n.toNatClampNeg * componentBytes (newarray.typeOf at') ≤ 536870912 := by
          have : componentBytes (newarray.typeOf at') ≤ 8 := by cases at' <;> decide
          calc _ ≤ 65536 * 8 := Nat.mul_le_mul hc2 this
            _ ≤ _ := by decide
        refine va_newaK hexec hb (hts _ g2) rfl hd rfl hc1 rfl hby hroom.1 hroom.2 rfl fun H1 cA e1 z o hAr hNm => ?_
        have hcA : (tys.getD t (0, .int)).1 = cA := by
          have h1 := sm_tys hT g1
          have h2 := (hK.2 t _ h1).2
          have h3 : s.vm.findClass ("[" ++ (newarray.typeOf at').toString) = some (tys.getD t (0, .int)).1 := by cases at' <;> exact h2
          exact Option.some.inj (h3.symm.trans hNm)
        have hat : va_at D cl (H.size, sm_me (sm_ad N0 cs) tys (.inl (t, n.toNatClampNeg, if t = 1 then .inr (.inl (fun _ => 0)) else .inl (fun _ => 0)))) H1 := by
          show H1[H.size]? = some (vp_cell (tys.getD t (0, .int)).1 _)
          rw [hcA, e1]
          congr 1
          unfold sm_ty at g1
          split at g1
          · cases at' <;> cases g1; rfl
          · cases at' <;> cases g1; rfl
          · cases at' <;> cases g1; rfl
          · cases at' <;> cases g1; rfl
          · cases at' <;> cases g1; rfl
          · cases g1
        have hP1 := hP.make (H1 := H1) hat z o
        have := kk H1 locs LS hP1 hL (fun q hq => o q (Nat.lt_of_lt_of_le hq (by have h1 := hP.1; have h2 := hP.2.1; omega))) hlocs
        rw [e2, e3] at this
        have e4 := sm_top hP
        rw [e4]
        exact this
      · cases hs
    · cases hs
  | ldc idx =>
    simp only [sm_lenOk, beq_iff_eq] at hlen
    subst hlen
    simp only [sm_step] at hs
    split at hs
    · next n =>
      obtain ⟨rfl, rfl, rfl, rfl⟩ := sm_nx_inv hs
      exact lv_ldc hexec hb hown (hts _ hok) hd (k0 rfl LS hL)
    · next n =>
      obtain ⟨rfl, rfl, rfl, rfl⟩ := sm_nx_inv hs
      obtain ⟨tx, hm⟩ := hok
      exact va_ldcS hexec hb hown (hX.1 _ hm) hd (k0 rfl LS hL)
    · cases hs
  | ldc_w idx =>
    simp only [sm_lenOk, beq_iff_eq] at hlen
    subst hlen
    simp only [sm_step] at hs
    split at hs
    · next n =>
      obtain ⟨rfl, rfl, rfl, rfl⟩ := sm_nx_inv hs
      exact lv_ldcw hexec hb hown (hts _ hok) hd (k0 rfl LS hL)
    · cases hs
  | ldc2_w idx =>
    simp only [sm_lenOk, beq_iff_eq] at hlen
    subst hlen
    simp only [sm_step] at hs
    split at hs
    · next n =>
      obtain ⟨rfl, rfl, rfl, rfl⟩ := sm_nx_inv hs
      exact lv_ldc2 hexec hb hown (hts _ hok) hd (k0 rfl LS hL)
    · cases hs
  | ireturn =>
    simp only [sm_step] at hs
    split at hs
    · simp [sm_ret] at hs
    · cases hs
  | lreturn =>
    simp only [sm_step] at hs
    split at hs
    · simp [sm_ret] at hs
    · cases hs
  | areturn =>
    simp only [sm_step] at hs
    split at hs
    · simp [sm_ret] at hs
    · cases hs
  | return_ =>
    simp only [sm_step] at hs
    split at hs
    · simp [sm_ret] at hs
    · cases hs
  | invokestatic idx =>
    simp only [sm_lenOk, beq_iff_eq] at hlen
    subst hlen
    simp only [sm_step] at hs
    split at hs
    · next k0' k1 =>
      split at hs
      · next y x r =>
        split at hs
        · next hc =>
          obtain ⟨rfl, rfl, rfl, rfl⟩ := sm_nx_inv hs
          have hc2 : ((r.map (sm_mv (sm_ad N0 cs))).map fun v => v.category).sum ≤ 8 := by
            rw [List.map_map, show ((fun v : Value => v.category) ∘ sm_mv (sm_ad N0 cs)) = fun v : Value => v.category from funext fun v => sm_cat _ v]
            exact hc
          have hkk := k0 rfl LS hL
          rcases hok with ⟨rfl, g1, g2, g3, g4⟩ | ⟨rfl, g1, g2, g3, g4⟩
          · exact va_mmax hexec hb (by rw [hml]; exact hL.1.symm) hown (hts _ g1) (hts _ g2) (hts _ g3) (hts _ g4) hR1.1 (by omega) (by omega) (by omega) hd (by simpa [sm_mv] using hkk)
          · exact va_mmin hexec hb (by rw [hml]; exact hL.1.symm) hown (hts _ g1) (hts _ g2) (hts _ g3) (hts _ g4) hR1.1 (by omega) (by omega) (by omega) hd (by simpa [sm_mv] using hkk)
        · cases hs
      · cases hs
    · simp only [sm_callS] at hs
      split at hs
      · split at hs
        · simp [sm_call] at hs
        · cases hs
      · cases hs
  | invokespecial idx =>
    simp only [sm_lenOk, beq_iff_eq] at hlen
    subst hlen
    simp only [sm_step] at hs
    split at hs
    · next k1 =>
      split at hs
      · next a r =>
        split at hs
        · next hc =>
          obtain ⟨rfl, rfl, rfl, rfl⟩ := sm_nx_inv hs
          obtain ⟨g1, g2, g3⟩ := hok
          have hc2 : ((st'.map (sm_mv (sm_ad N0 cs))).map fun v => v.category).sum ≤ 8 := by
            rw [List.map_map, show ((fun v : Value => v.category) ∘ sm_mv (sm_ad N0 cs)) = fun v : Value => v.category from funext fun v => sm_cat _ v]
            exact hc
          exact W.objInit hexec hb hown (hts _ g1) (hts _ g2) (hts _ g3) rfl (by rw [hml]; exact hL.1) rfl hd hR1.1 (by show 2 * 0 + _ + 12 ≤ _; omega) (k0 rfl LS hL)
        · cases hs
      · cases hs
    · simp only [sm_callI] at hs
      split at hs
      · split at hs
        · simp [sm_call] at hs
        · cases hs
      · cases hs
  | invokevirtual idx =>
    simp only [sm_step, sm_callV] at hs
    split at hs
    · split at hs
      · split at hs
        · split at hs
          · simp [sm_call] at hs
          · cases hs
        · cases hs
      · cases hs
    · cases hs
  | _ => simp [sm_step] at hs
end SMN
end
section
/-! A RUN of the small machine is a run of the JVM -/
theorem sm_step_mono {q : sm_I} {pc pc' : Nat} {ls ls' : sm_L} {st st' : List Value} {h h' : sm_H} (hs : sm_step q pc ls st h = some (.inl (pc', ls', st', h'))) : h.length ≤ h'.length ∧ sm_sl h ≤ sm_sl h' := by
  have k0 : h' = h → h.length ≤ h'.length ∧ sm_sl h ≤ sm_sl h' := fun z => by subst z; exact ⟨Nat.le_refl _, Nat.le_refl _⟩
  obtain ⟨i, len, rs⟩ := q
  cases i with
  | iastore =>
    obtain ⟨x, i, a, n, f, rfl, ha, hi, hC, rfl, rfl, rfl⟩ := sm_ast_inv hs
    exact ⟨by rw [List.length_set]; exact Nat.le_refl _, Nat.le_of_eq (sm_sl_set (by simp [sm_sz]) h a ha).symm⟩
  | castore =>
    obtain ⟨x, i, a, n, f, rfl, ha, hi, hC, rfl, rfl, rfl⟩ := sm_ast_inv hs
    exact ⟨by rw [List.length_set]; exact Nat.le_refl _, Nat.le_of_eq (sm_sl_set (by simp [sm_sz]) h a ha).symm⟩
  | bastore =>
    obtain ⟨x, i, a, n, f, rfl, ha, hi, hC, rfl, rfl, rfl⟩ := sm_ast_inv hs
    exact ⟨by rw [List.length_set]; exact Nat.le_refl _, Nat.le_of_eq (sm_sl_set (by simp [sm_sz]) h a ha).symm⟩
  | lastore =>
    simp only [sm_step, sm_astL] at hs
    split at hs
    · split at hs
      · next ha =>
        split at hs
        · obtain ⟨rfl, rfl, rfl, rfl⟩ := sm_nx_inv hs
          exact ⟨by rw [List.length_set]; exact Nat.le_refl _, Nat.le_of_eq (sm_sl_set (by simp [sm_sz]) h _ ha).symm⟩
        · cases hs
      · cases hs
    · cases hs
  | putfield idx =>
    simp only [sm_step, sm_putf] at hs
    split at hs
    · split at hs
      · next ha =>
        split at hs
        · obtain ⟨rfl, rfl, rfl, rfl⟩ := sm_nx_inv hs
          exact ⟨by rw [List.length_set]; exact Nat.le_refl _, Nat.le_of_eq (sm_sl_set (by simp [sm_sz]) h _ ha).symm⟩
        · cases hs
      · cases hs
    · cases hs
  | new idx =>
    simp only [sm_step, sm_newo] at hs
    split at hs
    · split at hs
      · cases hs
      · obtain ⟨rfl, rfl, rfl, rfl⟩ := sm_nx_inv hs
        exact ⟨by simp, by rw [sm_sl_app]; exact Nat.le_add_right _ _⟩
    · cases hs
  | baload =>
    simp only [sm_step] at hs
    split at hs
    · next r0 hr0 =>
      cases hs
      obtain ⟨i, a, n, f, r, rfl, ha, hi, rfl, rfl, rfl, rfl⟩ := sm_ald_inv hr0
      exact ⟨Nat.le_refl _, Nat.le_refl _⟩
    · obtain ⟨i, a, n, f, r, rfl, ha, hi, rfl, rfl, rfl, rfl⟩ := sm_ald_inv hs
      exact ⟨Nat.le_refl _, Nat.le_refl _⟩
  | newarray idx =>
    simp only [sm_step, sm_newa] at hs
    split at hs
    · split at hs
      · obtain ⟨rfl, rfl, rfl, rfl⟩ := sm_nx_inv hs
        exact ⟨by simp, by rw [sm_sl_app]; exact Nat.le_add_right _ _⟩
      · cases hs
    · cases hs
  | _ =>
    refine k0 ?_
    simp only [sm_step, sm_bin, sm_binL, sm_loadK, sm_store1, sm_store2, sm_ald, sm_aldL, sm_getf, sm_callS, sm_callI, sm_callV, sm_if, sm_nx, sm_ret, sm_call, Option.bind] at hs
    repeat' split at hs
    all_goals first
      | (cases hs; done)
      | (simp at hs; exact hs.2.2.2.symm)
      | (simp at hs; done)
      | (cases hs; rfl)
theorem sm_run_mono {P : Nat → Option sm_M} : ∀ (n d m pc : Nat) (ls : sm_L) (st : List Value) (h : sm_H) (v : Option Value) (h' : sm_H), sm_run P n d m pc ls st h = some (v, h') → h.length ≤ h'.length ∧ sm_sl h ≤ sm_sl h' := by
  intro n
  induction n with
  | zero => intro d m pc ls st h v h' hr; simp [sm_run] at hr
  | succ n ih =>
    intro d m pc ls st h v h' hr
    unfold sm_run at hr
    split at hr
    · cases hr
    · next k tab hP =>
      split at hr
      · next q hq =>
        split at hr
        · next pc1 ls1 st1 h1 hs =>
          have h1 := sm_step_mono hs
          have h2 := ih _ _ _ _ _ _ _ _ hr
          exact ⟨Nat.le_trans h1.1 h2.1, Nat.le_trans h1.2 h2.2⟩
        · split at hr
          · cases hr; exact ⟨Nat.le_refl _, Nat.le_refl _⟩
          · cases hr
        · split at hr
          · split at hr
            · split at hr
              · next v1 h1 hc =>
                have g1 := ih _ _ _ _ _ _ _ _ hc
                have g2 := ih _ _ _ _ _ _ _ _ hr
                exact ⟨Nat.le_trans g1.1 g2.1, Nat.le_trans g1.2 g2.2⟩
              · cases hr
            · cases hr
          · cases hr
        · cases hr
      · cases hr
theorem sm_step_len {q : sm_I} {pc pc' : Nat} {ls ls' : sm_L} {st st' : List Value} {h h' : sm_H} (hs : sm_step q pc ls st h = some (.inl (pc', ls', st', h'))) : ls'.length = ls.length := by
  have k1 : ∀ {i : Nat} {v : Value} {l2 : sm_L}, sm_put1 ls i v = some l2 → l2.length = ls.length := fun hp => by
    obtain ⟨-, rfl⟩ := sm_put1_len hp
    rw [List.length_set, sm_kill_len]
  have k2 : ∀ {i : Nat} {v : Value} {l2 : sm_L}, sm_put2 ls i v = some l2 → l2.length = ls.length := fun hp => by
    obtain ⟨-, rfl⟩ := sm_put2_len hp
    rw [List.length_set, List.length_set, sm_kill_len]
  obtain ⟨i, len, rs⟩ := q
  cases i with
  | istore k => obtain ⟨v, rfl, hk, hp, rfl, rfl⟩ := sm_store1_inv hs; exact k1 hp
  | istore_n k => obtain ⟨v, rfl, hk, hp, rfl, rfl⟩ := sm_store1_inv hs; exact k1 hp
  | astore k => obtain ⟨v, rfl, hk, hp, rfl, rfl⟩ := sm_store1_inv hs; exact k1 hp
  | astore_n k => obtain ⟨v, rfl, hk, hp, rfl, rfl⟩ := sm_store1_inv hs; exact k1 hp
  | lstore k => obtain ⟨v, rfl, hp, rfl, rfl⟩ := sm_store2_inv hs; exact k2 hp
  | lstore_n k => obtain ⟨v, rfl, hp, rfl, rfl⟩ := sm_store2_inv hs; exact k2 hp
  | iinc k n =>
    simp only [sm_step] at hs
    split at hs
    · next x hx =>
      cases hp : sm_put1 ls k (.int (x + Int32.ofInt n)) with
      | none => rw [hp] at hs; cases hs
      | some l2 =>
        rw [hp] at hs
        obtain ⟨rfl, rfl, rfl, rfl⟩ := sm_nx_inv hs
        exact k1 hp
    · cases hs
  | baload =>
    simp only [sm_step] at hs
    split at hs
    · next r0 hr0 =>
      cases hs
      obtain ⟨i, a, n, f, r, rfl, ha, hi, rfl, rfl, rfl, rfl⟩ := sm_ald_inv hr0
      rfl
    · obtain ⟨i, a, n, f, r, rfl, ha, hi, rfl, rfl, rfl, rfl⟩ := sm_ald_inv hs
      rfl
  | _ =>
    refine congrArg List.length (?_ : ls' = ls)
    simp only [sm_step, sm_bin, sm_binL, sm_loadK, sm_ald, sm_aldL, sm_ast, sm_astL, sm_getf, sm_putf, sm_newo, sm_newa, sm_callS, sm_callI, sm_callV, sm_if, sm_nx, sm_ret, sm_call] at hs
    repeat' split at hs
    all_goals first
      | (cases hs; done)
      | (simp at hs; exact hs.2.1.symm)
      | (simp at hs; done)
      | (cases hs; rfl)
theorem sm_ret_inv {q : sm_I} {pc : Nat} {ls : sm_L} {st : List Value} {h : sm_H} {v : Option Value} (hs : sm_step q pc ls st h = some (.inr (.inl v))) :
    (q.1 = .ireturn ∧ ∃ x, st = [.int x] ∧ v = some (.int x)) ∨ (q.1 = .lreturn ∧ ∃ x, st = [.long x] ∧ v = some (.long x)) ∨ (q.1 = .areturn ∧ ∃ x, st = [.ref x] ∧ v = some (.ref x)) ∨ (q.1 = .return_ ∧ st = [] ∧ v = none) := by
  obtain ⟨i, len, rs⟩ := q
  cases i with
  | ireturn =>
    simp only [sm_step, sm_ret] at hs
    split at hs
    · next x => cases hs; exact Or.inl ⟨rfl, x, rfl, rfl⟩
    · cases hs
  | lreturn =>
    simp only [sm_step, sm_ret] at hs
    split at hs
    · next x => cases hs; exact Or.inr (Or.inl ⟨rfl, x, rfl, rfl⟩)
    · cases hs
  | areturn =>
    simp only [sm_step, sm_ret] at hs
    split at hs
    · next x => cases hs; exact Or.inr (Or.inr (Or.inl ⟨rfl, x, rfl, rfl⟩))
    · cases hs
  | return_ =>
    simp only [sm_step, sm_ret] at hs
    split at hs
    · cases hs; exact Or.inr (Or.inr (Or.inr ⟨rfl, rfl, rfl⟩))
    · cases hs
  | baload =>
    exfalso
    simp only [sm_step] at hs
    split at hs
    · next r0 hr0 =>
      cases hs
      simp only [sm_ald, sm_nx] at hr0
      repeat' split at hr0
      all_goals first | (cases hr0; done) | (simp at hr0; done)
    · simp only [sm_ald, sm_nx] at hs
      repeat' split at hs
      all_goals first | (cases hs; done) | (simp at hs; done)
  | _ =>
    exfalso
    simp only [sm_step, sm_bin, sm_binL, sm_loadK, sm_store1, sm_store2, sm_ald, sm_aldL, sm_ast, sm_astL, sm_getf, sm_putf, sm_newo, sm_newa, sm_callS, sm_callI, sm_callV, sm_if, sm_nx, sm_call, Option.bind] at hs
    repeat' split at hs
    all_goals first
      | (cases hs; done)
      | (simp at hs; done)
theorem sm_args_inv {n : Nat} {st as r : List Value} (h : sm_args n st = some (as, r)) : st = as.reverse ++ r ∧ as.length = n := by
  unfold sm_args at h
  split at h
  · next hl =>
    cases h
    refine ⟨by rw [List.reverse_reverse, List.take_append_drop], by simp; omega⟩
  · cases h
theorem sm_call_inv {q : sm_I} {pc : Nat} {ls : sm_L} {st : List Value} {h : sm_H} {m : Nat} {as r : List Value} (hs : sm_step q pc ls st h = some (.inr (.inr (m, as, r)))) :
    (∃ idx k n, q.1 = .invokestatic idx ∧ q.2.2 = [k, m, n] ∧ sm_args n st = some (as, r)) ∨ (∃ idx k n b bs, q.1 = .invokespecial idx ∧ q.2.2 = [k, m, n] ∧ sm_args n st = some (as, r) ∧ as = .ref b :: bs) ∨
    (∃ idx k n ps b bs ci fs, q.1 = .invokevirtual idx ∧ q.2.2 = k :: n :: ps ∧ sm_args (n + 1) st = some (as, r) ∧ as = .ref b :: bs ∧ h[b]? = some (.inr (ci, fs)) ∧ sm_pick ci ps = some m) := by
  obtain ⟨i, len, rs⟩ := q
  cases i with
  | invokestatic idx =>
    simp only [sm_step, sm_callS] at hs
    split at hs
    · split at hs
      · split at hs
        · simp [sm_nx] at hs
        · cases hs
      · cases hs
    · split at hs
      · next k m1 n _ =>
        split at hs
        · next as1 r1 ha =>
          simp only [sm_call] at hs
          cases hs
          exact Or.inl ⟨idx, k, n, rfl, rfl, ha⟩
        · cases hs
      · cases hs
  | invokespecial idx =>
    simp only [sm_step, sm_callI] at hs
    split at hs
    · split at hs
      · split at hs
        · simp [sm_nx] at hs
        · cases hs
      · cases hs
    · split at hs
      · next k m1 n _ =>
        split at hs
        · next b as1 r1 ha =>
          simp only [sm_call] at hs
          cases hs
          exact Or.inr (Or.inl ⟨idx, k, n, b, as1, rfl, rfl, ha, rfl⟩)
        · cases hs
      · cases hs
  | invokevirtual idx =>
    simp only [sm_step, sm_callV] at hs
    split at hs
    · next k n ps =>
      split at hs
      · next b as1 r1 ha =>
        split at hs
        · next ci fs hb =>
          split at hs
          · next m1 hp =>
            simp only [sm_call] at hs
            cases hs
            exact Or.inr (Or.inr ⟨idx, k, n, ps, b, as1, ci, fs, rfl, rfl, ha, rfl, hb, hp⟩)
          · cases hs
        · cases hs
      · cases hs
    · cases hs
  | baload =>
    exfalso
    simp only [sm_step] at hs
    split at hs
    · next r0 hr0 =>
      cases hs
      simp only [sm_ald, sm_nx] at hr0
      repeat' split at hr0
      all_goals first | (cases hr0; done) | (simp at hr0; done)
    · simp only [sm_ald, sm_nx] at hs
      repeat' split at hs
      all_goals first | (cases hs; done) | (simp at hs; done)
  | _ =>
    exfalso
    simp only [sm_step, sm_bin, sm_binL, sm_loadK, sm_store1, sm_store2, sm_ald, sm_aldL, sm_ast, sm_astL, sm_getf, sm_putf, sm_newo, sm_newa, sm_if, sm_nx, sm_ret, Option.bind] at hs
    repeat' split at hs
    all_goals first
      | (cases hs; done)
      | (simp at hs; done)
end
section
/-! SOUNDNESS: contracts out of runs. -/
/-- a method's name, bytes, kind of answer -/
abbrev sm_Y : Type := MethodName × ByteArray × Option FieldType
def sm_room (d mc ms : Nat) : Room := { frames := d + 1, cells := mc, slots := ms, locals := 64 * d + 24 }
def sm_par (d : String) : Option Nat := (parseMethodDescriptor d).map (fun z => z.parameters.length)
def sm_nmh (c : String) : Prop := c ≠ "java/lang/invoke/MethodHandle" ∧ c ≠ "java/lang/invoke/VarHandle"
/-- what the tables must hold of a call -/
def sm_okC (Ts : List Cond) (oc : (List (Nat × Nat × String × String × String × Value) × List (String × Nat × MethodName × String))) (cl : List vw_C) (Y : Nat → sm_Y) (own : String) (i : Instr) (rs : List Nat) : Prop := match i, rs with
  | .invokestatic idx, [_, mi, n] => Cond.static (Y mi).1 ∈ Ts ∧ Cond.initialized (Y mi).1.cls ∈ Ts ∧ sm_par (Y mi).1.desc = some n ∧ (Cond.methodLink own idx (Y mi).1 ∈ Ts ∨ ∃ host, (own, idx, (Y mi).1, host) ∈ oc.2)
  | .invokespecial idx, [_, mi, n] => (Y mi).1.name = "<init>" ∧ (Y mi).2.2 = none ∧ Cond.instanceMethod (Y mi).1 ∈ Ts ∧ Cond.initialized (Y mi).1.cls ∈ Ts ∧ (∃ k, n = k + 1 ∧ sm_par (Y mi).1.desc = some k) ∧ (Cond.methodLink own idx (Y mi).1 ∈ Ts ∨ ∃ host, (own, idx, (Y mi).1, host) ∈ oc.2)
  | .invokevirtual idx, _ :: n :: ps => ∀ ci mi, sm_pick ci ps = some mi → ∃ (C : String) (T : u_T) (N : Nat), cl[ci]? = some (C, T, N) ∧ Cond.instanceMethod (Y mi).1 ∈ Ts ∧ Cond.initialized (Y mi).1.cls ∈ Ts ∧
      ((Cond.methodLink own idx (Y mi).1 ∈ Ts ∧ Cond.selects C (Y mi).1 (Y mi).1 ∈ Ts ∧ sm_par (Y mi).1.desc = some n) ∨
       (∃ host, (own, idx, (Y mi).1, host) ∈ oc.2 ∧ Cond.selects C (Y mi).1 (Y mi).1 ∈ Ts ∧ sm_par (Y mi).1.desc = some n) ∨
       (∃ (x : MethodName) (owner : String), Cond.methodLink own idx x ∈ Ts ∧ Cond.sameMethod x.cls owner x.name x.desc ∈ Ts ∧ sm_nmh owner ∧ Cond.selects C x (Y mi).1 ∈ Ts ∧ sm_par x.desc = some n ∧
         (Cond.declares ⟨owner, x.name, x.desc⟩ ∈ Ts ∨ (Cond.instanceMethod ⟨owner, x.name, x.desc⟩ ∈ Ts ∧ ∃ b m r, Cond.code ⟨owner, x.name, x.desc⟩ b m r ∈ Ts))))
  | _, _ => True
/-- kinds of answers -/
def sm_rk (k : Nat) (ret : Option FieldType) : Prop := (k = 0 ∧ ret = none) ∨ (k = 1 ∧ ret = some .int) ∨ (k = 2 ∧ ret = some .long) ∨ (k = 3 ∧ ((∃ n, ret = some (.object n)) ∨ ∃ n, ret = some (.array n))) ∨ (k = 4 ∧ ret = some .boolean) ∨ (k = 5 ∧ ret = some .char) ∨ (k = 6 ∧ ret = some .byte)
/-- the tables are right of a method -/
def sm_okM (Ts : List Cond) (sx : List (String × Nat × String × Nat)) (zx : List (String × String × String × Nat)) (oc : (List (Nat × Nat × String × String × String × Value) × List (String × Nat × MethodName × String))) (K : sm_H) (cl : List vw_C) (Y : Nat → sm_Y) (mi : Nat) (M : sm_M) : Prop :=
  Cond.code (Y mi).1 (Y mi).2.1 M.1 (Y mi).2.2 ∈ Ts ∧ plainName (Y mi).1.cls = true ∧ sm_nmh (Y mi).1.cls ∧ M.1 ≤ 45 ∧ sm_rk M.2.1 (Y mi).2.2 ∧
  ∀ (pc : Nat) (q : sm_I), M.2.2[pc]? = some (some q) → decode (Y mi).2.1 pc = .ok (q.1, q.2.1) ∧ sm_lenOk q.1 q.2.1 = true ∧ sm_okI Ts sx zx oc K cl (Y mi).1.cls (Y mi).1.name pc q.1 q.2.2 ∧ sm_okC Ts oc cl Y (Y mi).1.cls q.1 q.2.2
def sm_Good (Ts : List Cond) (sx : List (String × Nat × String × Nat)) (zx : List (String × String × String × Nat)) (oc : (List (Nat × Nat × String × String × String × Value) × List (String × Nat × MethodName × String))) (K : sm_H) (cl : List vw_C) (Y : Nat → sm_Y) (P : Nat → Option sm_M) : Prop := ∀ mi M, P mi = some M → sm_okM Ts sx zx oc K cl Y mi M
def sm_Pc (D : va_G) (cl : List vw_C) (tys : List (ClassId × FieldType)) (sx : List (String × Nat × String × Nat)) (zx : List (String × String × String × Nat)) (oc : (List (Nat × Nat × String × String × String × Value) × List (String × Nat × MethodName × String))) (K : sm_H) (N0 : Nat) (cs : Nat → Nat) (as : List Value) (h : sm_H) : Array Value → State → Prop :=
  fun v U => v = (as.map (sm_mv (sm_ad N0 cs))).toArray ∧ sm_P D cl tys N0 cs K h U.heap ∧ va_K D cl tys U ∧ sm_X sx zx oc N0 cs U
def sm_Qc (D : va_G) (cl : List vw_C) (tys : List (ClassId × FieldType)) (N0 : Nat) (cs : Nat → Nat) (K : sm_H) (v : Option Value) (h : sm_H) : Array Value → State → Outcome → State → Prop :=
  fun _ st o t => o = .returned (v.map (sm_mv (sm_ad N0 cs))) ∧ sm_P D cl tys N0 cs K h t.heap ∧ ∀ q, q < N0 → t.heap[q]? = st.heap[q]?
theorem sm_blind {D : va_G} {cl : List vw_C} {tys : List (ClassId × FieldType)} {sx : List (String × Nat × String × Nat)} {zx : List (String × String × String × Nat)} {oc : (List (Nat × Nat × String × String × String × Value) × List (String × Nat × MethodName × String))} {K : sm_H} {N0 : Nat} {cs : Nat → Nat} {as : List Value} {h : sm_H} : FrameBlind (sm_Pc D cl tys sx zx oc K N0 cs as h) := by
  intro a U g mk q
  obtain ⟨h1, h2, h3, h4⟩ := q
  exact ⟨h1, h2, va_K.moved (u := U) (U := U.calling g mk a) (Vm.Alike.refl U.vm) h3, ⟨fun z hz => vk_R.same rfl (h4.1 z hz), fun z hz => va_Z.moved (u := U) (U := U.calling g mk a) (Vm.Alike.refl U.vm) (h4.2.1 z hz), fun z hz => va_OF.moved (u := U) (U := U.calling g mk a) (Vm.Alike.refl U.vm) (h4.2.2.1 z hz), fun z hz => va_Nw.same rfl rfl (h4.2.2.2 z hz)⟩⟩
/-- what was there before is there at a call -/
theorem sm_X.at_ {sx : List (String × Nat × String × Nat)} {zx : List (String × String × String × Nat)} {oc : (List (Nat × Nat × String × String × String × Value) × List (String × Nat × MethodName × String))} {N0 : Nat} {cs : Nat → Nat} {s U : State} (hX : sm_X sx zx oc N0 cs s) (hW : s.WarmedH U.vm) (hF : ∀ q, q < N0 → U.heap[q]? = s.heap[q]?) : sm_X sx zx oc N0 cs U :=
  ⟨fun z hz => vk_R.warm hW (hX.1 z hz), fun z hz => va_Z.moved hW.alike ((hX.2.1 z hz).kept (fun a _ h2 => hF a (Nat.not_le.mp h2))), fun z hz => va_OF.moved hW.alike ((hX.2.2.1 z hz).kept (fun a _ h2 => hF a (Nat.not_le.mp h2))), fun z hz => va_Nw.warmM hW (hX.2.2.2 z hz)⟩
section SMS
variable {p : Program} {l : Launch} {e : Env} {R : Room} {s : State} {m : MethodId} {args : Array Value} {below : List Frame} {meth : Method} {c : Code} {H : Heap} {locs : List Loc} {cells slots : Nat} {Q : State → Prop}
variable {D : va_G} {cl : List vw_C} {tys : List (ClassId × FieldType)} {N0 : Nat} {cs : Nat → Nat} {K h1 : sm_H} {pc : Nat} {LS : Array Slot} {rest st0 : List Value} {mc ms : Nat} {a : Array Value} {v : Option Value}
/-- behind a call -/
theorem sm_after (hr : va_Run p l e R s m args below meth c H locs cells slots mc ms (F0 m pc LS st0) rest (sm_Qc D cl tys N0 cs K v h1 a) (fun q => N0 ≤ q)) (hlocs : ∀ x ∈ locs, N0 ≤ x.base)
    (kk : ∀ (H1 : Heap) (locs1 : List Loc), sm_P D cl tys N0 cs K h1 H1 → (∀ q, q < N0 → H1[q]? = H[q]?) → (∀ x ∈ locs1, N0 ≤ x.base) → W p l e R s m args below meth c H1 locs1 (cells + mc) (slots + ms) Q (F0 m (pc + 3) LS ((v.map (sm_mv (sm_ad N0 cs))).toList ++ rest))) :
    W p l e R s m args below meth c H locs cells slots Q (F0 m pc LS st0) := by
  intro T hT X
  obtain ⟨v', st₀, t, T', L, h0, X', hL, e1, e2, ⟨hv, hp, hk⟩, st⟩ := hr T hT X
  cases hv
  rw [h0] at hk
  rw [← e1] at hp hk
  obtain ⟨t2, a1, b1⟩ := kk T'.heap (locs ++ L) hp hk (fun x hx => (List.mem_append.mp hx).elim (hlocs x) (hL x)) T' rfl X'
  exact ⟨t2, st t2 a1, b1⟩
end SMS
end
section
/-! THE SOUNDNESS THEOREM -/
section SMM
variable {l : Launch} {D : va_G} {cl : List vw_C} {tys : List (ClassId × FieldType)} {N0 : Nat} {cs : Nat → Nat} {Ts : List Cond} {sx : List (String × Nat × String × Nat)} {zx : List (String × String × String × Nat)} {oc : (List (Nat × Nat × String × String × String × Value) × List (String × Nat × MethodName × String))} {K : sm_H} {Y : Nat → sm_Y} {P : Nat → Option sm_M}
/-- a run from any place of a method leads the JVM to the method's end -/
def sm_Cl (l : Launch) (D : va_G) (cl : List vw_C) (tys : List (ClassId × FieldType)) (N0 : Nat) (cs : Nat → Nat) (Ts : List Cond) (sx : List (String × Nat × String × Nat)) (zx : List (String × String × String × Nat)) (oc : (List (Nat × Nat × String × String × String × Value) × List (String × Nat × MethodName × String))) (K : sm_H) (Y : Nat → sm_Y) (P : Nat → Option sm_M) (n : Nat) : Prop :=
  ∀ (d mi pc : Nat) (ls : sm_L) (st : List Value) (h : sm_H) (v : Option Value) (h' : sm_H) (M : sm_M), P mi = some M → sm_run P n d mi pc ls st h = some (v, h') → ls.length = M.1 →
  ∀ (p : Program) (e : Env) (s : State) (m : MethodId) (args : Array Value) (below : List Frame) (meth : Method) (c : Code) (H : Heap) (locs : List Loc) (LS : Array Slot) (h0 : sm_H), p.tables.exec = Jvm.exec → c.code = (Y mi).2.1 → meth.sig.returnType = (Y mi).2.2 → c.maxLocals = M.1 → s.vm.findClass (Y mi).1.cls = some m.cls → meth.name = (Y mi).1.name → (∀ w ∈ Ts, w.before args s = true) → meth.locks = false → va_K D cl tys s → sm_X sx zx oc N0 cs s →
    sm_P D cl tys N0 cs K h H → sm_LR (sm_ad N0 cs) ls LS → (∀ q, q < N0 → H[q]? = s.heap[q]?) → s.heap.size ≤ H.size → (∀ x ∈ locs, N0 ≤ x.base) → h0.length ≤ h.length → sm_sl h0 ≤ sm_sl h →
    W p l e (sm_room d (h'.length - h0.length) (sm_sl h' - sm_sl h0)) s m args below meth c H locs (h.length - h0.length) (sm_sl h - sm_sl h0) (MQ below (sm_Qc D cl tys N0 cs K v h') args s (h'.length - h0.length) (sm_sl h' - sm_sl h0) (fun q => N0 ≤ q)) (F0 m pc LS (st.map (sm_mv (sm_ad N0 cs))))
/-- a contract out of a run from the start -/
theorem sm_metof {n : Nat} (hC : sm_Cl l D cl tys N0 cs Ts sx zx oc K Y P n) (hG : sm_Good Ts sx zx oc K cl Y P) {d mi : Nat} {M : sm_M} {as : List Value} {h h' : sm_H} {v : Option Value} (hM : P mi = some M) (hr : sm_run P n d mi 0 (sm_entry M.1 as) [] h = some (v, h')) (hl : (sm_slots as).length ≤ M.1) :
    Met l (Y mi).1 (Cond.code (Y mi).1 (Y mi).2.1 M.1 (Y mi).2.2 :: Ts) (sm_room d (h'.length - h.length) (sm_sl h' - sm_sl h)) (sm_Pc D cl tys sx zx oc K N0 cs as h) (sm_Qc D cl tys N0 cs K v h') (h'.length - h.length) (sm_sl h' - sm_sl h) (fun q => N0 ≤ q) := by
  obtain ⟨-, g2, -⟩ := hG mi M hM
  refine Met.ofW (cc := (Y mi).2.1) (maxL := M.1) (ret := (Y mi).2.2) g2 rfl ?_
  intro p e s m args below meth c s₁ B hml hv
  obtain ⟨rfl, hP, hK, hS⟩ := hv
  have hts := atoms_spec (ws := Cond.code (Y mi).1 (Y mi).2.1 M.1 (Y mi).2.2 :: Ts) B.pre
  rw [lg_entry_eq]
  have := hC d mi 0 (sm_entry M.1 as) [] h v h' M hM hr (by simp [sm_entry]; omega) p e s m _ below meth c s.heap [] _ h B.exec B.bytes B.returns hml (findClass_of_methodNamed B.named) (name_of_methodNamed B.named B.method).1 (fun w hw => hts w (List.mem_cons_of_mem _ hw)) B.notSynchronized hK hS hP (sm_entry_LR hl) (fun _ _ => rfl) (Nat.le_refl _) (fun x hx => by cases hx) (Nat.le_refl _) (Nat.le_refl _)
  rw [Nat.sub_self, Nat.sub_self] at this
  exact this
theorem sm_goodIn (hgw : ∀ w ∈ Ts, goodWord w = true) {w0 : Cond} (h0 : w0 ∈ Ts) : GoodIn Ts (w0 :: Ts) := fun w hw => by
  have hm : w ∈ Ts := (List.mem_cons.mp hw).elim (fun z => z ▸ h0) id
  exact ⟨hm, good_of_word (hgw w hm)⟩
theorem sm_back_eq {ad : Nat → Nat} {v : Option Value} {r : List Value} : (sm_back v r).map (sm_mv ad) = (v.map (sm_mv ad)).toList ++ r.map (sm_mv ad) := by
  cases v <;> rfl
theorem sm_catsum {ad : Nat → Nat} {r : List Value} (h : (r.map fun v => v.category).sum ≤ 8) : 2 * 0 + ((r.map (sm_mv ad)).map fun v => v.category).sum ≤ 8 := by
  rw [List.map_map, show ((fun v : Value => v.category) ∘ sm_mv ad) = fun v : Value => v.category from funext fun v => sm_cat _ v]
  omega
set_option maxHeartbeats 4000000 in
theorem sm_sound (hG : sm_Good Ts sx zx oc K cl Y P) (hgw : ∀ w ∈ Ts, goodWord w = true) (hT : sm_T tys) : ∀ n, sm_Cl l D cl tys N0 cs Ts sx zx oc K Y P n := by
  intro n
  induction n with
  | zero => intro d mi pc ls st h v h' M hM hr; simp [sm_run] at hr
  | succ n ih =>
    intro d mi pc ls st h v h' M hM hr hlen p e s m args below meth c H locs LS h0 hx hb hrt hml hown hmn hts hlocks hK hS hP hL hF hZ0 hlocs hz1 hz2
    obtain ⟨g1, g2, g3, g4, g5, g6⟩ := hG mi M hM
    obtain ⟨nl, kr, tab⟩ := M
    have hmono := sm_run_mono _ _ _ _ _ _ _ _ _ hr
    unfold sm_run at hr
    rw [hM] at hr
    dsimp only at hr hlen hml g1 g4 g5 g6
    split at hr
    · next q hq =>
      obtain ⟨d1, d2, d3, d4⟩ := g6 pc q hq
      obtain ⟨i, len, rs⟩ := q
      dsimp only at d1 d2 d3 d4
      split at hr
      · next pc1 ls1 st1 h1 hs =>
        have hm1 := sm_step_mono hs
        have hm2 := sm_run_mono _ _ _ _ _ _ _ _ _ hr
        refine sm_next (h' := h1) hx hb hts hown hK hT hS hF hZ0 (by rw [hmn]; exact d3) d2 d1 hP hL hlocs ⟨by show 1 ≤ d + 1; omega, by show 21 ≤ 64 * d + 24; omega⟩ (by rw [hml, hlen]) ⟨by show _ ≤ h'.length - h0.length; omega, by show _ ≤ sm_sl h' - sm_sl h0; omega⟩ hs ?_
        intro H' locs' LS' hP' hL' hF' hlocs'
        have e1 : h.length - h0.length + (h1.length - h.length) = h1.length - h0.length := by omega
        have e2 : sm_sl h - sm_sl h0 + (sm_sl h1 - sm_sl h) = sm_sl h1 - sm_sl h0 := by omega
        rw [e1, e2]
        exact ih d mi pc1 ls1 st1 h1 v h' _ hM hr (by rw [sm_step_len hs]; exact hlen) p e s m args below meth c H' locs' LS' h0 hx hb hrt hml hown hmn hts hlocks hK hS hP' hL' (fun q hq => (hF' q hq).trans (hF q hq)) (by have z1 := hP.1; have z2 := hP'.1; omega) hlocs' (by omega) (by omega)
      · next v1 hs =>
        split at hr
        · next hkr =>
          cases hr
          have hQQ : ∀ (o : Option Value) (t : State), o = v.map (sm_mv (sm_ad N0 cs)) → t.heap = H → sm_Qc D cl tys N0 cs K v h args s (.returned o) t := fun o t ho ht => ⟨by rw [ho], by rw [ht]; exact hP, fun q hq => by rw [ht]; exact hF q hq⟩
          rcases sm_ret_inv hs with ⟨rfl, x, rfl, rfl⟩ | ⟨rfl, x, rfl, rfl⟩ | ⟨rfl, x, rfl, rfl⟩ | ⟨rfl, rfl, rfl⟩
          · simp only [sm_lenOk, beq_iff_eq] at d2
            subst d2
            rcases g5 with ⟨rfl, -⟩ | ⟨rfl, h5⟩ | ⟨rfl, -⟩ | ⟨rfl, -⟩ | ⟨rfl, h5⟩ | ⟨rfl, h5⟩ | ⟨rfl, h5⟩
            · simp [sm_okret] at hkr
            · exact W.iret hx hb (hrt.trans h5) (fun t ht _ => hQQ _ t rfl ht) hlocs d1 (hlocks := hlocks)
            · simp [sm_okret] at hkr
            · simp [sm_okret] at hkr
            · exact W.zret hx hb (hrt.trans h5) (sm_fit_ok (ad := id) (t := 3) (v := .int x) (by simpa [sm_okret, sm_fit] using hkr) (Or.inr (Or.inr (Or.inr (Or.inl ⟨rfl, rfl⟩))))).1 (fun t ht _ => hQQ _ t rfl ht) hlocs d1 (hlocks := hlocks)
            · exact W.zret hx hb (hrt.trans h5) (sm_fit_ok (ad := id) (t := 4) (v := .int x) (by simpa [sm_okret, sm_fit] using hkr) (Or.inr (Or.inr (Or.inr (Or.inr ⟨rfl, rfl⟩))))).1 (fun t ht _ => hQQ _ t rfl ht) hlocs d1 (hlocks := hlocks)
            · have hb2 : x = 0 ∨ x = 1 := by simpa [sm_okret] using hkr
              exact W.zret hx hb (hrt.trans h5) (by rcases hb2 with rfl | rfl <;> rfl) (fun t ht _ => hQQ _ t rfl ht) hlocs d1 (hlocks := hlocks)
          · simp only [sm_lenOk, beq_iff_eq] at d2
            subst d2
            rcases g5 with ⟨rfl, -⟩ | ⟨rfl, -⟩ | ⟨rfl, h5⟩ | ⟨rfl, -⟩ | ⟨rfl, -⟩ | ⟨rfl, -⟩ | ⟨rfl, h5⟩
            · simp [sm_okret] at hkr
            · simp [sm_okret] at hkr
            · exact W.lret hx hb (hrt.trans h5) (fun t ht _ => hQQ _ t rfl ht) hlocs d1 (hlocks := hlocks)
            · simp [sm_okret] at hkr
            · simp [sm_okret] at hkr
            · simp [sm_okret] at hkr
            · simp [sm_okret] at hkr
          · simp only [sm_lenOk, beq_iff_eq] at d2
            subst d2
            rcases g5 with ⟨rfl, -⟩ | ⟨rfl, -⟩ | ⟨rfl, -⟩ | ⟨rfl, h5⟩ | ⟨rfl, -⟩ | ⟨rfl, -⟩ | ⟨rfl, h5⟩
            · simp [sm_okret] at hkr
            · simp [sm_okret] at hkr
            · simp [sm_okret] at hkr
            · rcases h5 with ⟨nm, h5⟩ | ⟨nm, h5⟩
              · exact W.aret hx hb (hrt.trans h5) (Or.inl ⟨_, rfl⟩) (Or.inr ⟨_, rfl⟩) (fun t ht _ => hQQ _ t rfl ht) hlocs d1 (hlocks := hlocks)
              · exact W.aret hx hb (hrt.trans h5) (Or.inr ⟨_, rfl⟩) (Or.inr ⟨_, rfl⟩) (fun t ht _ => hQQ _ t rfl ht) hlocs d1 (hlocks := hlocks)
            · simp [sm_okret] at hkr
            · simp [sm_okret] at hkr
            · simp [sm_okret] at hkr
          · simp only [sm_lenOk, beq_iff_eq] at d2
            subst d2
            rcases g5 with ⟨rfl, h5⟩ | ⟨rfl, -⟩ | ⟨rfl, -⟩ | ⟨rfl, -⟩ | ⟨rfl, -⟩ | ⟨rfl, -⟩ | ⟨rfl, h5⟩
            · exact W.vret hx hb (hrt.trans h5) (fun t ht _ => hQQ _ t rfl ht) hlocs d1 (hlocks := hlocks)
            · simp [sm_okret] at hkr
            · simp [sm_okret] at hkr
            · simp [sm_okret] at hkr
            · simp [sm_okret] at hkr
            · simp [sm_okret] at hkr
            · simp [sm_okret] at hkr
        · cases hr
      · next m1 as r hs =>
        split at hr
        · next d1' nl1 k1 tab1 hM1 =>
          split at hr
          · next hc =>
            obtain ⟨hc1, hc2⟩ := hc
            split at hr
            · next v1 h1 hcall =>
              have hm1 := sm_run_mono _ _ _ _ _ _ _ _ _ hcall
              have hm2 := sm_run_mono _ _ _ _ _ _ _ _ _ hr
              obtain ⟨q1, q2, q3, q4, -, -⟩ := hG m1 _ hM1
              dsimp only at q1 q4
              have hMet := sm_metof (as := as) ih hG hM1 hcall hc1
              have hgi := sm_goodIn hgw q1
              have hfits : h.length - h0.length + (h1.length - h.length) ≤ (sm_room (d1' + 1) (h'.length - h0.length) (sm_sl h' - sm_sl h0)).cells ∧ sm_sl h - sm_sl h0 + (sm_sl h1 - sm_sl h) ≤ (sm_room (d1' + 1) (h'.length - h0.length) (sm_sl h' - sm_sl h0)).slots := ⟨by show _ ≤ h'.length - h0.length; omega, by show _ ≤ sm_sl h' - sm_sl h0; omega⟩
              have hroom : (sm_room d1' (h1.length - h.length) (sm_sl h1 - sm_sl h)).frames + 1 ≤ (sm_room (d1' + 1) (h'.length - h0.length) (sm_sl h' - sm_sl h0)).frames ∧ 8 + (nl1 + 11) + (sm_room d1' (h1.length - h.length) (sm_sl h1 - sm_sl h)).locals ≤ (sm_room (d1' + 1) (h'.length - h0.length) (sm_sl h' - sm_sl h0)).locals := ⟨by show d1' + 1 + 1 ≤ d1' + 1 + 1; omega, by show 8 + (nl1 + 11) + (64 * d1' + 24) ≤ 64 * (d1' + 1) + 24; omega⟩
              have hpre : ∀ U : State, U.heap = H → s.WarmedH U.vm → sm_Pc D cl tys sx zx oc K N0 cs as h (as.map (sm_mv (sm_ad N0 cs))).toArray U := fun U hU hW => ⟨rfl, by rw [hU]; exact hP, va_K.moved hW.alike hK, hS.at_ hW (fun q hq => by rw [hU]; exact hF q hq)⟩
              have hfix : CallFix p m c (Y mi).2.1 nl s args Ts (Y mi).1.cls := ⟨hx, hb, hml, hown, hts⟩
              have hsz : LS.size = nl := hL.1.trans hlen
              have goOn : ∀ (a : Array Value), va_Run p l e (sm_room (d1' + 1) (h'.length - h0.length) (sm_sl h' - sm_sl h0)) s m args below meth c H locs (h.length - h0.length) (sm_sl h - sm_sl h0) (h1.length - h.length) (sm_sl h1 - sm_sl h) (F0 m pc LS (st.map (sm_mv (sm_ad N0 cs)))) (r.map (sm_mv (sm_ad N0 cs))) (sm_Qc D cl tys N0 cs K v1 h1 a) (fun q => N0 ≤ q) →
                  W p l e (sm_room (d1' + 1) (h'.length - h0.length) (sm_sl h' - sm_sl h0)) s m args below meth c H locs (h.length - h0.length) (sm_sl h - sm_sl h0) (MQ below (sm_Qc D cl tys N0 cs K v h') args s (h'.length - h0.length) (sm_sl h' - sm_sl h0) (fun q => N0 ≤ q)) (F0 m pc LS (st.map (sm_mv (sm_ad N0 cs)))) := by
                intro a hrun
                refine sm_after hrun hlocs fun H1 locs1 hP1 hF1 hl1 => ?_
                have e1 : h.length - h0.length + (h1.length - h.length) = h1.length - h0.length := by omega
                have e2 : sm_sl h - sm_sl h0 + (sm_sl h1 - sm_sl h) = sm_sl h1 - sm_sl h0 := by omega
                rw [e1, e2, ← sm_back_eq]
                exact ih (d1' + 1) mi (pc + 3) ls (sm_back v1 r) h1 v h' _ hM hr hlen p e s m args below meth c H1 locs1 LS h0 hx hb hrt hml hown hmn hts hlocks hK hS hP1 hL (fun q hq => (hF1 q hq).trans (hF q hq)) (by have z1 := hP.1; have z2 := hP1.1; omega) hl1 (by omega) (by omega)
              rcases sm_call_inv hs with ⟨idx, k, n1, rfl, rfl, ha⟩ | ⟨idx, k, n1, b, bs, rfl, rfl, ha, rfl⟩ | ⟨idx, k, n1, ps, b, bs, ci, fs, rfl, rfl, ha, rfl, hbc, hpk⟩
              · simp only [sm_lenOk, beq_iff_eq] at d2
                subst d2
                obtain ⟨w1, w2, w3, w4⟩ := d4
                obtain ⟨ea, el⟩ := sm_args_inv ha
                have hst : (st.map (sm_mv (sm_ad N0 cs))) = (as.map (sm_mv (sm_ad N0 cs))).reverse ++ r.map (sm_mv (sm_ad N0 cs)) := by rw [ea, List.map_append, List.map_reverse]
                rcases w4 with w4 | ⟨host, w4⟩
                · exact goOn _ (va_runS (As := as.map (sm_mv (sm_ad N0 cs))) hfix hMet ⟨callB_of n1 hts hgi rfl rfl rfl (hts _ w2) (hts _ w4) ⟨q3.1, q3.2, w3⟩ hroom, hts _ w1⟩ ⟨sm_blind, hpre⟩ rfl (by rw [List.length_map]; exact el) hsz hst (sm_catsum hc2) d1 hfits)
                · exact goOn _ (va_runSN (As := as.map (sm_mv (sm_ad N0 cs))) hfix hMet ⟨va_cnB n1 hts hgi rfl rfl rfl (hS.2.2.2 _ w4) (hts _ w2) ⟨q3.1, q3.2, w3⟩ hroom, hts _ w1, trivial⟩ ⟨sm_blind, hpre⟩ rfl (by rw [List.length_map]; exact el) hsz hst (sm_catsum hc2) d1 hfits)
              · simp only [sm_lenOk, beq_iff_eq] at d2
                subst d2
                obtain ⟨w0, w1, w2, w3, ⟨k2, rfl, w4⟩, w5⟩ := d4
                obtain ⟨ea, el⟩ := sm_args_inv ha
                have hst : (st.map (sm_mv (sm_ad N0 cs))) = (bs.map (sm_mv (sm_ad N0 cs))).reverse ++ .ref (sm_ad N0 cs b) :: r.map (sm_mv (sm_ad N0 cs)) := by rw [ea]; simp [sm_mv]
                rw [w1] at hMet hgi
                rcases w5 with w5 | ⟨host, w5⟩
                · exact goOn _ (va_runI (As := bs.map (sm_mv (sm_ad N0 cs))) hfix hMet ⟨callB_of k2 hts hgi rfl rfl rfl (hts _ w3) (hts _ w5) ⟨q3.1, q3.2, w4⟩ hroom, w0, hts _ w2⟩ ⟨sm_blind, hpre⟩ rfl (by rw [List.length_map]; simpa using el) hsz hst (sm_catsum hc2) d1 hfits)
                · exact goOn _ (va_runIN (As := bs.map (sm_mv (sm_ad N0 cs))) hfix hMet ⟨va_cnB k2 hts hgi rfl rfl rfl (hS.2.2.2 _ w5) (hts _ w3) ⟨q3.1, q3.2, w4⟩ hroom, w0, hts _ w2⟩ ⟨sm_blind, hpre⟩ rfl (by rw [List.length_map]; simpa using el) hsz hst (sm_catsum hc2) d1 hfits)
              · simp only [sm_lenOk, beq_iff_eq] at d2
                subst d2
                obtain ⟨C, T, N, w1, w2, w3, w4⟩ := d4 ci m1 hpk
                obtain ⟨ea, el⟩ := sm_args_inv ha
                have hst : (st.map (sm_mv (sm_ad N0 cs))) = (bs.map (sm_mv (sm_ad N0 cs))).reverse ++ .ref (sm_ad N0 cs b) :: r.map (sm_mv (sm_ad N0 cs)) := by rw [ea]; simp [sm_mv]
                have hrc := va_recv hK (sm_P1 (sm_obj hP hbc)) (q0 := 0) w1 rfl
                have hel : (bs.map (sm_mv (sm_ad N0 cs))).length = n1 := by rw [List.length_map]; simpa using el
                rcases w4 with ⟨u1, u2, u3⟩ | ⟨host, u1, u2, u3⟩ | ⟨x, owner, u1, u2, u3, u4, u5, u6⟩
                · exact goOn _ (va_runV (C := C) (As := bs.map (sm_mv (sm_ad N0 cs))) hfix hMet ⟨callB_of n1 hts hgi rfl rfl rfl (hts _ w3) (hts _ u1) ⟨q3.1, q3.2, u3⟩ hroom, hts _ w2, hts _ u2⟩ ⟨sm_blind, hrc, hpre⟩ rfl hel hsz hst (sm_catsum hc2) d1 hfits)
                · exact goOn _ (va_runVN (C := C) (As := bs.map (sm_mv (sm_ad N0 cs))) hfix hMet ⟨va_cnB n1 hts hgi rfl rfl rfl (hS.2.2.2 _ u1) (hts _ w3) ⟨q3.1, q3.2, u3⟩ hroom, hts _ w2, hts _ u2⟩ ⟨sm_blind, hrc, hpre⟩ rfl hel hsz hst (sm_catsum hc2) d1 hfits)
                · have hdecl : va_Decl s ⟨owner, x.name, x.desc⟩ := by
                    rcases u6 with u6 | ⟨u6, b0, m0, r0, u7⟩
                    · exact va_Decl.abs (va_Nw.of rfl (hts _ u6))
                    · exact va_Decl.of (hts _ u6) (hts _ u7)
                  exact goOn _ (va_runU (C := C) (As := bs.map (sm_mv (sm_ad N0 cs))) hfix hMet ⟨⟨rfl, rfl, hroom.1, hroom.2, pay_in hts hgi, List.mem_cons_self⟩, hts _ q1, hts _ w3, u3, (fun sig hsig => by have h2 := u5; unfold sm_par at h2; rw [hsig] at h2; exact (Option.some.inj h2).symm), hts _ u1, hts _ u2, hdecl, hts _ u4, hts _ w2⟩ ⟨sm_blind, hrc, hpre⟩ rfl hel hsz hst (sm_catsum hc2) d1 hfits)
            · cases hr
          · cases hr
        · cases hr
      · cases hr
    · cases hr
end SMM
end
section
/-! THROWS. A walk may be begun anew from where it stands: then nothing has been written yet. -/
section SMT
variable {p : Program} {l : Launch} {e : Env} {R : Room} {s : State} {m : MethodId} {args : Array Value} {below : List Frame} {meth : Method} {c : Code} {T : State} {locs : List Loc} {cells slots : Nat}
/-- the invocation, made anew in the state that is reached -/
def sm_anew (T : State) (m : MethodId) (args : Array Value) (below : List Frame) : State := T.setFrames (.invoking m args :: below)
theorem sm_rebase (X : Stand p l e R s m args below meth c T locs cells slots) (hcR : cells ≤ R.cells ∧ slots ≤ R.slots) : Stand p l e { R with cells := R.cells - cells, slots := R.slots - slots } (sm_anew T m args below) m args below meth c T [] 0 0 := by
  obtain ⟨g₀, hfr⟩ := X.frames_eq
  have hcur : T.cur < T.threads.size := State.cur_lt_of_frames hfr
  have hf : (sm_anew T m args below).frames = .invoking m args :: below := State.frames_setFrames _ hcur
  have hr := X.room
  have hme : (sm_anew T m args below).me.stackBytes = T.me.stackBytes := State.stackBytes_setFrames T _
  have hb0 : T.me.stackBytes = 0 := X.bytes.trans (State.hasRoom_plain hr)
  have hli : (sm_anew T m args below).localsInUse = s.localsInUse := by
    unfold State.localsInUse
    rw [hf, X.frames]
    show stackWeight _ + ((((T.vm.method? m).bind (·.code)).map (·.maxLocals)).getD 0 + 11) = stackWeight _ + ((((s.vm.method? m).bind (·.code)).map (·.maxLocals)).getD 0 + 11)
    rw [X.method', X.method]
  have h1 := State.hasRoom_heap hr
  have h2 := State.hasRoom_real hr
  have hsz := X.heapSize
  have hus := X.used
  have hst : s.frames.length + R.frames ≤ e.platform.maxFrames ∧ s.localsInUse + R.locals ≤ e.platform.maxStackSlots := by
    simp only [State.hasRoom, Bool.and_eq_true, decide_eq_true_eq] at hr
    exact ⟨hr.1.1.1.2.1, hr.1.1.1.2.2.2.1⟩
  refine ⟨X.admits, X.cas, X.clock, hf, ?_, ?_, X.method', X.code, X.here, X.tail, State.WarmedH.refl T, ?_, hme.symm, ?_⟩
  · refine State.hasRoom_of (hme.trans hb0) ?_ ?_ ?_ ?_ ?_ ?_
    · rw [hf, ← X.frames]; exact hst.1
    · rw [hli]; exact hst.2
    · show T.heap.size + (R.cells - cells) ≤ _
      omega
    · show T.slotsUsed + (R.slots - slots) ≤ _
      omega
    · exact X.book
    · rw [hli]; exact h2
  · have hh := X.hears
    have ha := X.warmed.alike
    cases below with
    | nil => exact (by simpa [State.hears, sm_anew, ha.method?] using hh)
    | cons f r =>
      cases f with
      | java g =>
        have e1 : (sm_anew T m args (.java g :: r)).code? g.method = s.code? g.method := by
          rw [State.code?_eq, State.code?_eq]
          show (T.vm.method? g.method).bind _ = _
          rw [ha.method?]
        simpa [State.hears, e1] using hh
      | _ => first | exact hh | (simpa [State.hears, sm_anew, ha.method?] using hh)
  · show e.platform.stackLimits T.me = e.platform.stackLimits (sm_anew T m args below).me
    rw [Platform.stackLimits_plain hb0, Platform.stackLimits_plain (hme.trans hb0)]
  · have hT : T.setVm (sm_anew T m args below).vm = T := State.setVm_self T
    rw [hT]
    have hd : (T.heap.toList.drop (sm_anew T m args below).heap.size) = [] := List.drop_eq_nil_of_le (by show T.heap.toList.length ≤ T.heap.size; simp)
    refine ⟨?_, Nat.le_refl _, Nat.le_refl _, ?_, ?_, ?_⟩
    · obtain ⟨t, ht, -⟩ := State.frames_cons hfr
      show T = ({ (T.setFrames _).setFrames T.frames with heap := T.heap, slotsUsed := T.slotsUsed } : State)
      rw [State.setFrames_setFrames, State.setFrames_self ht]
    · rw [hd]; rfl
    · rw [hd]; exact Nat.le_refl _
    · intro a c0 ha
      exact ⟨c0, ha, rfl, rfl, fun _ _ => rfl⟩
/-- a step of frames alone changes no words of the tables -/
theorem sm_anew_same {U : State} {L : List Loc} {k n : Nat} (X : Stand p l e R s m args below meth c T locs cells slots) (hB : (sm_anew T m args below).sameButNew ({ U with vm := (sm_anew T m args below).vm } : State) L k n) : s.sameButNew ({ U with vm := s.vm } : State) (locs ++ L) (cells + k) (slots + n) := by
  have hT : T.sameButNew ({ U with vm := T.vm } : State) L k n := by
    obtain ⟨h1, h2, h3, h4, h5, h6⟩ := hB
    refine ⟨?_, h2, h3, h4, h5, h6⟩
    have h1' : ({ U with vm := T.vm } : State) = ({ (T.setFrames (.invoking m args :: below)).setFrames U.frames with heap := U.heap, slotsUsed := U.slotsUsed } : State) := h1
    rw [State.setFrames_setFrames] at h1'
    exact h1'
  exact X.same.trans (hT.setVm s.vm)
/-- what holds when an exception of class X has been made and thrown out of the method -/
def sm_Thr (s : State) (below : List Frame) (X : String) (H : Heap) (locs : List Loc) (cells slots : Nat) (t : State) : Prop :=
  t.status = .running ∧ Ended t below (.threw H.size) ∧ s.WarmedH t.vm ∧ s.sameButNew ({ t with vm := s.vm } : State) locs (cells + 1) (slots + 6) ∧ t.heap.size = H.size + 1 ∧ (∀ q, q < H.size → t.heap[q]? = H[q]?) ∧ ∃ ce, t.heap[H.size]? = some ce ∧ s.vm.findClass X = some ce.cls ∧ ce.vm = .none
variable {H : Heap} {cc : ByteArray} {pc ix il ic : Nat} {LS : Array Slot} {st : List Value} {own X tx : String} {names : List String} {q : Nat} {Ts : List Cond}
theorem sm_ldcwS {Q : State → Prop} {rest : List Value} (hexec : p.tables.exec = Jvm.exec) (hb : c.code = cc) (hown : s.vm.findClass own = some m.cls) (hZ : vk_R own il tx q s) (hdg : decode cc pc = .ok (.ldc_w il, 3))
    (k : W p l e R s m args below meth c H locs cells slots Q (F0 m (pc + 3) LS (.ref q :: rest))) : W p l e R s m args below meth c H locs cells slots Q (F0 m pc LS rest) := by
  intro T hT X0
  obtain ⟨t, a1, b1⟩ := k T hT X0
  refine ⟨t, ?_, b1⟩
  obtain ⟨k, cf, i, a', hk, hcf, hcp, -, hr, hev'⟩ := Cond.stringRef_spec hown hZ.1
  cases hZ.2.symm.trans hev'
  obtain ⟨k', hk', he⟩ := X0.warmed.alike.2.2 _ _ hk
  have hr' : k'.resolved[il]? = some (some (.string q)) := by
    rcases X0.warmed.entry hk hk' il with h | ⟨h, -⟩
    · rw [h]; exact hr
    · rw [hr] at h; cases h
  have hdg' : decode c.code (F0 m pc LS rest).pc = .ok (.ldc_w il, 3) := by rw [hb]; exact hdg
  jvm_step X0.here [hexec, hdg', ldc_w.wp_string (e := e) (s := T) (f := F0 m pc LS rest) X0.here.top hk' (by rw [he]; exact hcf) hcp hr']
  exact a1
set_option maxHeartbeats 4000000 in
theorem sm_throwW {pi : Nat} (hexec : p.tables.exec = Jvm.exec) (htr : e.platform.stackTraces = false) (hb : c.code = cc) (hml : c.maxLocals = LS.size) (hlocks : meth.locks = false) (hnoh : c.exceptionTable.toList = []) (hown : s.vm.findClass own = some m.cls)
    (hts : ∀ w ∈ Ts, w.before args s = true) (hgw : ∀ w ∈ Ts, goodWord w = true)
    (h1 : Cond.classLink own ix X ∈ Ts) (h2 : Cond.instantiable X 6 ∈ Ts) (h3 : Cond.initialized X ∈ Ts) (hX1 : Bundle.fit X = true) (hX2 : ∀ n ∈ names, Bundle.fit n = true)
    (hat : ∀ a ∈ Bundle.ownAtoms own ic X names, a ∈ Ts ∨ ∀ U : State, s.WarmedH U.vm → U.heap = H → a.before args U = true)
    (hstr : vk_R own il tx q s) (hroom : cells + 1 ≤ R.cells ∧ slots + 6 ≤ R.slots) (hfr : names.length + 3 < R.frames) (hlo : (st.map fun v => v.category).sum + (13 * (names.length + 1) + 43) ≤ R.locals)
    (d0 : decode cc pc = .ok (.new ix, 3)) (d1 : decode cc (pc + 3) = .ok (.dup, 1)) (d2 : (decode cc (pc + 4) = .ok (.ldc il, 2) ∧ pi = pc + 6) ∨ (decode cc (pc + 4) = .ok (.ldc_w il, 3) ∧ pi = pc + 7)) (d3 : decode cc pi = .ok (.invokespecial ic, 3)) (d4 : decode cc (pi + 3) = .ok (.athrow, 1)) :
    W p l e R s m args below meth c H locs cells slots (sm_Thr s below X H locs cells slots) (F0 m pc LS st) := by
  intro T hT X0
  subst hT
  have X1 := sm_rebase X0 ⟨by omega, by omega⟩
  have hW : s.WarmedH (sm_anew T m args below).vm := X0.warmed
  have hwd : ∀ w ∈ Ts, w.before args (sm_anew T m args below) = true := fun w hw => word_at hW (good_of_word (hgw w hw)) (hts w hw)
  have hown' : (sm_anew T m args below).vm.findClass own = some m.cls := by rw [hW.alike.findClass]; exact hown
  obtain ⟨cX, kX, hfX, hkX, -⟩ := Cond.instantiable_spec (hwd _ h2)
  have hW2 : W p l e { R with cells := R.cells - cells, slots := R.slots - slots } (sm_anew T m args below) m args below meth c T.heap [] 0 0 (fun t => t.status = .running ∧ Ended t below (.threw T.heap.size) ∧ (sm_anew T m args below).WarmedH t.vm ∧ (sm_anew T m args below).sameButNew ({ t with vm := (sm_anew T m args below).vm } : State) [] 1 6 ∧ ∃ ce, t.heap[T.heap.size]? = some ce ∧ (sm_anew T m args below).vm.findClass X = some ce.cls ∧ ce.vm = .none) (F0 m pc LS st) := by
    refine W.newcK hexec hb hown' (hwd _ h1) (hwd _ h2) (hwd _ h3) rfl d0 (by show 0 + 1 ≤ R.cells - cells; omega) (by show 0 + 6 ≤ R.slots - slots; omega) hfX rfl fun H1 kC hkC e1 z o => ?_
    refine lv_dup hexec hb d1 rfl ?_
    have hfin : W p l e { R with cells := R.cells - cells, slots := R.slots - slots } (sm_anew T m args below) m args below meth c H1 [] (0 + 1) (0 + 6) (fun t => t.status = .running ∧ Ended t below (.threw T.heap.size) ∧ (sm_anew T m args below).WarmedH t.vm ∧ (sm_anew T m args below).sameButNew ({ t with vm := (sm_anew T m args below).vm } : State) [] 1 6 ∧ ∃ ce, t.heap[T.heap.size]? = some ce ∧ (sm_anew T m args below).vm.findClass X = some ce.cls ∧ ce.vm = .none) (F0 m pi LS (.ref q :: .ref T.heap.size :: .ref T.heap.size :: st)) := by
      intro T2 hT2 X2
      obtain ⟨U, u1, u2, u3, u4, u5, ce, u6, u7⟩ := X2.ctorThrowS hexec htr (own := own) (cls := X) (names := names) (ic := ic) hown' hX1 hX2 (fun a ha => by
          rcases hat a ha with h | h
          · exact hwd a h
          · exact h (sm_anew T m args below) hW rfl) (fun x hx => by cases hx) (a := T.heap.size) hfX hkC (by rw [hT2]; exact e1) (Nat.le_refl _) (msg := .ref q) rfl (g := F0 m pi LS (.ref q :: .ref T.heap.size :: .ref T.heap.size :: st)) rfl (by rw [hml]) rfl rfl (rest := st) rfl (by rw [hb]; exact d3) (by rw [hb]; exact d4) (by rw [hnoh]; exact fun x hx => by cases hx) hfr (by show 2 * 0 + (1 + (st.map fun v => v.category).sum) + _ ≤ R.locals; omega) hlocks
      exact ⟨U, u1, u2, u3, u4, u5, ce, u6, u7.cls, u7.vm⟩
    rcases d2 with ⟨d2, e0⟩ | ⟨d2, e0⟩
    · subst e0
      exact va_ldcS hexec hb hown' (vk_R.warm hW hstr) d2 hfin
    · subst e0
      exact sm_ldcwS hexec hb hown' (vk_R.warm hW hstr) d2 hfin
  obtain ⟨t, t1, t2, t3, t4, t5, ce, t6, t7, t8⟩ := hW2 T rfl X1
  have hlt : T.heap.size < t.heap.size := (Array.getElem?_eq_some_iff.mp t6).1
  have hle : t.heap.size ≤ T.heap.size + 1 := t5.2.2.1
  refine ⟨t, t1, t2, t3, X0.warmed.trans t4, ?_, by omega, fun q hq => ?_, ce, t6, by rw [← hW.alike.findClass]; exact t7, t8⟩
  · have := sm_anew_same X0 t5
    rw [List.append_nil] at this
    exact this
  · have hq2 : T.heap[q]? = some T.heap[q] := Array.getElem?_eq_getElem hq
    obtain ⟨c', w1, w2, w3, w4⟩ := t5.2.2.2.2.2 q _ hq2
    have w1' : t.heap[q]? = some c' := w1
    rw [w1', hq2]
    have e2 : c'.slots = T.heap[q].slots := by
      apply Array.ext_getElem?
      intro i
      exact w4 i (fun hx => by cases hx)
    rw [w2, e2]
end SMT
end
section
/-! RUNS THAT THROW. -/
section SMU
variable {l : Launch} {D : va_G} {cl : List vw_C} {tys : List (ClassId × FieldType)} {N0 : Nat} {cs : Nat → Nat} {Ts : List Cond} {sx : List (String × Nat × String × Nat)} {zx : List (String × String × String × Nat)} {oc : (List (Nat × Nat × String × String × String × Value) × List (String × Nat × MethodName × String))} {K : sm_H} {Y : Nat → sm_Y} {P : Nat → Option sm_M}
variable {p : Program} {e : Env} {R : Room} {s : State} {m : MethodId} {args : Array Value} {below : List Frame} {meth : Method} {c : Code} {H : Heap} {locs : List Loc} {cells slots : Nat} {Q : State → Prop}
set_option maxHeartbeats 4000000 in
/-- a call that returns, in any walk -/
theorem sm_callW (hG : sm_Good Ts sx zx oc K cl Y P) (hgw : ∀ w ∈ Ts, goodWord w = true) (hT : sm_T tys) {own : String} {cc : ByteArray} {nl n d m1 nl1 k1 pc len : Nat} {tab1 : List (Option sm_I)} {i : Instr} {rs : List Nat} {ls : sm_L} {st as r : List Value} {h h1 : sm_H} {v1 : Option Value} {LS : Array Slot}
    (hx : p.tables.exec = Jvm.exec) (hb : c.code = cc) (hml : c.maxLocals = nl) (hown : s.vm.findClass own = some m.cls) (hts : ∀ w ∈ Ts, w.before args s = true) (hK : va_K D cl tys s) (hS : sm_X sx zx oc N0 cs s)
    (hP : sm_P D cl tys N0 cs K h H) (hsz : LS.size = nl) (hF : ∀ q, q < N0 → H[q]? = s.heap[q]?) (hlocs : ∀ x ∈ locs, N0 ≤ x.base)
    (d1 : decode cc pc = .ok (i, len)) (d2 : sm_lenOk i len = true) (d4 : sm_okC Ts oc cl Y own i rs) (hs : sm_step (i, len, rs) pc ls st h = some (.inr (.inr (m1, as, r))))
    (hM1 : P m1 = some (nl1, k1, tab1)) (hc1 : (sm_slots as).length ≤ nl1) (hc2 : (r.map fun v => v.category).sum ≤ 8) (hcall : sm_run P n d m1 0 (sm_entry nl1 as) [] h = some (v1, h1))
    (hfr : d + 2 ≤ R.frames) (hlo : 64 * d + 88 ≤ R.locals) (hroomC : cells + (h1.length - h.length) ≤ R.cells ∧ slots + (sm_sl h1 - sm_sl h) ≤ R.slots)
    (kk : ∀ (H1 : Heap) (locs1 : List Loc), sm_P D cl tys N0 cs K h1 H1 → (∀ q, q < N0 → H1[q]? = H[q]?) → (∀ x ∈ locs1, N0 ≤ x.base) →
      W p l e R s m args below meth c H1 locs1 (cells + (h1.length - h.length)) (slots + (sm_sl h1 - sm_sl h)) Q (F0 m (pc + 3) LS ((sm_back v1 r).map (sm_mv (sm_ad N0 cs))))) :
    W p l e R s m args below meth c H locs cells slots Q (F0 m pc LS (st.map (sm_mv (sm_ad N0 cs)))) := by
  obtain ⟨q1, q2, q3, q4, -, -⟩ := hG m1 _ hM1
  dsimp only at q1 q4
  have hMet := sm_metof (l := l) (D := D) (tys := tys) (N0 := N0) (cs := cs) (as := as) (sm_sound hG hgw hT n) hG hM1 hcall hc1
  have hgi := sm_goodIn hgw q1
  have hroom : (sm_room d (h1.length - h.length) (sm_sl h1 - sm_sl h)).frames + 1 ≤ R.frames ∧ 8 + (nl1 + 11) + (sm_room d (h1.length - h.length) (sm_sl h1 - sm_sl h)).locals ≤ R.locals := ⟨by show d + 1 + 1 ≤ _; omega, by show 8 + (nl1 + 11) + (64 * d + 24) ≤ _; omega⟩
  have hpre : ∀ U : State, U.heap = H → s.WarmedH U.vm → sm_Pc D cl tys sx zx oc K N0 cs as h (as.map (sm_mv (sm_ad N0 cs))).toArray U := fun U hU hW => ⟨rfl, by rw [hU]; exact hP, va_K.moved hW.alike hK, hS.at_ hW (fun q hq => by rw [hU]; exact hF q hq)⟩
  have hfix : CallFix p m c cc nl s args Ts own := ⟨hx, hb, hml, hown, hts⟩
  have goOn : ∀ (a : Array Value), va_Run p l e R s m args below meth c H locs cells slots (h1.length - h.length) (sm_sl h1 - sm_sl h) (F0 m pc LS (st.map (sm_mv (sm_ad N0 cs)))) (r.map (sm_mv (sm_ad N0 cs))) (sm_Qc D cl tys N0 cs K v1 h1 a) (fun q => N0 ≤ q) →
      W p l e R s m args below meth c H locs cells slots Q (F0 m pc LS (st.map (sm_mv (sm_ad N0 cs)))) := by
    intro a hrun
    refine sm_after hrun hlocs fun H1 locs1 hP1 hF1 hl1 => ?_
    rw [← sm_back_eq]
    exact kk H1 locs1 hP1 hF1 hl1
  rcases sm_call_inv hs with ⟨idx, k, n1, rfl, rfl, ha⟩ | ⟨idx, k, n1, b, bs, rfl, rfl, ha, rfl⟩ | ⟨idx, k, n1, ps, b, bs, ci, fs, rfl, rfl, ha, rfl, hbc, hpk⟩
  · simp only [sm_lenOk, beq_iff_eq] at d2
    subst d2
    obtain ⟨w1, w2, w3, w4⟩ := d4
    obtain ⟨ea, el⟩ := sm_args_inv ha
    have hst : (st.map (sm_mv (sm_ad N0 cs))) = (as.map (sm_mv (sm_ad N0 cs))).reverse ++ r.map (sm_mv (sm_ad N0 cs)) := by rw [ea, List.map_append, List.map_reverse]
    rcases w4 with w4 | ⟨host, w4⟩
    · exact goOn _ (va_runS (As := as.map (sm_mv (sm_ad N0 cs))) hfix hMet ⟨callB_of n1 hts hgi rfl rfl rfl (hts _ w2) (hts _ w4) ⟨q3.1, q3.2, w3⟩ hroom, hts _ w1⟩ ⟨sm_blind, hpre⟩ rfl (by rw [List.length_map]; exact el) hsz hst (sm_catsum hc2) d1 hroomC)
    · exact goOn _ (va_runSN (As := as.map (sm_mv (sm_ad N0 cs))) hfix hMet ⟨va_cnB n1 hts hgi rfl rfl rfl (hS.2.2.2 _ w4) (hts _ w2) ⟨q3.1, q3.2, w3⟩ hroom, hts _ w1, trivial⟩ ⟨sm_blind, hpre⟩ rfl (by rw [List.length_map]; exact el) hsz hst (sm_catsum hc2) d1 hroomC)
  · simp only [sm_lenOk, beq_iff_eq] at d2
    subst d2
    obtain ⟨w0, w1, w2, w3, ⟨k2, rfl, w4⟩, w5⟩ := d4
    obtain ⟨ea, el⟩ := sm_args_inv ha
    have hst : (st.map (sm_mv (sm_ad N0 cs))) = (bs.map (sm_mv (sm_ad N0 cs))).reverse ++ .ref (sm_ad N0 cs b) :: r.map (sm_mv (sm_ad N0 cs)) := by rw [ea]; simp [sm_mv]
    rw [w1] at hMet hgi
    rcases w5 with w5 | ⟨host, w5⟩
    · exact goOn _ (va_runI (As := bs.map (sm_mv (sm_ad N0 cs))) hfix hMet ⟨callB_of k2 hts hgi rfl rfl rfl (hts _ w3) (hts _ w5) ⟨q3.1, q3.2, w4⟩ hroom, w0, hts _ w2⟩ ⟨sm_blind, hpre⟩ rfl (by rw [List.length_map]; simpa using el) hsz hst (sm_catsum hc2) d1 hroomC)
    · exact goOn _ (va_runIN (As := bs.map (sm_mv (sm_ad N0 cs))) hfix hMet ⟨va_cnB k2 hts hgi rfl rfl rfl (hS.2.2.2 _ w5) (hts _ w3) ⟨q3.1, q3.2, w4⟩ hroom, w0, hts _ w2⟩ ⟨sm_blind, hpre⟩ rfl (by rw [List.length_map]; simpa using el) hsz hst (sm_catsum hc2) d1 hroomC)
  · simp only [sm_lenOk, beq_iff_eq] at d2
    subst d2
    obtain ⟨C, T, N, w1, w2, w3, w4⟩ := d4 ci m1 hpk
    obtain ⟨ea, el⟩ := sm_args_inv ha
    have hst : (st.map (sm_mv (sm_ad N0 cs))) = (bs.map (sm_mv (sm_ad N0 cs))).reverse ++ .ref (sm_ad N0 cs b) :: r.map (sm_mv (sm_ad N0 cs)) := by rw [ea]; simp [sm_mv]
    have hrc := va_recv hK (sm_P1 (sm_obj hP hbc)) (q0 := 0) w1 rfl
    have hel : (bs.map (sm_mv (sm_ad N0 cs))).length = n1 := by rw [List.length_map]; simpa using el
    rcases w4 with ⟨u1, u2, u3⟩ | ⟨host, u1, u2, u3⟩ | ⟨x, owner, u1, u2, u3, u4, u5, u6⟩
    · exact goOn _ (va_runV (C := C) (As := bs.map (sm_mv (sm_ad N0 cs))) hfix hMet ⟨callB_of n1 hts hgi rfl rfl rfl (hts _ w3) (hts _ u1) ⟨q3.1, q3.2, u3⟩ hroom, hts _ w2, hts _ u2⟩ ⟨sm_blind, hrc, hpre⟩ rfl hel hsz hst (sm_catsum hc2) d1 hroomC)
    · exact goOn _ (va_runVN (C := C) (As := bs.map (sm_mv (sm_ad N0 cs))) hfix hMet ⟨va_cnB n1 hts hgi rfl rfl rfl (hS.2.2.2 _ u1) (hts _ w3) ⟨q3.1, q3.2, u3⟩ hroom, hts _ w2, hts _ u2⟩ ⟨sm_blind, hrc, hpre⟩ rfl hel hsz hst (sm_catsum hc2) d1 hroomC)
    · have hdecl : va_Decl s ⟨owner, x.name, x.desc⟩ := by
        rcases u6 with u6 | ⟨u6, b0, m0, r0, u7⟩
        · exact va_Decl.abs (va_Nw.of rfl (hts _ u6))
        · exact va_Decl.of (hts _ u6) (hts _ u7)
      exact goOn _ (va_runU (C := C) (As := bs.map (sm_mv (sm_ad N0 cs))) hfix hMet ⟨⟨rfl, rfl, hroom.1, hroom.2, pay_in hts hgi, List.mem_cons_self⟩, hts _ q1, hts _ w3, u3, (fun sig hsig => by have h2 := u5; unfold sm_par at h2; rw [hsig] at h2; exact (Option.some.inj h2).symm), hts _ u1, hts _ u2, hdecl, hts _ u4, hts _ w2⟩ ⟨sm_blind, hrc, hpre⟩ rfl hel hsz hst (sm_catsum hc2) d1 hroomC)
end SMU
end
section
/-! A run of a method that ends in 'throw new ..' -/
def sm_thr (q : sm_I) : Option Nat := match q with
  | (.new _, _, [a, x]) => if a = 1000 then some x else none
  | _ => none
/-- the cell of an exception of class number x -/
def sm_exc (x : Nat) : sm_E := .inr (x, List.replicate 6 .null)
def sm_runT (P : Nat → Option sm_M) : Nat → Nat → Nat → Nat → sm_L → List Value → sm_H → Option (Nat × sm_H)
  | 0, _, _, _, _, _, _ => none
  | n + 1, d, m, pc, ls, st, h => match P m with
    | none => none
    | some (_, _, tab) => match tab[pc]? with
      | some (some q) => match sm_thr q with
        | some x => if st = [] then some (x, h ++ [sm_exc x]) else none
        | none => match sm_step q pc ls st h with
          | some (.inl (pc', ls', st', h')) => sm_runT P n d m pc' ls' st' h'
          | some (.inr (.inl _)) => none
          | some (.inr (.inr (m', as, r))) => match d, P m' with
            | d' + 1, some (nl, _, _) => if (sm_slots as).length ≤ nl ∧ (r.map fun v => v.category).sum ≤ 8 then (match sm_run P n d' m' 0 (sm_entry nl as) [] h with
              | some (v, h') => sm_runT P n d m (pc + 3) ls (sm_back v r) h'
              | none => none) else none
            | _, _ => none
          | none => none
      | _ => none
theorem sm_runT_mono {P : Nat → Option sm_M} : ∀ (n d m pc : Nat) (ls : sm_L) (st : List Value) (h : sm_H) (x : Nat) (h' : sm_H), sm_runT P n d m pc ls st h = some (x, h') → h.length ≤ h'.length ∧ sm_sl h ≤ sm_sl h' := by
  intro n
  induction n with
  | zero => intro d m pc ls st h v h' hr; simp [sm_runT] at hr
  | succ n ih =>
    intro d m pc ls st h v h' hr
    unfold sm_runT at hr
    split at hr
    · cases hr
    · split at hr
      · split at hr
        · split at hr
          · cases hr; exact ⟨by simp, by rw [sm_sl_app]; exact Nat.le_add_right _ _⟩
          · cases hr
        · split at hr
          · next hs =>
            have h1 := sm_step_mono hs
            have h2 := ih _ _ _ _ _ _ _ _ hr
            exact ⟨Nat.le_trans h1.1 h2.1, Nat.le_trans h1.2 h2.2⟩
          · cases hr
          · split at hr
            · split at hr
              · split at hr
                · next hc =>
                  have g1 := sm_run_mono _ _ _ _ _ _ _ _ _ hc
                  have g2 := ih _ _ _ _ _ _ _ _ hr
                  exact ⟨Nat.le_trans g1.1 g2.1, Nat.le_trans g1.2 g2.2⟩
                · cases hr
              · cases hr
            · cases hr
          · cases hr
      · cases hr
/-- what the tables must hold of 'throw new ..' at a place; ex: words that hold in every later state -/
def sm_okT (Ts : List Cond) (sx : List (String × Nat × String × Nat)) (ex : List Cond) (cl : List vw_C) (own : String) (bytes : ByteArray) (pc ix x : Nat) : Prop :=
  ∃ (X tx : String) (T : u_T) (il ic n pi : Nat) (names : List String), cl[x]? = some (X, T, 0) ∧ Cond.classLink own ix X ∈ Ts ∧ Cond.instantiable X 6 ∈ Ts ∧ Cond.initialized X ∈ Ts ∧ Bundle.fit X = true ∧ (∀ n ∈ names, Bundle.fit n = true) ∧ names.length ≤ 3 ∧
    (∀ a ∈ Bundle.ownAtoms own ic X names, a ∈ Ts ∨ a ∈ ex) ∧ (own, il, tx, n) ∈ sx ∧ decode bytes (pc + 3) = .ok (.dup, 1) ∧ ((decode bytes (pc + 4) = .ok (.ldc il, 2) ∧ pi = pc + 6) ∨ (decode bytes (pc + 4) = .ok (.ldc_w il, 3) ∧ pi = pc + 7)) ∧ decode bytes pi = .ok (.invokespecial ic, 3) ∧ decode bytes (pi + 3) = .ok (.athrow, 1)
/-- words that stay as long as the statics' cells stay -/
def sm_Ex (ex : List Cond) (N0 : Nat) (s : State) : Prop := ∀ a ∈ ex, ∀ (v : Array Value) (U : State), s.WarmedH U.vm → (∀ q, q < N0 → U.heap[q]? = s.heap[q]?) → a.before v U = true
theorem sm_Ex.at_ {ex : List Cond} {N0 : Nat} {s U : State} (h : sm_Ex ex N0 s) (hW : s.WarmedH U.vm) (hF : ∀ q, q < N0 → U.heap[q]? = s.heap[q]?) : sm_Ex ex N0 U := fun a ha v V h1 h2 => h a ha v V (hW.trans h1) (fun q hq => (h2 q hq).trans (hF q hq))
def sm_roomT (d mc ms : Nat) : Room := { frames := d + 8, cells := mc, slots := ms, locals := 64 * d + 160 }
section SMV
variable {l : Launch} {D : va_G} {cl : List vw_C} {tys : List (ClassId × FieldType)} {N0 : Nat} {cs : Nat → Nat} {Ts : List Cond} {sx : List (String × Nat × String × Nat)} {zx : List (String × String × String × Nat)} {oc : (List (Nat × Nat × String × String × String × Value) × List (String × Nat × MethodName × String))} {K : sm_H} {Y : Nat → sm_Y} {P : Nat → Option sm_M} {ex : List Cond}
/-- what holds when a method has thrown -/
def sm_QT (D : va_G) (cl : List vw_C) (tys : List (ClassId × FieldType)) (N0 : Nat) (cs : Nat → Nat) (K : sm_H) (s : State) (below : List Frame) (h : sm_H) (mc ms : Nat) (t : State) : Prop :=
  t.status = .running ∧ Ended t below (.threw (sm_ad N0 cs (h.length - 1))) ∧ s.WarmedH t.vm ∧ (∃ L, s.sameButNew ({ t with vm := s.vm } : State) L mc ms ∧ ∀ q ∈ L, N0 ≤ q.base) ∧ sm_P D cl tys N0 cs K h t.heap ∧ ∀ q, q < N0 → t.heap[q]? = s.heap[q]?
set_option maxHeartbeats 4000000 in
theorem sm_soundT (hG : sm_Good Ts sx zx oc K cl Y P) (hgw : ∀ w ∈ Ts, goodWord w = true) (hT : sm_T tys) (hfl : l.flags = pinnedFlags ++ [noTraceFlag])
    (hGT : ∀ mi M pc q x, P mi = some M → M.2.2[pc]? = some (some q) → sm_thr q = some x → ∃ ix, q.1 = .new ix ∧ sm_okT Ts sx ex cl (Y mi).1.cls (Y mi).2.1 pc ix x) : ∀ (n d mi pc : Nat) (ls : sm_L) (st : List Value) (h : sm_H) (x : Nat) (h' : sm_H) (M : sm_M), P mi = some M → sm_runT P n d mi pc ls st h = some (x, h') → ls.length = M.1 →
  ∀ (p : Program) (e : Env) (s : State) (m : MethodId) (args : Array Value) (below : List Frame) (meth : Method) (c : Code) (H : Heap) (locs : List Loc) (LS : Array Slot) (h0 : sm_H), p.tables.exec = Jvm.exec → c.code = (Y mi).2.1 → c.maxLocals = M.1 → c.exceptionTable.toList = [] → s.vm.findClass (Y mi).1.cls = some m.cls → meth.name = (Y mi).1.name → (∀ w ∈ Ts, w.before args s = true) → sm_Ex ex N0 s → meth.locks = false → va_K D cl tys s → sm_X sx zx oc N0 cs s →
    sm_P D cl tys N0 cs K h H → sm_LR (sm_ad N0 cs) ls LS → (∀ q, q < N0 → H[q]? = s.heap[q]?) → s.heap.size ≤ H.size → (∀ x ∈ locs, N0 ≤ x.base) → h0.length ≤ h.length → sm_sl h0 ≤ sm_sl h →
    W p l e (sm_roomT d (h'.length - h0.length) (sm_sl h' - sm_sl h0)) s m args below meth c H locs (h.length - h0.length) (sm_sl h - sm_sl h0) (sm_QT D cl tys N0 cs K s below h' (h'.length - h0.length) (sm_sl h' - sm_sl h0)) (F0 m pc LS (st.map (sm_mv (sm_ad N0 cs)))) := by
  intro n
  induction n with
  | zero => intro d mi pc ls st h v h' M hM hr; simp [sm_runT] at hr
  | succ n ih =>
    intro d mi pc ls st h x h' M hM hr hlen p e s m args below meth c H locs LS h0 hx hb hml hnoh hown hmn hts hEx hlocks hK hS hP hL hF hZ0 hlocs hz1 hz2
    obtain ⟨g1, g2, g3, g4, g5, g6⟩ := hG mi M hM
    have hgt := hGT mi M pc
    obtain ⟨nl, kr, tab⟩ := M
    unfold sm_runT at hr
    rw [hM] at hr
    dsimp only at hr hlen hml g1 g4 g5 g6 hgt
    split at hr
    · next q hq =>
      obtain ⟨d1, d2, d3, d4⟩ := g6 pc q hq
      split at hr
      · next x1 hthr =>
        obtain ⟨ix, hqi, X, tx, TX, il, ic, nn, pi, names, o1, o2, o3, o4, o5, o6, o7, o8, o9, o10, o11, o12, o13⟩ := hgt q x1 hM hq hthr
        split at hr
        · next hst =>
          cases hr
          subst hst
          obtain ⟨i, len, rs⟩ := q
          dsimp only at d1 d2 hqi
          subst hqi
          simp only [sm_lenOk, beq_iff_eq] at d2
          subst d2
          have hsl : sm_sl (h ++ [sm_exc x]) = sm_sl h + 6 := by rw [sm_sl_app]; simp [sm_exc, sm_sz]
          have hln : (h ++ [sm_exc x]).length = h.length + 1 := by simp
          intro T hT2 X0
          have htr := Launch.traces_off hfl X0.admits
          have hW := sm_throwW (X := X) (tx := tx) (names := names) (Ts := Ts) (st := []) (pi := pi) (H := H) (locs := locs) (cells := h.length - h0.length) (slots := sm_sl h - sm_sl h0) (R := sm_roomT d ((h ++ [sm_exc x]).length - h0.length) (sm_sl (h ++ [sm_exc x]) - sm_sl h0)) (p := p) (l := l) (e := e) (s := s) (m := m) (args := args) (below := below) (meth := meth) (c := c) (LS := LS) (pc := pc) (cc := (Y mi).2.1) hx htr hb (by rw [hml, ← hlen, hL.1]) hlocks hnoh hown hts hgw o2 o3 o4 o5 o6 (fun a ha => by
              rcases o8 a ha with z | z
              · exact Or.inl z
              · exact Or.inr (fun U hU1 hU2 => hEx a z args U hU1 (fun q hq => by rw [hU2]; exact hF q hq))) (hS.1 _ o9) ⟨by show _ ≤ (h ++ [sm_exc x]).length - h0.length; omega, by show _ ≤ sm_sl (h ++ [sm_exc x]) - sm_sl h0; omega⟩ (by show names.length + 3 < d + 8; omega) (by show 0 + _ ≤ 64 * d + 160; omega) d1 o10 o11 o12 o13
          obtain ⟨t, t1, t2⟩ := hW T hT2 X0
          refine ⟨t, t1, ?_⟩
          obtain ⟨u1, u2, u3, u4, u5, u6, ce, u7, u8, u9⟩ := t2
          have hPs := hP.1
          have hPl := hP.2.1
          have hnew : sm_P D cl tys N0 cs K (h ++ [sm_exc x]) t.heap := by
            refine hP.make ⟨_, o1, ce, u7, ?_, u9, fun k hk => absurd hk (Nat.not_lt_zero k)⟩ u5 u6
            exact Option.some.inj (u8.symm.trans (hK.1 x _ o1).2.1)
          refine ⟨u1, ?_, u3, ⟨locs, ?_, hlocs⟩, hnew, fun q hq => (u6 q (by omega)).trans (hF q hq)⟩
          · rw [hln, Nat.add_sub_cancel, sm_ad_ge hPl, show N0 + (h.length - sm_C) = H.size by omega]
            exact u2
          · rw [hln, hsl]
            have e1 : h.length - h0.length + 1 = h.length + 1 - h0.length := by omega
            have e2 : sm_sl h - sm_sl h0 + 6 = sm_sl h + 6 - sm_sl h0 := by omega
            rw [e1, e2] at u4
            exact u4
        · cases hr
      · obtain ⟨i, len, rs⟩ := q
        dsimp only at d1 d2 d3 d4
        split at hr
        · next pc1 ls1 st1 h1 hs =>
          have hm1 := sm_step_mono hs
          have hm2 := sm_runT_mono _ _ _ _ _ _ _ _ _ hr
          refine sm_next (h' := h1) hx hb hts hown hK hT hS hF hZ0 (by rw [hmn]; exact d3) d2 d1 hP hL hlocs ⟨by show 1 ≤ d + 8; omega, by show 21 ≤ 64 * d + 160; omega⟩ (by rw [hml, hlen]) ⟨by show _ ≤ h'.length - h0.length; omega, by show _ ≤ sm_sl h' - sm_sl h0; omega⟩ hs ?_
          intro H' locs' LS' hP' hL' hF' hlocs'
          have e1 : h.length - h0.length + (h1.length - h.length) = h1.length - h0.length := by omega
          have e2 : sm_sl h - sm_sl h0 + (sm_sl h1 - sm_sl h) = sm_sl h1 - sm_sl h0 := by omega
          rw [e1, e2]
          exact ih d mi pc1 ls1 st1 h1 x h' _ hM hr (by rw [sm_step_len hs]; exact hlen) p e s m args below meth c H' locs' LS' h0 hx hb hml hnoh hown hmn hts hEx hlocks hK hS hP' hL' (fun q hq => (hF' q hq).trans (hF q hq)) (by have z1 := hP.1; have z2 := hP'.1; omega) hlocs' (by omega) (by omega)
        · cases hr
        · next m1 as r hs =>
          split at hr
          · next d1' nl1 k1 tab1 hM1 =>
            split at hr
            · next hc =>
              obtain ⟨hc1, hc2⟩ := hc
              split at hr
              · next v1 h1 hcall =>
                have hm1 := sm_run_mono _ _ _ _ _ _ _ _ _ hcall
                have hm2 := sm_runT_mono _ _ _ _ _ _ _ _ _ hr
                refine sm_callW hG hgw hT hx hb hml hown hts hK hS hP (hL.1.trans hlen) hF hlocs d1 d2 d4 hs hM1 hc1 hc2 hcall (by show d1' + 2 ≤ d1' + 1 + 8; omega) (by show 64 * d1' + 88 ≤ 64 * (d1' + 1) + 160; omega) ⟨by show _ ≤ h'.length - h0.length; omega, by show _ ≤ sm_sl h' - sm_sl h0; omega⟩ ?_
                intro H1 locs1 hP1 hF1 hl1
                have e1 : h.length - h0.length + (h1.length - h.length) = h1.length - h0.length := by omega
                have e2 : sm_sl h - sm_sl h0 + (sm_sl h1 - sm_sl h) = sm_sl h1 - sm_sl h0 := by omega
                rw [e1, e2]
                exact ih (d1' + 1) mi (pc + 3) ls (sm_back v1 r) h1 x h' _ hM hr hlen p e s m args below meth c H1 locs1 LS h0 hx hb hml hnoh hown hmn hts hEx hlocks hK hS hP1 hL (fun q hq => (hF1 q hq).trans (hF q hq)) (by have z1 := hP.1; have z2 := hP1.1; omega) hl1 (by omega) (by omega)
              · cases hr
            · cases hr
          · cases hr
        · cases hr
    · cases hr
end SMV
end
section
/-! A CALL THAT THROWS, AND THE CATCH. -/
section SMC
variable {l : Launch} {D : va_G} {cl : List vw_C} {tys : List (ClassId × FieldType)} {N0 : Nat} {cs : Nat → Nat} {Ts : List Cond} {sx : List (String × Nat × String × Nat)} {zx : List (String × String × String × Nat)} {oc : (List (Nat × Nat × String × String × String × Value) × List (String × Nat × MethodName × String))} {K : sm_H} {Y : Nat → sm_Y} {P : Nat → Option sm_M} {ex : List Cond}
/-- a contract of a method that throws -/
def sm_MetT (l : Launch) (D : va_G) (cl : List vw_C) (tys : List (ClassId × FieldType)) (N0 : Nat) (cs : Nat → Nat) (K : sm_H) (y : MethodName) (ws : List Cond) (rm : Room) (Pc : Array Value → State → Prop) (h : sm_H) (mc ms : Nat) : Prop :=
  MetFree l y (headSpec ws rm) Pc (fun _ _ _ _ _ => True) (fun _ st o t => o = .threw (sm_ad N0 cs (h.length - 1)) ∧ st.WarmedH t.vm ∧ (∃ L, st.sameButNew ({ t with vm := st.vm } : State) L mc ms ∧ ∀ q ∈ L, N0 ≤ q.base) ∧ sm_P D cl tys N0 cs K h t.heap ∧ ∀ q, q < N0 → t.heap[q]? = st.heap[q]?)
/-- what a throwing method asks of its start -/
def sm_PcT (D : va_G) (cl : List vw_C) (tys : List (ClassId × FieldType)) (sx : List (String × Nat × String × Nat)) (zx : List (String × String × String × Nat)) (oc : (List (Nat × Nat × String × String × String × Value) × List (String × Nat × MethodName × String))) (K : sm_H) (ex : List Cond) (N0 : Nat) (cs : Nat → Nat) (as : List Value) (h : sm_H) : Array Value → State → Prop :=
  fun v U => sm_Pc D cl tys sx zx oc K N0 cs as h v U ∧ sm_Ex ex N0 U
theorem sm_metT (hG : sm_Good Ts sx zx oc K cl Y P) (hgw : ∀ w ∈ Ts, goodWord w = true) (hT : sm_T tys) (hfl : l.flags = pinnedFlags ++ [noTraceFlag])
    (hGT : ∀ mi M pc q x, P mi = some M → M.2.2[pc]? = some (some q) → sm_thr q = some x → ∃ ix, q.1 = .new ix ∧ sm_okT Ts sx ex cl (Y mi).1.cls (Y mi).2.1 pc ix x) {n d mi : Nat} {M : sm_M} {as : List Value} {h h' : sm_H} {x : Nat} (hM : P mi = some M) (hr : sm_runT P n d mi 0 (sm_entry M.1 as) [] h = some (x, h')) (hl : (sm_slots as).length ≤ M.1) :
    sm_MetT l D cl tys N0 cs K (Y mi).1 (Cond.code (Y mi).1 (Y mi).2.1 M.1 (Y mi).2.2 :: Ts) (sm_roomT d (h'.length - h.length) (sm_sl h' - sm_sl h)) (sm_PcT D cl tys sx zx oc K ex N0 cs as h) h' (h'.length - h.length) (sm_sl h' - sm_sl h) := by
  obtain ⟨-, g2, -⟩ := hG mi M hM
  refine MetFree.of_bodyS (code := (Y mi).2.1) (maxLocals := M.1) (ret := (Y mi).2.2) g2 ?_ ?_
  · intro args s m h hn
    obtain ⟨meth, c, h1, h2, h3, h4, h5, h6, -, -⟩ := Cond.code_spec hn (atoms_spec (ws := Cond.code (Y mi).1 (Y mi).2.1 M.1 (Y mi).2.2 :: Ts) h _ List.mem_cons_self)
    exact ⟨meth, c, h1, h2, h3, h4, h5, h6⟩
  · intro p e s m args below meth c s₁ B hml hP _
    obtain ⟨⟨rfl, hP, hK, hS⟩, hEx⟩ := hP
    have hts := atoms_spec (ws := Cond.code (Y mi).1 (Y mi).2.1 M.1 (Y mi).2.2 :: Ts) B.pre
    have hnoh : c.exceptionTable.toList = [] := by
      have h0 := BodyLoose.noHandlers B (hts _ List.mem_cons_self)
      simpa [Array.isEmpty_iff] using h0
    have hh0 : s₁.heap = s.heap := by rw [B.state]; rfl
    have hW := sm_soundT hG hgw hT hfl hGT n d mi 0 (sm_entry M.1 as) [] h x h' M hM hr (by simp [sm_entry]; omega) p e s m _ below meth c s.heap [] _ h B.exec B.bytes hml hnoh (findClass_of_methodNamed B.named) (name_of_methodNamed B.named B.method).1 (fun w hw => hts w (List.mem_cons_of_mem _ hw)) hEx B.notSynchronized hK hS hP (sm_entry_LR hl) (fun _ _ => rfl) (Nat.le_refl _) (fun x hx => by cases hx) (Nat.le_refl _) (Nat.le_refl _)
    rw [Nat.sub_self, Nat.sub_self] at hW
    obtain ⟨t, a1, b1, b2, b3, b4, b5, b6⟩ := hW s₁ hh0 (Stand.of_body B)
    have e1 : F0 m 0 ((lg_sl (as.map (sm_mv (sm_ad N0 cs))) ++ List.replicate (M.1 - (lg_sl (as.map (sm_mv (sm_ad N0 cs)))).length) Slot.unset).toArray) (([] : List Value).map (sm_mv (sm_ad N0 cs))) = entryFrame m (as.map (sm_mv (sm_ad N0 cs))).toArray M.1 := (lg_entry_eq m (as.map (sm_mv (sm_ad N0 cs))) M.1).symm
    rw [e1] at a1
    exact ⟨t, _, a1, b1, b2, rfl, b3, b4, b5, b6⟩
variable {p : Program} {e : Env} {R : Room} {s : State} {m : MethodId} {args : Array Value} {below : List Frame} {meth : Method} {c : Code} {T : State} {locs : List Loc} {cells slots : Nat}
set_option maxHeartbeats 4000000 in
/-- a virtual call of a method that throws: the caller's frame, with the note over it -/
theorem sm_callVT (X : Stand p l e R s m args below meth c T locs cells slots) (hexec : p.tables.exec = Jvm.exec) {own C : String} {index : Nat} {y : MethodName} {bytes : ByteArray} {maxL mc ms : Nat} {ret : Option FieldType} {rm : Room} {ws : List Cond} {Pc : Array Value → State → Prop} {h' : sm_H}
    (hown : s.vm.findClass own = some m.cls) (hlink : (Cond.methodLink own index y).before args s = true) (hinst : (Cond.instanceMethod y).before args s = true) (hsel : (Cond.selects C y y).before args s = true)
    (hcode : (Cond.code y bytes maxL ret).before args s = true) (hini : (Cond.initialized y.cls).before args s = true) (hy : y.cls ≠ "java/lang/invoke/MethodHandle" ∧ y.cls ≠ "java/lang/invoke/VarHandle")
    (hM : sm_MetT l D cl tys N0 cs K y ws rm Pc h' mc ms) (hblind : FrameBlind Pc) (hrc : rm.cells = mc) (hrs : rm.slots = ms) (hfr : rm.frames + 1 ≤ R.frames) (hlo : 8 + (maxL + 11) + rm.locals ≤ R.locals)
    (hws : ∀ w ∈ ws, ∀ (a' : Array Value) (U : State), s.WarmedH U.vm → w.before a' U = true) (hcw : Cond.code y bytes maxL ret ∈ ws)
    {b : Addr} {cellB : Cell} (hcell : T.heap[b]? = some cellB) (hobj : cellB.vm.isStatics = false) (hcls : s.vm.findClass C = some cellB.cls)
    {g : JFrame} (hg : g.method = m) (hsize : g.locals.size = c.maxLocals) {argsL rest : List Value} (hlen : ∀ sig, parseMethodDescriptor y.desc = some sig → argsL.length = sig.parameters.length)
    (hstack : g.stack = argsL.reverse ++ .ref b :: rest) (hW : 2 * g.monitorRoom + (rest.map fun v => v.category).sum ≤ 8) (hdg : decode c.code g.pc = .ok (.invokevirtual index, 3))
    (hcl : cells + mc ≤ R.cells ∧ slots + ms ≤ R.slots) (hPc : ∀ U : State, U.heap = T.heap → s.WarmedH U.vm → Pc (Value.ref b :: argsL).toArray U) :
    ∃ (T' : State) (L : List Loc), Stand p l e R s m args below meth c T' (locs ++ L) (cells + mc) (slots + ms) ∧ (∀ q ∈ L, N0 ≤ q.base) ∧ sm_P D cl tys N0 cs K h' T'.heap ∧ (∀ q, q < N0 → T'.heap[q]? = T.heap[q]?) ∧
      ∀ target, Steps p.tables e below ((T'.setTop { g with stack := rest }).pushFrame (.throwing (sm_ad N0 cs (h'.length - 1)))) target → Steps p.tables e below (T.setTop g) target := by
  obtain ⟨mk, methM, hnamed, hmethM, hstM, habM⟩ := Cond.instanceMethod_spec hinst
  obtain ⟨methM', cM, hmethM', -, -, -, -, -, -, hsigM⟩ := Cond.code_spec hnamed hcode
  cases hmethM.symm.trans hmethM'
  obtain ⟨c2, r2, m2, q1, q2, q3, q4, kP, hkP, hkPi⟩ := Cond.selects_spec hsel
  cases hcls.symm.trans q1
  cases (State.methodFound?_of_named hnamed hy).symm.trans q2
  cases hnamed.symm.trans q3
  have hselP : selectMethod e.platform s.vm cellB.cls mk = .method mk := by rw [Launch.admits_selectMethod X.admits]; exact q4
  obtain ⟨vm₁, X₁, hstep₁⟩ := X.invokevirtual hexec hown hlink hnamed hmethM hstM hkP hkPi hy (a := b) (cell := cellB) hcell
    (fun z h => by rw [h] at hobj; cases hobj) hselP hmethM habM hkP hkPi (g := g) hg (argsL := argsL) (rest := rest) (hlen _ hsigM) hstack hdg
  have hn : (T.setVm vm₁).methodNamed? y = some mk := X₁.named hnamed
  have hdg' : decode c.code ({ g with stack := rest } : JFrame).pc = .ok (.invokevirtual index, 3) := hdg
  have h : At (T.setVm vm₁) ({ g with stack := rest } : JFrame).method c below := by show At _ g.method c below; rw [hg]; exact X₁.here
  obtain ⟨methY, cY, hmY, hcY, -, hlY, -⟩ := Cond.code_spec hn (hws _ hcw (Value.ref b :: argsL).toArray _ X₁.warmed)
  obtain ⟨kY, hkY, -⟩ := className_of_methodNamed hn
  have hinitY : kY.init = .initialized := Cond.initialized_spec (args := (Value.ref b :: argsL).toArray) (findClass_of_methodNamed hn) hkY (word_at X₁.warmed (Or.inl (by first | rfl | simp [Cond.onTables, Cond.keeps, Cond.steady])) hini)
  have happ : (headSpec ws rm).appliesLoose y e.platform ((T.setVm vm₁).calling { g with stack := rest } mk (Value.ref b :: argsL).toArray) = true :=
    Spec.appliesLoose_calling (g := { g with stack := rest }) h hdg' hn hkY hinitY
      (X₁.room_calling (g := { g with stack := rest }) (R' := (headSpec ws rm).room) hsize hmY hcY hfr (by rw [hlY]; show 2 * g.monitorRoom + (rest.map fun v => v.category).sum + _ + rm.locals ≤ _; omega) (by show cells + rm.cells ≤ _; omega) (by show slots + rm.slots ≤ _; omega)) (atoms_intro fun w hw => hws w hw _ _ X₁.warmed)
  obtain ⟨mid, hmid⟩ := h.above
  have hfr2 : ((T.setVm vm₁).setTop { g with stack := rest }).frames = (.java { g with stack := rest } :: mid) ++ below := by rw [State.frames_setTop' _ h.top, hmid]; rfl
  obtain ⟨o, s₂, hsteps, -, hend, hq⟩ := Steps.callFree hM p X.admits X.cas X.clock (acts := []) hfr2 happ (hblind _ _ _ _ (hPc (T.setVm vm₁) rfl X₁.warmed)) trivial
  obtain ⟨rfl, hw, ⟨L, hsame, hL⟩, hp, hk⟩ := hq
  rw [State.frames_setTop' _ h.top, X₁.tail] at hend
  obtain ⟨T', X', hW', hsame', ht⟩ := X₁.outOfThrown (g := { g with stack := rest }) hg hend hw hsame
  have hheap : s₂.heap = T'.heap := by rw [ht]; exact Stand.throwing_heap T' _ _
  refine ⟨T', L, X', hL, by rw [← hheap]; exact hp, fun q hq => by rw [← hheap]; exact hk q hq, fun target hrest => hstep₁ _ fun acts => ?_⟩
  rw [doInvoke_state]
  refine hsteps.trans ?_
  rw [ht]
  exact hrest
/-- an entry of a handler table whose class is linked, resolved or not: the object's class decides -/
theorem sm_goClass {E : CtlPost} {d : Bool} {acts : List Action} {f : JFrame} {a : Addr} {QQ : Handler → Pre} {x : ExceptionTableEntry} {t : List ExceptionTableEntry} {cX : ClassId} {cell : Cell} {vm' : Vm} (hx : covers x f.pc = true) (h0 : x.catchType ≠ 0)
    (hg : (Jvm.resolveClass f.method.cls x.catchType).Gives e.toSetting s.vm (.ok cX) vm') (hsz : vm'.classes.size ≤ s.vm.classes.size) (hcell : s.heap[a]? = some cell) (hobj : ∀ k, cell.vm ≠ .statics k)
    (hk : ∃ k, vm'.classes[cell.cls]? = some k) (hc : ∃ k, vm'.classes[cX]? = some k) :
    wp (findHandler.go f a (x :: t)) QQ E e d acts s ↔ if vm'.assignable cell.cls cX = true then QQ (.found x.handlerPc) (VmOp.dirties (VmOp.resolveClass f.method.cls x.catchType) d) (VmOp.acts (VmOp.resolveClass f.method.cls x.catchType) acts) (s.setVm vm') else wp (findHandler.go f a t) QQ E e (VmOp.dirties (VmOp.resolveClass f.method.cls x.catchType) d) (VmOp.acts (VmOp.resolveClass f.method.cls x.catchType) acts) (s.setVm vm') := by
  simp only [covers] at hx
  obtain ⟨ha, ht⟩ := hg.op (op := VmOp.resolveClass f.method.cls x.catchType) rfl
  cases hfit : vm'.assignable cell.cls cX <;>
    simp [findHandler.go, hx, h0, ha, ht, hsz, hcell, hobj, hk, hc, hfit, VmOp.dirties, VmOp.acts]
end SMC
end
section
/-! HANDLERS: the search through a method's table -/
/-- the first entry (from, to, handler, pool entry, class number) that covers pc and takes class x -/
def sm_find (pc x : Nat) : List (Nat × Nat × Nat × Nat × Nat) → Option Nat
  | [] => none
  | (a, b, hp, _, z) :: r => if a ≤ pc ∧ pc < b then (if z = x then some hp else sm_find pc x r) else sm_find pc x r
/-- classes that cannot be cast -/
def sm_N (D : va_G) (nc : List (Nat × Nat)) (U : State) : Prop := ∀ q ∈ nc, U.vm.assignable (D.1 q.1) (D.1 q.2) = false
/-- what the tables must hold of a handler -/
def sm_okH (Ts : List Cond) (cl : List vw_C) (nc : List (Nat × Nat)) (own : String) (x : Nat) (q : Nat × Nat × Nat × Nat × Nat) : Prop :=
  q.2.2.2.1 ≠ 0 ∧ ∃ (Z : String) (T : u_T), cl[q.2.2.2.2]? = some (Z, T, 0) ∧ Cond.classLink own q.2.2.2.1 Z ∈ Ts ∧ ((q.2.2.2.2 = x ∧ Cond.castable Z Z ∈ Ts) ∨ (q.2.2.2.2 ≠ x ∧ (x, q.2.2.2.2) ∈ nc))
section SMH
variable {D : va_G} {cl : List vw_C} {tys : List (ClassId × FieldType)} {N0 : Nat} {cs : Nat → Nat} {Ts : List Cond} {K : sm_H} {nc : List (Nat × Nat)}
variable {p : Program} {l : Launch} {e : Env} {R : Room} {s : State} {m : MethodId} {args : Array Value} {below : List Frame} {meth : Method} {c : Code} {T : State} {locs : List Loc} {cells slots : Nat}
set_option maxHeartbeats 4000000 in
theorem sm_goL (hpl : e.platform.magicAccessors = ({} : Platform).magicAccessors) {own : String} {f : JFrame} {a : Addr} {cell : Cell} {x hp : Nat} {S : State} (hown : s.vm.findClass own = some f.method.cls) (hts : ∀ w ∈ Ts, w.before args s = true) (hK : va_K D cl tys s) (hN : sm_N D nc s)
    (hcell : S.heap[a]? = some cell) (hobj : cell.vm = .none) (hcx : cell.cls = D.1 x) (hxc : ∃ k, s.vm.classes[D.1 x]? = some k) :
    ∀ (al : List (Nat × Nat × Nat × Nat × Nat)) (tl : List ExceptionTableEntry) (vm : Vm), tl.map (fun h => (h.startPc, h.endPc, h.handlerPc, h.catchType)) = al.map (fun q => (q.1, q.2.1, q.2.2.1, q.2.2.2.1)) → (∀ q ∈ al, q.1 ≤ f.pc ∧ f.pc < q.2.1 → sm_okH Ts cl nc own x q) → s.WarmedH vm → sm_find f.pc x al = some hp →
      ∃ vm', s.WarmedH vm' ∧ ∀ (QQ : Handler → Pre) (E : CtlPost) (d : Bool) (acts : List Action), (∀ d', QQ (.found hp) d' acts (S.setVm vm')) → wp (findHandler.go f a tl) QQ E e d acts (S.setVm vm) := by
  intro al
  induction al with
  | nil => intro tl vm _ _ _ hf; simp [sm_find] at hf
  | cons q al ih =>
    intro tl vm hmap hok hW hf
    cases tl with
    | nil => simp at hmap
    | cons t tl =>
      simp only [List.map_cons, List.cons.injEq, Prod.mk.injEq] at hmap
      obtain ⟨⟨m1, m2, m3, m4⟩, hmap⟩ := hmap
      obtain ⟨q1, q2, q3, q4, q5⟩ := q
      dsimp only at m1 m2 m3 m4
      simp only [sm_find] at hf
      by_cases hcov : q1 ≤ f.pc ∧ f.pc < q2
      · rw [if_pos hcov] at hf
        have hcv : covers t f.pc = true := by simp [covers, m1, m2, hcov.1, hcov.2]
        obtain ⟨k0, Z, TZ, k1, k2, k3⟩ := hok _ List.mem_cons_self hcov
        dsimp only at k0 k1 k2 k3
        obtain ⟨cZ, hcZ, hcl⟩ := Cond.classLink_spec hown (hts _ k2) e.platform hpl
        have hDZ : D.1 q5 = cZ := Option.some.inj ((hK.1 q5 _ k1).2.1.symm.trans hcZ)
        obtain ⟨dk, _, _, kt, hd, _, _, _, _, hkt, _, hopen⟩ := hcl.here
        have hcl₀ := hW.classLinks hcl
        have hW' : s.WarmedH (vm.noted f.method.cls q4 (.cls cZ)) := hW.noted hd hopen (State.rightAt_cls hcl)
        have hgv := resolveClass_links e.toSetting hcl₀
        obtain ⟨kx, hkx⟩ := hxc
        obtain ⟨kx', hkx', -⟩ := hW'.alike.2.2 _ _ hkx
        obtain ⟨kt', hkt', -⟩ := hW'.alike.2.2 _ _ hkt
        have hszv : (vm.noted f.method.cls q4 (.cls cZ)).classes.size ≤ vm.classes.size := by no_record
        have hgo := fun (QQ : Handler → Pre) (E : CtlPost) (d : Bool) (acts : List Action) => sm_goClass (e := e) (s := S.setVm vm) (E := E) (d := d) (acts := acts) (f := f) (a := a) (QQ := QQ) (x := t) (t := tl) (cX := cZ) (cell := cell) (vm' := vm.noted f.method.cls q4 (.cls cZ)) hcv (by rw [m4]; exact k0) (by rw [m4]; exact hgv) hszv hcell (fun k z => by rw [hobj] at z; cases z) ⟨kx', by rw [hcx]; exact hkx'⟩ ⟨kt', hkt'⟩
        rcases k3 with ⟨rfl, k3⟩ | ⟨hne, k3⟩
        · rw [if_pos rfl] at hf
          cases hf
          have hasg : (vm.noted f.method.cls q4 (.cls cZ)).assignable cell.cls cZ = true := by
            rw [hW'.alike.assignable, hcx, hDZ]
            obtain ⟨c3, c4, z1, z2, z3⟩ := Cond.castable_spec (args := args) (first := s) (o := none) (s := s) (idx := []) (hts _ k3)
            cases z1.symm.trans hcZ
            cases z2.symm.trans hcZ
            exact z3
          refine ⟨_, hW', fun QQ E d acts hQ => ?_⟩
          rw [hgo QQ E d acts, if_pos hasg, m3]
          exact hQ _
        · rw [if_neg hne] at hf
          have hasg : (vm.noted f.method.cls q4 (.cls cZ)).assignable cell.cls cZ = false := by
            rw [hW'.alike.assignable, hcx, ← hDZ]
            exact hN _ k3
          obtain ⟨vm', g1, g2⟩ := ih tl _ hmap (fun z hz => hok z (List.mem_cons_of_mem _ hz)) hW' hf
          refine ⟨vm', g1, fun QQ E d acts hQ => ?_⟩
          rw [hgo QQ E d acts, if_neg (by rw [hasg]; decide)]
          exact g2 QQ E _ acts hQ
      · rw [if_neg hcov] at hf
        have hcv : covers t f.pc = false := by
          simp only [covers, m1, m2, Bool.and_eq_false_iff, decide_eq_false_iff_not]
          omega
        obtain ⟨vm', g1, g2⟩ := ih tl vm hmap (fun z hz => hok z (List.mem_cons_of_mem _ hz)) hW hf
        refine ⟨vm', g1, fun QQ E d acts hQ => ?_⟩
        rw [W.findHandler_go_skip hcv]
        exact g2 QQ E d acts hQ
/-- the exception is caught: the walk goes on at the handler -/
theorem sm_caught (X : Stand p l e R s m args below meth c T locs cells slots) {own : String} {a : Addr} {cell : Cell} {x hp : Nat} {g : JFrame} (hg : g.method = m) (al : List (Nat × Nat × Nat × Nat × Nat)) (hal : c.exceptionTable.toList.map (fun h => (h.startPc, h.endPc, h.handlerPc, h.catchType)) = al.map (fun q => (q.1, q.2.1, q.2.2.1, q.2.2.2.1)))
    (hown : s.vm.findClass own = some m.cls) (hts : ∀ w ∈ Ts, w.before args s = true) (hK : va_K D cl tys s) (hN : sm_N D nc s) (hcell : T.heap[a]? = some cell) (hobj : cell.vm = .none) (hcx : cell.cls = D.1 x) (hxc : ∃ k, s.vm.classes[D.1 x]? = some k)
    (hok : ∀ q ∈ al, q.1 ≤ g.pc ∧ g.pc < q.2.1 → sm_okH Ts cl nc own x q) (hf : sm_find g.pc x al = some hp) :
    ∃ vm', Stand p l e R s m args below meth c (T.setVm vm') locs cells slots ∧ ∀ target, Steps p.tables e below ((T.setVm vm').setTop { g with pc := hp, stack := [.ref a] }) target → Steps p.tables e below ((T.setTop g).pushFrame (.throwing a)) target := by
  have hpl : e.platform.magicAccessors = ({} : Platform).magicAccessors := by rw [X.admits.platform]
  obtain ⟨vm', g1, g2⟩ := sm_goL (S := (T.setTop g).pushFrame (.throwing a)) (f := g) (a := a) hpl (by rw [hg]; exact hown) hts hK hN (by rw [Stand.throwing_heap]; exact hcell) hobj hcx hxc al c.exceptionTable.toList T.vm hal hok X.warmed hf
  have hS : ((T.setTop g).pushFrame (.throwing a)).setVm T.vm = (T.setTop g).pushFrame (.throwing a) := by
    have := State.setVm_self ((T.setTop g).pushFrame (.throwing a))
    rw [Stand.throwing_vm] at this
    exact this
  rw [hS] at g2
  refine ⟨vm', X.noted g1, fun target hrest => ?_⟩
  have h : At T g.method c below := by rw [hg]; exact X.here
  have hm : ((T.setTop g).pushFrame (.throwing a)).vm.method? g.method = some meth := by rw [Stand.throwing_vm, hg]; exact X.method'
  obtain ⟨hgo, hw⟩ := h.throwing a
  refine Steps.head hgo hw ?_
  have key : ∀ r : List Frame, (stepThrowing e ((T.setTop g).pushFrame (.throwing a)) a (.java g :: r)).Is ((((T.setTop g).pushFrame (.throwing a)).setVm vm').setFrames (.java { g with pc := hp, stack := [.ref a] } :: r)) [] := by
    intro r
    simp only [stepThrowing, searchFrame, vmDo]
    generalize hr : Sem.go _ e false [] ((T.setTop g).pushFrame (.throwing a)) = res
    obtain ⟨as, rfl, ha⟩ := Sem.eq_ok_of hr (a := Handler.found hp) (s' := ((T.setTop g).pushFrame (.throwing a)).setVm vm') (acts' := []) (by
      rw [wp_bind', W.findHandler_eq hm X.code]
      refine g2 _ _ _ _ (fun d' => ?_)
      simp)
    exact ⟨rfl, ha⟩
  rw [stepThread_throwing (frames_entered h.top _), (key _).1]
  obtain ⟨g₀, hg0⟩ := Option.isSome_iff_exists.mp h.top
  obtain ⟨r, hr⟩ := State.topJava?_eq_some.mp hg0
  have hr2 : (T.setVm vm').frames = .java g₀ :: r := hr
  rw [State.setTop_of_frames _ hr2] at hrest
  rw [hr]
  have e1 : ((((T.setTop g).pushFrame (.throwing a)).setVm vm').setFrames (.java { g with pc := hp, stack := [.ref a] } :: (Frame.java g₀ :: r).tail)) = ((T.setVm vm').setFrames (.java { g with pc := hp, stack := [.ref a] } :: r)) := by
    rw [State.pushFrame, State.setTop_of_frames _ hr]
    show ((((T.setFrames _).setFrames _).setFrames _).setVm vm') = ((T.setFrames _).setVm vm')
    rw [State.setFrames_setFrames, State.setFrames_setFrames]
    rfl
  rw [e1]
  exact hrest
end SMH
end
section
/-! METHODS WITH HANDLERS -/
/-- such a method: locals, kind of the answer, instructions; its handlers -/
abbrev sm_MW : Type := sm_M × List (Nat × Nat × Nat × Nat × Nat)
def sm_runW (P : Nat → Option sm_M) (PW : Nat → Option sm_MW) : Nat → Nat → Nat → Nat → sm_L → List Value → sm_H → Option (Option Value × sm_H)
  | 0, _, _, _, _, _, _ => none
  | n + 1, d, m, pc, ls, st, h => match PW m with
    | none => none
    | some ((_, k, tab), al) => match tab[pc]? with
      | some (some q) => match sm_step q pc ls st h with
        | some (.inl (pc', ls', st', h')) => sm_runW P PW n d m pc' ls' st' h'
        | some (.inr (.inl v)) => if sm_okret k v then some (v, h) else none
        | some (.inr (.inr (m', as, r))) => match d, P m' with
          | d' + 1, some (nl, _, _) => if (sm_slots as).length ≤ nl ∧ (r.map fun v => v.category).sum ≤ 8 then (match sm_run P n d' m' 0 (sm_entry nl as) [] h with
            | some (v, h') => sm_runW P PW n d m (pc + 3) ls (sm_back v r) h'
            | none => match sm_runT P n d' m' 0 (sm_entry nl as) [] h with
              | some (x, h') => match sm_find pc x al with
                | some hp => sm_runW P PW n d m hp ls [.ref (h'.length - 1)] h'
                | none => none
              | none => none) else none
          | _, _ => none
        | none => none
      | _ => none
theorem sm_runW_mono {P : Nat → Option sm_M} {PW : Nat → Option sm_MW} : ∀ (n d m pc : Nat) (ls : sm_L) (st : List Value) (h : sm_H) (v : Option Value) (h' : sm_H), sm_runW P PW n d m pc ls st h = some (v, h') → h.length ≤ h'.length ∧ sm_sl h ≤ sm_sl h' := by
  intro n
  induction n with
  | zero => intro d m pc ls st h v h' hr; simp [sm_runW] at hr
  | succ n ih =>
    intro d m pc ls st h v h' hr
    unfold sm_runW at hr
    split at hr
    · cases hr
    · split at hr
      · split at hr
        · next hs =>
          have h1 := sm_step_mono hs
          have h2 := ih _ _ _ _ _ _ _ _ hr
          exact ⟨Nat.le_trans h1.1 h2.1, Nat.le_trans h1.2 h2.2⟩
        · split at hr
          · cases hr; exact ⟨Nat.le_refl _, Nat.le_refl _⟩
          · cases hr
        · split at hr
          · split at hr
            · split at hr
              · next hc =>
                have g1 := sm_run_mono _ _ _ _ _ _ _ _ _ hc
                have g2 := ih _ _ _ _ _ _ _ _ hr
                exact ⟨Nat.le_trans g1.1 g2.1, Nat.le_trans g1.2 g2.2⟩
              · split at hr
                · next hc =>
                  split at hr
                  · have g1 := sm_runT_mono _ _ _ _ _ _ _ _ _ hc
                    have g2 := ih _ _ _ _ _ _ _ _ hr
                    exact ⟨Nat.le_trans g1.1 g2.1, Nat.le_trans g1.2 g2.2⟩
                  · cases hr
                · cases hr
            · cases hr
          · cases hr
        · cases hr
      · cases hr
def sm_roomW (d mc ms : Nat) : Room := { frames := d + 9, cells := mc, slots := ms, locals := 64 * d + 256 }
/-- the tables are right of a method with handlers; a call there is by the object's own class -/
def sm_okW (Ts : List Cond) (sx : List (String × Nat × String × Nat)) (zx : List (String × String × String × Nat)) (oc : (List (Nat × Nat × String × String × String × Value) × List (String × Nat × MethodName × String))) (K : sm_H) (cl : List vw_C) (nc : List (Nat × Nat)) (Y YW : Nat → sm_Y) (mi : Nat) (M : sm_MW) : Prop :=
  Cond.codeWith (YW mi).1 (YW mi).2.1 M.1.1 (YW mi).2.2 (M.2.map fun q => (q.1, q.2.1, q.2.2.1, q.2.2.2.1)) ∈ Ts ∧ plainName (YW mi).1.cls = true ∧ sm_nmh (YW mi).1.cls ∧ M.1.1 ≤ 45 ∧ sm_rk M.1.2.1 (YW mi).2.2 ∧
  (∀ (pc : Nat) (q : sm_I), M.1.2.2[pc]? = some (some q) → decode (YW mi).2.1 pc = .ok (q.1, q.2.1) ∧ sm_lenOk q.1 q.2.1 = true ∧ sm_okI Ts sx zx oc K cl (YW mi).1.cls (YW mi).1.name pc q.1 q.2.2 ∧ sm_okC Ts oc cl Y (YW mi).1.cls q.1 q.2.2 ∧
    (∀ idx k n ps ci m1, q.1 = .invokevirtual idx → q.2.2 = k :: n :: ps → sm_pick ci ps = some m1 → ∃ (C : String) (T : u_T) (N : Nat), cl[ci]? = some (C, T, N) ∧ Cond.instanceMethod (Y m1).1 ∈ Ts ∧ Cond.initialized (Y m1).1.cls ∈ Ts ∧ Cond.methodLink (YW mi).1.cls idx (Y m1).1 ∈ Ts ∧ Cond.selects C (Y m1).1 (Y m1).1 ∈ Ts ∧ sm_par (Y m1).1.desc = some n) ∧
    (∀ x hp, sm_find pc x M.2 = some hp → (∃ X T, cl[x]? = some (X, T, 0)) ∧ ∀ z ∈ M.2, z.1 ≤ pc ∧ pc < z.2.1 → sm_okH Ts cl nc (YW mi).1.cls x z) ∧
    ((∃ x hp, sm_find pc x M.2 = some hp) → (∀ idx, q.1 = .invokestatic idx → False) ∧ ∀ idx, q.1 = .invokespecial idx → False))
section SMX
variable {l : Launch} {D : va_G} {cl : List vw_C} {tys : List (ClassId × FieldType)} {N0 : Nat} {cs : Nat → Nat} {Ts : List Cond} {sx : List (String × Nat × String × Nat)} {zx : List (String × String × String × Nat)} {oc : (List (Nat × Nat × String × String × String × Value) × List (String × Nat × MethodName × String))} {K : sm_H} {Y YW : Nat → sm_Y} {P : Nat → Option sm_M} {PW : Nat → Option sm_MW} {ex : List Cond} {nc : List (Nat × Nat)}
/-- the end of a method that returns -/
theorem sm_retW {p : Program} {e : Env} {R : Room} {s : State} {m : MethodId} {args : Array Value} {below : List Frame} {meth : Method} {c : Code} {H : Heap} {locs : List Loc} {cells slots kr pc len : Nat} {LS : Array Slot} {cc : ByteArray} {ret : Option FieldType} {i : Instr} {rs : List Nat} {ls : sm_L} {st : List Value} {h : sm_H} {v : Option Value}
    (hx : p.tables.exec = Jvm.exec) (hb : c.code = cc) (hrt : meth.sig.returnType = ret) (hlocks : meth.locks = false) (hP : sm_P D cl tys N0 cs K h H) (hF : ∀ q, q < N0 → H[q]? = s.heap[q]?) (hlocs : ∀ x ∈ locs, N0 ≤ x.base)
    (g5 : sm_rk kr ret) (d1 : decode cc pc = .ok (i, len)) (d2 : sm_lenOk i len = true) (hs : sm_step (i, len, rs) pc ls st h = some (.inr (.inl v))) (hkr : sm_okret kr v = true) :
    W p l e R s m args below meth c H locs cells slots (MQ below (sm_Qc D cl tys N0 cs K v h) args s cells slots (fun q => N0 ≤ q)) (F0 m pc LS (st.map (sm_mv (sm_ad N0 cs)))) := by
  have hQQ : ∀ (o : Option Value) (t : State), o = v.map (sm_mv (sm_ad N0 cs)) → t.heap = H → sm_Qc D cl tys N0 cs K v h args s (.returned o) t := fun o t ho ht => ⟨by rw [ho], by rw [ht]; exact hP, fun q hq => by rw [ht]; exact hF q hq⟩
  rcases sm_ret_inv hs with ⟨rfl, x, rfl, rfl⟩ | ⟨rfl, x, rfl, rfl⟩ | ⟨rfl, x, rfl, rfl⟩ | ⟨rfl, rfl, rfl⟩
  · simp only [sm_lenOk, beq_iff_eq] at d2
    subst d2
    rcases g5 with ⟨rfl, -⟩ | ⟨rfl, h5⟩ | ⟨rfl, -⟩ | ⟨rfl, -⟩ | ⟨rfl, h5⟩ | ⟨rfl, h5⟩ | ⟨rfl, h5⟩
    · simp [sm_okret] at hkr
    · exact W.iret hx hb (hrt.trans h5) (fun t ht _ => hQQ _ t rfl ht) hlocs d1 (hlocks := hlocks)
    · simp [sm_okret] at hkr
    · simp [sm_okret] at hkr
    · exact W.zret hx hb (hrt.trans h5) (sm_fit_ok (ad := id) (t := 3) (v := .int x) (by simpa [sm_okret, sm_fit] using hkr) (Or.inr (Or.inr (Or.inr (Or.inl ⟨rfl, rfl⟩))))).1 (fun t ht _ => hQQ _ t rfl ht) hlocs d1 (hlocks := hlocks)
    · exact W.zret hx hb (hrt.trans h5) (sm_fit_ok (ad := id) (t := 4) (v := .int x) (by simpa [sm_okret, sm_fit] using hkr) (Or.inr (Or.inr (Or.inr (Or.inr ⟨rfl, rfl⟩))))).1 (fun t ht _ => hQQ _ t rfl ht) hlocs d1 (hlocks := hlocks)
    · have hb2 : x = 0 ∨ x = 1 := by simpa [sm_okret] using hkr
      exact W.zret hx hb (hrt.trans h5) (by rcases hb2 with rfl | rfl <;> rfl) (fun t ht _ => hQQ _ t rfl ht) hlocs d1 (hlocks := hlocks)
  · simp only [sm_lenOk, beq_iff_eq] at d2
    subst d2
    rcases g5 with ⟨rfl, -⟩ | ⟨rfl, -⟩ | ⟨rfl, h5⟩ | ⟨rfl, -⟩ | ⟨rfl, -⟩ | ⟨rfl, -⟩ | ⟨rfl, h5⟩
    · simp [sm_okret] at hkr
    · simp [sm_okret] at hkr
    · exact W.lret hx hb (hrt.trans h5) (fun t ht _ => hQQ _ t rfl ht) hlocs d1 (hlocks := hlocks)
    · simp [sm_okret] at hkr
    · simp [sm_okret] at hkr
    · simp [sm_okret] at hkr
    · simp [sm_okret] at hkr
  · simp only [sm_lenOk, beq_iff_eq] at d2
    subst d2
    rcases g5 with ⟨rfl, -⟩ | ⟨rfl, -⟩ | ⟨rfl, -⟩ | ⟨rfl, h5⟩ | ⟨rfl, -⟩ | ⟨rfl, -⟩ | ⟨rfl, h5⟩
    · simp [sm_okret] at hkr
    · simp [sm_okret] at hkr
    · simp [sm_okret] at hkr
    · rcases h5 with ⟨nm, h5⟩ | ⟨nm, h5⟩
      · exact W.aret hx hb (hrt.trans h5) (Or.inl ⟨_, rfl⟩) (Or.inr ⟨_, rfl⟩) (fun t ht _ => hQQ _ t rfl ht) hlocs d1 (hlocks := hlocks)
      · exact W.aret hx hb (hrt.trans h5) (Or.inr ⟨_, rfl⟩) (Or.inr ⟨_, rfl⟩) (fun t ht _ => hQQ _ t rfl ht) hlocs d1 (hlocks := hlocks)
    · simp [sm_okret] at hkr
    · simp [sm_okret] at hkr
    · simp [sm_okret] at hkr
  · simp only [sm_lenOk, beq_iff_eq] at d2
    subst d2
    rcases g5 with ⟨rfl, h5⟩ | ⟨rfl, -⟩ | ⟨rfl, -⟩ | ⟨rfl, -⟩ | ⟨rfl, -⟩ | ⟨rfl, -⟩ | ⟨rfl, h5⟩
    · exact W.vret hx hb (hrt.trans h5) (fun t ht _ => hQQ _ t rfl ht) hlocs d1 (hlocks := hlocks)
    · simp [sm_okret] at hkr
    · simp [sm_okret] at hkr
    · simp [sm_okret] at hkr
    · simp [sm_okret] at hkr
    · simp [sm_okret] at hkr
    · simp [sm_okret] at hkr
end SMX
end
section
/-! A run of a method with handlers is a run of the JVM -/
theorem sm_runT_last {P : Nat → Option sm_M} : ∀ (n d m pc : Nat) (ls : sm_L) (st : List Value) (h : sm_H) (x : Nat) (h' : sm_H), sm_runT P n d m pc ls st h = some (x, h') → ∃ h2, h' = h2 ++ [sm_exc x] := by
  intro n
  induction n with
  | zero => intro d m pc ls st h v h' hr; simp [sm_runT] at hr
  | succ n ih =>
    intro d m pc ls st h v h' hr
    unfold sm_runT at hr
    split at hr
    · cases hr
    · split at hr
      · split at hr
        · split at hr
          · cases hr; exact ⟨h, rfl⟩
          · cases hr
        · split at hr
          · exact ih _ _ _ _ _ _ _ _ hr
          · cases hr
          · split at hr
            · split at hr
              · split at hr
                · exact ih _ _ _ _ _ _ _ _ hr
                · cases hr
              · cases hr
            · cases hr
          · cases hr
      · cases hr
section SMZ
variable {l : Launch} {D : va_G} {cl : List vw_C} {tys : List (ClassId × FieldType)} {N0 : Nat} {cs : Nat → Nat} {Ts : List Cond} {sx : List (String × Nat × String × Nat)} {zx : List (String × String × String × Nat)} {oc : (List (Nat × Nat × String × String × String × Value) × List (String × Nat × MethodName × String))} {K : sm_H} {Y YW : Nat → sm_Y} {P : Nat → Option sm_M} {PW : Nat → Option sm_MW} {ex : List Cond} {nc : List (Nat × Nat)}
def sm_GoodT (Ts : List Cond) (sx : List (String × Nat × String × Nat)) (ex : List Cond) (cl : List vw_C) (Y : Nat → sm_Y) (P : Nat → Option sm_M) : Prop := ∀ mi M pc q x, P mi = some M → M.2.2[pc]? = some (some q) → sm_thr q = some x → ∃ ix, q.1 = .new ix ∧ sm_okT Ts sx ex cl (Y mi).1.cls (Y mi).2.1 pc ix x
theorem sm_blindT {as : List Value} {h : sm_H} : FrameBlind (sm_PcT D cl tys sx zx oc K ex N0 cs as h) := fun a U g mk q => ⟨sm_blind a U g mk q.1, fun w hw v V h1 h2 => q.2 w hw v V h1 h2⟩
set_option maxHeartbeats 4000000 in
theorem sm_soundW (hG : sm_Good Ts sx zx oc K cl Y P) (hGT : sm_GoodT Ts sx ex cl Y P) (hGW : ∀ mi M, PW mi = some M → sm_okW Ts sx zx oc K cl nc Y YW mi M) (hgw : ∀ w ∈ Ts, goodWord w = true) (hT : sm_T tys) (hfl : l.flags = pinnedFlags ++ [noTraceFlag]) :
  ∀ (n d mi pc : Nat) (ls : sm_L) (st : List Value) (h : sm_H) (v : Option Value) (h' : sm_H) (M : sm_MW), PW mi = some M → sm_runW P PW n d mi pc ls st h = some (v, h') → ls.length = M.1.1 →
  ∀ (p : Program) (e : Env) (s : State) (m : MethodId) (args : Array Value) (below : List Frame) (meth : Method) (c : Code) (H : Heap) (locs : List Loc) (LS : Array Slot) (h0 : sm_H), p.tables.exec = Jvm.exec → c.code = (YW mi).2.1 → meth.sig.returnType = (YW mi).2.2 → c.maxLocals = M.1.1 → c.exceptionTable.toList.map (fun h => (h.startPc, h.endPc, h.handlerPc, h.catchType)) = M.2.map (fun q => (q.1, q.2.1, q.2.2.1, q.2.2.2.1)) → s.vm.findClass (YW mi).1.cls = some m.cls → meth.name = (YW mi).1.name → (∀ w ∈ Ts, w.before args s = true) → sm_Ex ex N0 s → sm_N D nc s → meth.locks = false → va_K D cl tys s → sm_X sx zx oc N0 cs s →
    sm_P D cl tys N0 cs K h H → sm_LR (sm_ad N0 cs) ls LS → (∀ q, q < N0 → H[q]? = s.heap[q]?) → s.heap.size ≤ H.size → (∀ x ∈ locs, N0 ≤ x.base) → h0.length ≤ h.length → sm_sl h0 ≤ sm_sl h →
    W p l e (sm_roomW d (h'.length - h0.length) (sm_sl h' - sm_sl h0)) s m args below meth c H locs (h.length - h0.length) (sm_sl h - sm_sl h0) (MQ below (sm_Qc D cl tys N0 cs K v h') args s (h'.length - h0.length) (sm_sl h' - sm_sl h0) (fun q => N0 ≤ q)) (F0 m pc LS (st.map (sm_mv (sm_ad N0 cs)))) := by
  intro n
  induction n with
  | zero => intro d mi pc ls st h v h' M hM hr; simp [sm_runW] at hr
  | succ n ih =>
    intro d mi pc ls st h v h' M hM hr hlen p e s m args below meth c H locs LS h0 hx hb hrt hml hhd hown hmn hts hEx hN hlocks hK hS hP hL hF hZ0 hlocs hz1 hz2
    obtain ⟨g1, g2, g3, g4, g5, g6⟩ := hGW mi M hM
    obtain ⟨⟨nl, kr, tab⟩, al⟩ := M
    unfold sm_runW at hr
    rw [hM] at hr
    dsimp only at hr hlen hml hhd g1 g4 g5 g6
    split at hr
    · next q hq =>
      obtain ⟨d1, d2, d3, d4, d5, d6, d7⟩ := g6 pc q hq
      obtain ⟨i, len, rs⟩ := q
      dsimp only at d1 d2 d3 d4 d5 d7
      split at hr
      · next pc1 ls1 st1 h1 hs =>
        have hm1 := sm_step_mono hs
        have hm2 := sm_runW_mono _ _ _ _ _ _ _ _ _ hr
        refine sm_next (h' := h1) hx hb hts hown hK hT hS hF hZ0 (by rw [hmn]; exact d3) d2 d1 hP hL hlocs ⟨by show 1 ≤ d + 9; omega, by show 21 ≤ 64 * d + 256; omega⟩ (by rw [hml, hlen]) ⟨by show _ ≤ h'.length - h0.length; omega, by show _ ≤ sm_sl h' - sm_sl h0; omega⟩ hs ?_
        intro H' locs' LS' hP' hL' hF' hlocs'
        have e1 : h.length - h0.length + (h1.length - h.length) = h1.length - h0.length := by omega
        have e2 : sm_sl h - sm_sl h0 + (sm_sl h1 - sm_sl h) = sm_sl h1 - sm_sl h0 := by omega
        rw [e1, e2]
        exact ih d mi pc1 ls1 st1 h1 v h' _ hM hr (by rw [sm_step_len hs]; exact hlen) p e s m args below meth c H' locs' LS' h0 hx hb hrt hml hhd hown hmn hts hEx hN hlocks hK hS hP' hL' (fun q hq => (hF' q hq).trans (hF q hq)) (by have z1 := hP.1; have z2 := hP'.1; omega) hlocs' (by omega) (by omega)
      · next v1 hs =>
        split at hr
        · next hkr =>
          cases hr
          exact sm_retW hx hb hrt hlocks hP hF hlocs g5 d1 d2 hs hkr
        · cases hr
      · next m1 as r hs =>
        split at hr
        · next d1' nl1 k1 tab1 hM1 =>
          split at hr
          · next hc =>
            obtain ⟨hc1, hc2⟩ := hc
            split at hr
            · next v1 h1 hcall =>
              have hm1 := sm_run_mono _ _ _ _ _ _ _ _ _ hcall
              have hm2 := sm_runW_mono _ _ _ _ _ _ _ _ _ hr
              refine sm_callW hG hgw hT hx hb hml hown hts hK hS hP (hL.1.trans hlen) hF hlocs d1 d2 d4 hs hM1 hc1 hc2 hcall (by show d1' + 2 ≤ d1' + 1 + 9; omega) (by show 64 * d1' + 88 ≤ 64 * (d1' + 1) + 256; omega) ⟨by show _ ≤ h'.length - h0.length; omega, by show _ ≤ sm_sl h' - sm_sl h0; omega⟩ ?_
              intro H1 locs1 hP1 hF1 hl1
              have e1 : h.length - h0.length + (h1.length - h.length) = h1.length - h0.length := by omega
              have e2 : sm_sl h - sm_sl h0 + (sm_sl h1 - sm_sl h) = sm_sl h1 - sm_sl h0 := by omega
              rw [e1, e2]
              exact ih (d1' + 1) mi (pc + 3) ls (sm_back v1 r) h1 v h' _ hM hr hlen p e s m args below meth c H1 locs1 LS h0 hx hb hrt hml hhd hown hmn hts hEx hN hlocks hK hS hP1 hL (fun q hq => (hF1 q hq).trans (hF q hq)) (by have z1 := hP.1; have z2 := hP1.1; omega) hl1 (by omega) (by omega)
            · split at hr
              · next x1 h1 hcall =>
                split at hr
                · next hp hfind =>
                  have hm1 := sm_runT_mono _ _ _ _ _ _ _ _ _ hcall
                  have hm2 := sm_runW_mono _ _ _ _ _ _ _ _ _ hr
                  obtain ⟨⟨X, TX, hclx⟩, hokh⟩ := d6 x1 hp hfind
                  obtain ⟨no1, no2⟩ := d7 ⟨x1, hp, hfind⟩
                  rcases sm_call_inv hs with ⟨idx, k, n1, z, -, -⟩ | ⟨idx, k, n1, b, bs, z, -, -, -⟩ | ⟨idx, k, n1, ps, b, bs, ci, fs, rfl, rfl, ha, rfl, hbc, hpk⟩
                  · exact (no1 idx z).elim
                  · exact (no2 idx z).elim
                  · simp only [sm_lenOk, beq_iff_eq] at d2
                    subst d2
                    obtain ⟨C, T, N, w1, w2, w3, w4, w5, w6⟩ := d5 idx k n1 ps ci m1 rfl rfl hpk
                    obtain ⟨q1, q2, q3, q4, -, -⟩ := hG m1 _ hM1
                    dsimp only at q1 q4
                    obtain ⟨ea, el⟩ := sm_args_inv ha
                    have hst : (st.map (sm_mv (sm_ad N0 cs))) = (bs.map (sm_mv (sm_ad N0 cs))).reverse ++ .ref (sm_ad N0 cs b) :: r.map (sm_mv (sm_ad N0 cs)) := by rw [ea]; simp [sm_mv]
                    have hrc := va_recv hK (sm_P1 (sm_obj hP hbc)) (q0 := 0) w1 rfl
                    obtain ⟨cellB, hcB, hoB, hclB⟩ := hrc
                    have hel : (bs.map (sm_mv (sm_ad N0 cs))).length = n1 := by rw [List.length_map]; simpa using el
                    have hMet := sm_metT (l := l) (D := D) (tys := tys) (N0 := N0) (cs := cs) (as := .ref b :: bs) hG hgw hT hfl hGT hM1 hcall hc1
                    intro T0 hT0 X0
                    obtain ⟨T1, L, X1, hL1, hP1, hF1, st1⟩ := sm_callVT X0 hx (C := C) (bytes := (Y m1).2.1) (maxL := nl1) (ret := (Y m1).2.2) hown (hts _ w4) (hts _ w2) (hts _ w5) (hts _ q1) (hts _ w3) q3 hMet sm_blindT rfl rfl (by show d1' + 8 + 1 ≤ d1' + 1 + 9; omega) (by show 8 + (nl1 + 11) + (64 * d1' + 160) ≤ 64 * (d1' + 1) + 256; omega) (pay_in hts (sm_goodIn hgw q1)) List.mem_cons_self (by rw [hT0]; exact hcB) hoB hclB (g := F0 m pc LS (st.map (sm_mv (sm_ad N0 cs)))) rfl (by show LS.size = c.maxLocals; rw [hL.1, hlen, hml]) (argsL := bs.map (sm_mv (sm_ad N0 cs))) (rest := r.map (sm_mv (sm_ad N0 cs))) (fun sig hsig => by have h2 := w6; unfold sm_par at h2; rw [hsig] at h2; exact hel.trans (Option.some.inj h2).symm) hst (sm_catsum hc2) (by rw [hb]; exact d1) ⟨by show _ ≤ h'.length - h0.length; omega, by show _ ≤ sm_sl h' - sm_sl h0; omega⟩ (fun U hU hW => ⟨⟨rfl, by rw [hU, hT0]; exact hP, va_K.moved hW.alike hK, hS.at_ hW (fun q hq => by rw [hU, hT0]; exact hF q hq)⟩, hEx.at_ hW (fun q hq => by rw [hU, hT0]; exact hF q hq)⟩)
                    rw [hT0] at hF1
                    have hexc : h1[h1.length - 1]? = some (sm_exc x1) := by
                      obtain ⟨h2, rfl⟩ := sm_runT_last _ _ _ _ _ _ _ _ _ hcall
                      simp
                    obtain ⟨r9, v1, cell, v2, v3, v4, -⟩ := hP1.2.2.2 _ _ hexc
                    obtain ⟨kx, hkx⟩ := (hK.1 x1 _ hclx).2.2
                    obtain ⟨vm', X2, st2⟩ := sm_caught X1 (own := (YW mi).1.cls) (g := F0 m pc LS (r.map (sm_mv (sm_ad N0 cs)))) rfl al hhd hown hts hK hN v2 v4 v3 ⟨kx, hkx.1⟩ hokh hfind
                    have e1 : h.length - h0.length + (h1.length - h.length) = h1.length - h0.length := by omega
                    have e2 : sm_sl h - sm_sl h0 + (sm_sl h1 - sm_sl h) = sm_sl h1 - sm_sl h0 := by omega
                    rw [e1, e2] at X2
                    have hW2 := ih (d1' + 1) mi hp ls [.ref (h1.length - 1)] h1 v h' _ hM hr hlen p e s m args below meth c T1.heap (locs ++ L) LS h0 hx hb hrt hml hhd hown hmn hts hEx hN hlocks hK hS hP1 hL (fun q hq => (hF1 q hq).trans (hF q hq)) (by have z1 := hP.1; have z2 := hP1.1; omega) (fun x hx => (List.mem_append.mp hx).elim (hlocs x) (hL1 x)) (by omega) (by omega)
                    obtain ⟨t, t1, t2⟩ := hW2 (T1.setVm vm') rfl X2
                    exact ⟨t, st1 t (st2 t t1), t2⟩
                · cases hr
              · cases hr
          · cases hr
        · cases hr
      · cases hr
    · cases hr
end SMZ
end
section
/-! THE LAW's OWN RUN: it calls methods, and methods with handlers -/
def sm_runL (P : Nat → Option sm_M) (PW : Nat → Option sm_MW) (tab : List (Option sm_I)) : Nat → Nat → Nat → sm_L → List Value → sm_H → Option (Option Value × sm_H)
  | 0, _, _, _, _, _ => none
  | n + 1, d, pc, ls, st, h => match tab[pc]? with
      | some (some q) => match sm_step q pc ls st h with
        | some (.inl (pc', ls', st', h')) => sm_runL P PW tab n d pc' ls' st' h'
        | some (.inr (.inl v)) => some (v, h)
        | some (.inr (.inr (m', as, r))) => match d with
          | d' + 1 => match PW m' with
            | some ((nl, _, _), _) => if (sm_slots as).length ≤ nl ∧ (r.map fun v => v.category).sum ≤ 8 then (match sm_runW P PW n d' m' 0 (sm_entry nl as) [] h with
              | some (v, h') => sm_runL P PW tab n d (pc + 3) ls (sm_back v r) h'
              | none => none) else none
            | none => match P m' with
              | some (nl, _, _) => if (sm_slots as).length ≤ nl ∧ (r.map fun v => v.category).sum ≤ 8 then (match sm_run P n d' m' 0 (sm_entry nl as) [] h with
                | some (v, h') => sm_runL P PW tab n d (pc + 3) ls (sm_back v r) h'
                | none => none) else none
              | none => none
          | 0 => none
        | none => none
      | _ => none
theorem sm_runL_mono {P : Nat → Option sm_M} {PW : Nat → Option sm_MW} {tab : List (Option sm_I)} : ∀ (n d pc : Nat) (ls : sm_L) (st : List Value) (h : sm_H) (v : Option Value) (h' : sm_H), sm_runL P PW tab n d pc ls st h = some (v, h') → h.length ≤ h'.length ∧ sm_sl h ≤ sm_sl h' := by
  intro n
  induction n with
  | zero => intro d pc ls st h v h' hr; simp [sm_runL] at hr
  | succ n ih =>
    intro d pc ls st h v h' hr
    unfold sm_runL at hr
    split at hr
    · split at hr
      · next hs =>
        have h1 := sm_step_mono hs
        have h2 := ih _ _ _ _ _ _ _ hr
        exact ⟨Nat.le_trans h1.1 h2.1, Nat.le_trans h1.2 h2.2⟩
      · cases hr; exact ⟨Nat.le_refl _, Nat.le_refl _⟩
      · split at hr
        · split at hr
          · split at hr
            · split at hr
              · next hc =>
                have g1 := sm_runW_mono _ _ _ _ _ _ _ _ _ hc
                have g2 := ih _ _ _ _ _ _ _ hr
                exact ⟨Nat.le_trans g1.1 g2.1, Nat.le_trans g1.2 g2.2⟩
              · cases hr
            · cases hr
          · split at hr
            · split at hr
              · split at hr
                · next hc =>
                  have g1 := sm_run_mono _ _ _ _ _ _ _ _ _ hc
                  have g2 := ih _ _ _ _ _ _ _ hr
                  exact ⟨Nat.le_trans g1.1 g2.1, Nat.le_trans g1.2 g2.2⟩
                · cases hr
              · cases hr
            · cases hr
        · cases hr
      · cases hr
    · cases hr
abbrev sm_hh (al : List (Nat × Nat × Nat × Nat × Nat)) : List (Nat × Nat × Nat × Nat) := al.map (fun q => (q.1, q.2.1, q.2.2.1, q.2.2.2.1))
section SML
variable {l : Launch} {D : va_G} {cl : List vw_C} {tys : List (ClassId × FieldType)} {N0 : Nat} {cs : Nat → Nat} {Ts : List Cond} {sx : List (String × Nat × String × Nat)} {zx : List (String × String × String × Nat)} {oc : (List (Nat × Nat × String × String × String × Value) × List (String × Nat × MethodName × String))} {K : sm_H} {Y YW : Nat → sm_Y} {P : Nat → Option sm_M} {PW : Nat → Option sm_MW} {ex : List Cond} {nc : List (Nat × Nat)}
/-- what a method with handlers asks of its start -/
def sm_PcW (D : va_G) (cl : List vw_C) (tys : List (ClassId × FieldType)) (sx : List (String × Nat × String × Nat)) (zx : List (String × String × String × Nat)) (oc : (List (Nat × Nat × String × String × String × Value) × List (String × Nat × MethodName × String))) (K : sm_H) (ex : List Cond) (nc : List (Nat × Nat)) (N0 : Nat) (cs : Nat → Nat) (as : List Value) (h : sm_H) : Array Value → State → Prop :=
  fun v U => sm_PcT D cl tys sx zx oc K ex N0 cs as h v U ∧ sm_N D nc U
theorem sm_blindW {as : List Value} {h : sm_H} : FrameBlind (sm_PcW D cl tys sx zx oc K ex nc N0 cs as h) := fun a U g mk q => ⟨sm_blindT a U g mk q.1, fun z hz => q.2 z hz⟩
theorem sm_metW (hG : sm_Good Ts sx zx oc K cl Y P) (hGT : sm_GoodT Ts sx ex cl Y P) (hGW : ∀ mi M, PW mi = some M → sm_okW Ts sx zx oc K cl nc Y YW mi M) (hgw : ∀ w ∈ Ts, goodWord w = true) (hT : sm_T tys) (hfl : l.flags = pinnedFlags ++ [noTraceFlag])
    {n d mi : Nat} {M : sm_MW} {as : List Value} {h h' : sm_H} {v : Option Value} (hM : PW mi = some M) (hr : sm_runW P PW n d mi 0 (sm_entry M.1.1 as) [] h = some (v, h')) (hl : (sm_slots as).length ≤ M.1.1) :
    Met l (YW mi).1 (Cond.codeWith (YW mi).1 (YW mi).2.1 M.1.1 (YW mi).2.2 (sm_hh M.2) :: Ts) (sm_roomW d (h'.length - h.length) (sm_sl h' - sm_sl h)) (sm_PcW D cl tys sx zx oc K ex nc N0 cs as h) (sm_Qc D cl tys N0 cs K v h') (h'.length - h.length) (sm_sl h' - sm_sl h) (fun q => N0 ≤ q) := by
  obtain ⟨-, g2, -⟩ := hGW mi M hM
  refine va_MetW (cc := (YW mi).2.1) (maxL := M.1.1) (ret := (YW mi).2.2) g2 rfl ?_
  intro p e s m args below meth c s₁ B hml hv
  obtain ⟨⟨⟨rfl, hP, hK, hS⟩, hEx⟩, hN⟩ := hv
  have hts := atoms_spec (ws := Cond.codeWith (YW mi).1 (YW mi).2.1 M.1.1 (YW mi).2.2 (sm_hh M.2) :: Ts) B.pre
  obtain ⟨m9, meth9, c9, z1, z2, z3, -, -, z6, -⟩ := Cond.codeWith_spec (hts _ List.mem_cons_self)
  cases B.named.symm.trans z1
  cases B.method.symm.trans z2
  cases (Stand.of_body B).code.symm.trans z3
  rw [lg_entry_eq]
  have := sm_soundW hG hGT hGW hgw hT hfl n d mi 0 (sm_entry M.1.1 as) [] h v h' M hM hr (by simp [sm_entry]; omega) p e s m _ below meth c s.heap [] _ h B.exec B.bytes B.returns hml z6 (findClass_of_methodNamed B.named) (name_of_methodNamed B.named B.method).1 (fun w hw => hts w (List.mem_cons_of_mem _ hw)) hEx hN B.notSynchronized hK hS hP (sm_entry_LR hl) (fun _ _ => rfl) (Nat.le_refl _) (fun x hx => by cases hx) (Nat.le_refl _) (Nat.le_refl _)
  rw [Nat.sub_self, Nat.sub_self] at this
  exact this
variable {p : Program} {e : Env} {R : Room} {s : State} {m : MethodId} {args : Array Value} {below : List Frame} {meth : Method} {c : Code} {H : Heap} {locs : List Loc} {cells slots : Nat} {Q : State → Prop}
/-- a static call of a method with handlers -/
theorem sm_runSW {y : MethodName} {bytes cc : ByteArray} {maxL nL mc ms n index : Nat} {ret : Option FieldType} {hh : List (Nat × Nat × Nat × Nat)} {ws : List Cond} {rm : Room} {Pc : Array Value → State → Prop} {Qc : Array Value → State → Outcome → State → Prop} {free : Addr → Prop} {own : String} {As rest : List Value} {g : JFrame}
    (S : CallFix p m c cc nL s args Ts own) (hM : Met l y ws rm Pc Qc mc ms free) (hrc : rm.cells = mc) (hrs : rm.slots = ms) (hR : rm.frames + 1 ≤ R.frames ∧ 8 + (maxL + 11) + rm.locals ≤ R.locals) (hws : ∀ w ∈ ws, ∀ (a' : Array Value) (U : State), s.WarmedH U.vm → w.before a' U = true) (hcw : Cond.codeWith y bytes maxL ret hh ∈ ws)
    (hcode : (Cond.codeWith y bytes maxL ret hh).before args s = true) (hini : (Cond.initialized y.cls).before args s = true) (hstat : (Cond.static y).before args s = true) (hlink : (Cond.methodLink own index y).before args s = true) (hy : sm_nmh y.cls) (hpar : sm_par y.desc = some n) (hp : PreS s H Pc As)
    (hg : g.method = m) (hn : As.length = n) (hsize : g.locals.size = nL) (hstack : g.stack = As.reverse ++ rest) (hW : 2 * g.monitorRoom + (rest.map fun v => v.category).sum ≤ 8) (hdg : decode cc g.pc = .ok (.invokestatic index, 3)) (hf : cells + mc ≤ R.cells ∧ slots + ms ≤ R.slots) :
    va_Run p l e R s m args below meth c H locs cells slots mc ms g rest (Qc As.toArray) free := by
  have hK : Back l R p e below s args y 3 8 (PreOf R mc ms Pc) (PostOf Qc mc ms free) := va_backW (bytes := bytes) (maxL := maxL) (ret := ret) (hh := hh) hM hp.1 hrc hrs hR.1 hR.2 hws hcw (fun a' U hW => word_at hW (Or.inl (by first | rfl | simp [Cond.onTables, Cond.keeps, Cond.steady])) hini)
  obtain ⟨hx, hb, hml, ho, -⟩ := S
  obtain ⟨mk, methM, cM, hnamed, hmethM, -, -, -, -, -, -, hsigM⟩ := Cond.codeWith_spec hcode
  have hstatic : methM.isStatic = true := Cond.static_spec hnamed hmethM hstat
  obtain ⟨kP, hkP, -⟩ := className_of_methodNamed hnamed
  have hinitP : kP.init = .initialized := Cond.initialized_spec (findClass_of_methodNamed hnamed) hkP hini
  intro T hT X
  obtain ⟨vm₁, X₁, hstep₁⟩ := X.invokestatic hx ho hlink hnamed hmethM hstatic hkP hinitP hy (g := g) hg (argsL := As) (rest := rest) (by
      have h2 := hpar
      unfold sm_par at h2
      rw [hsigM] at h2
      exact hn.trans (Option.some.inj h2).symm) hstack (by rw [hb]; exact hdg)
  obtain ⟨v, ⟨U', l2, c2, s2⟩, X', ⟨g', mk', t, L, e1, e2, hq, h1, hL, h2, h3⟩, st⟩ := hK m meth c ⟨T.setVm vm₁, locs, cells, slots⟩ { g with stack := rest } (.invokestatic index) mk As.toArray X₁ hg (hsize.trans hml.symm) (by rw [hb]; exact hdg) hW (X₁.named hnamed) ⟨hf.1, hf.2, hp.2 (T.setVm vm₁) hT X₁.warmed⟩
  dsimp only [Pt.U, Pt.locs, Pt.cells, Pt.slots] at X' e1 e2 h1 h2 h3 st
  subst h1; subst h2; subst h3
  exact ⟨v, (T.setVm vm₁).calling g' mk' As.toArray, t, U', L, hT, X', hL, e1, e2, hq, fun target h => hstep₁ _ fun acts => by rw [doInvoke_state]; exact st.trans h⟩
end SML
end
section
/-! THE LAW's RUN is a run of the JVM -/
section SMLL
variable {l : Launch} {D : va_G} {cl : List vw_C} {tys : List (ClassId × FieldType)} {N0 : Nat} {cs : Nat → Nat} {Ts : List Cond} {sx : List (String × Nat × String × Nat)} {zx : List (String × String × String × Nat)} {oc : (List (Nat × Nat × String × String × String × Value) × List (String × Nat × MethodName × String))} {K : sm_H} {Y YW : Nat → sm_Y} {P : Nat → Option sm_M} {PW : Nat → Option sm_MW} {ex : List Cond} {nc : List (Nat × Nat)}
/-- the tables are right of the law -/
def sm_okL (Ts : List Cond) (sx : List (String × Nat × String × Nat)) (zx : List (String × String × String × Nat)) (oc : (List (Nat × Nat × String × String × String × Value) × List (String × Nat × MethodName × String))) (K : sm_H) (cl : List vw_C) (Y YW : Nat → sm_Y) (P : Nat → Option sm_M) (PW : Nat → Option sm_MW) (own mn : String) (bytes : ByteArray) (tab : List (Option sm_I)) : Prop :=
  ∀ (pc : Nat) (q : sm_I), tab[pc]? = some (some q) → decode bytes pc = .ok (q.1, q.2.1) ∧ sm_lenOk q.1 q.2.1 = true ∧ sm_okI Ts sx zx oc K cl own mn pc q.1 q.2.2 ∧
    ((∀ k mi n, q.2.2 = [k, mi, n] → (PW mi).isSome → ∃ idx, q.1 = .invokestatic idx ∧ Cond.static (YW mi).1 ∈ Ts ∧ Cond.initialized (YW mi).1.cls ∈ Ts ∧ sm_par (YW mi).1.desc = some n ∧ Cond.methodLink own idx (YW mi).1 ∈ Ts) ∧
     (∀ idx k n ps ci mi, q.1 = .invokevirtual idx → q.2.2 = k :: n :: ps → sm_pick ci ps = some mi → PW mi = none) ∧
     ((∀ k mi n, q.2.2 = [k, mi, n] → PW mi = none) → sm_okC Ts oc cl Y own q.1 q.2.2))
set_option maxHeartbeats 4000000 in
set_option maxRecDepth 100000 in
theorem sm_soundL (hG : sm_Good Ts sx zx oc K cl Y P) (hGT : sm_GoodT Ts sx ex cl Y P) (hGW : ∀ mi M, PW mi = some M → sm_okW Ts sx zx oc K cl nc Y YW mi M) (hgw : ∀ w ∈ Ts, goodWord w = true) (hT : sm_T tys) (hfl : l.flags = pinnedFlags ++ [noTraceFlag])
    {p : Program} {e : Env} {R : Room} {s : State} {m : MethodId} {args : Array Value} {below : List Frame} {meth : Method} {c : Code} {Q : State → Prop} {own : String} {cc : ByteArray} {nl : Nat} {tab : List (Option sm_I)} {h0 : sm_H}
    (hGL : sm_okL Ts sx zx oc K cl Y YW P PW own meth.name cc tab) (hx : p.tables.exec = Jvm.exec) (hb : c.code = cc) (hml : c.maxLocals = nl) (hown : s.vm.findClass own = some m.cls) (hts : ∀ w ∈ Ts, w.before args s = true) (hEx : sm_Ex ex N0 s) (hN : sm_N D nc s) (hK : va_K D cl tys s) (hS : sm_X sx zx oc N0 cs s)
    (hret : ∀ (pc : Nat) (LS : Array Slot) (H : Heap) (locs : List Loc) (cells slots : Nat), decode cc pc = .ok (.ireturn, 1) → (∀ x ∈ locs, N0 ≤ x.base) → cells ≤ R.cells → slots ≤ R.slots → W p l e R s m args below meth c H locs cells slots Q (F0 m pc LS [.int 1])) :
  ∀ (n d pc : Nat) (ls : sm_L) (st : List Value) (h : sm_H) (h' : sm_H), sm_runL P PW tab n d pc ls st h = some (some (.int 1), h') → ls.length = nl → d + 20 ≤ R.frames → 64 * d + 400 ≤ R.locals → h'.length - h0.length ≤ R.cells → sm_sl h' - sm_sl h0 ≤ R.slots →
  ∀ (H : Heap) (locs : List Loc) (LS : Array Slot), sm_P D cl tys N0 cs K h H → sm_LR (sm_ad N0 cs) ls LS → (∀ q, q < N0 → H[q]? = s.heap[q]?) → s.heap.size ≤ H.size → (∀ x ∈ locs, N0 ≤ x.base) → h0.length ≤ h.length → sm_sl h0 ≤ sm_sl h →
    W p l e R s m args below meth c H locs (h.length - h0.length) (sm_sl h - sm_sl h0) Q (F0 m pc LS (st.map (sm_mv (sm_ad N0 cs)))) := by
  intro n
  induction n with
  | zero => intro d pc ls st h h' hr; simp [sm_runL] at hr
  | succ n ih =>
    intro d pc ls st h h' hr hlen hfr hlo hcR hsR H locs LS hP hL hF hZ0 hlocs hz1 hz2
    have hmono := sm_runL_mono _ _ _ _ _ _ _ _ hr
    unfold sm_runL at hr
    split at hr
    · next q hq =>
      obtain ⟨d1, d2, d3, d5, d6, d4⟩ := hGL pc q hq
      obtain ⟨i, len, rs⟩ := q
      dsimp only at d1 d2 d3 d4 d5 d6
      split at hr
      · next pc1 ls1 st1 h1 hs =>
        have hm1 := sm_step_mono hs
        have hm2 := sm_runL_mono _ _ _ _ _ _ _ _ hr
        refine sm_next (h' := h1) hx hb hts hown hK hT hS hF hZ0 d3 d2 d1 hP hL hlocs ⟨by omega, by omega⟩ (by rw [hml, hlen]) ⟨by omega, by omega⟩ hs ?_
        intro H' locs' LS' hP' hL' hF' hlocs'
        have e1 : h.length - h0.length + (h1.length - h.length) = h1.length - h0.length := by omega
        have e2 : sm_sl h - sm_sl h0 + (sm_sl h1 - sm_sl h) = sm_sl h1 - sm_sl h0 := by omega
        rw [e1, e2]
        exact ih d pc1 ls1 st1 h1 h' hr (by rw [sm_step_len hs]; exact hlen) hfr hlo hcR hsR H' locs' LS' hP' hL' (fun q hq => (hF' q hq).trans (hF q hq)) (by have z1 := hP.1; have z2 := hP'.1; omega) hlocs' (by omega) (by omega)
      · next v1 hs =>
        cases hr
        rcases sm_ret_inv hs with ⟨rfl, x, rfl, z⟩ | ⟨rfl, x, rfl, z⟩ | ⟨rfl, x, rfl, z⟩ | ⟨rfl, rfl, z⟩
        · cases z
          simp only [sm_lenOk, beq_iff_eq] at d2
          subst d2
          exact hret pc LS H locs _ _ d1 hlocs hcR hsR
        · cases z
        · cases z
        · cases z
      · next m1 as r hs =>
        split at hr
        · next d1' =>
          split at hr
          · next nl1 k1 tab1 al1 hM1 =>
            split at hr
            · next hc =>
              obtain ⟨hc1, hc2⟩ := hc
              split at hr
              · next v1 h1 hcall =>
                have hm1 := sm_runW_mono _ _ _ _ _ _ _ _ _ hcall
                have hm2 := sm_runL_mono _ _ _ _ _ _ _ _ hr
                obtain ⟨q1, q2, q3, q4, -, -⟩ := hGW m1 _ hM1
                dsimp only at q1 q4
                have hMet := sm_metW (l := l) (D := D) (tys := tys) (N0 := N0) (cs := cs) (as := as) hG hGT hGW hgw hT hfl hM1 hcall hc1
                have hgi : GoodIn Ts (Cond.codeWith (YW m1).1 (YW m1).2.1 nl1 (YW m1).2.2 (sm_hh al1) :: Ts) := sm_goodIn hgw q1
                have hpre : ∀ U : State, U.heap = H → s.WarmedH U.vm → sm_PcW D cl tys sx zx oc K ex nc N0 cs as h (as.map (sm_mv (sm_ad N0 cs))).toArray U := fun U hU hW => ⟨⟨⟨rfl, by rw [hU]; exact hP, va_K.moved hW.alike hK, hS.at_ hW (fun q hq => by rw [hU]; exact hF q hq)⟩, hEx.at_ hW (fun q hq => by rw [hU]; exact hF q hq)⟩, fun z hz => by rw [hW.alike.assignable]; exact hN z hz⟩
                have goOn : ∀ (a : Array Value), va_Run p l e R s m args below meth c H locs (h.length - h0.length) (sm_sl h - sm_sl h0) (h1.length - h.length) (sm_sl h1 - sm_sl h) (F0 m pc LS (st.map (sm_mv (sm_ad N0 cs)))) (r.map (sm_mv (sm_ad N0 cs))) (sm_Qc D cl tys N0 cs K v1 h1 a) (fun q => N0 ≤ q) →
                    W p l e R s m args below meth c H locs (h.length - h0.length) (sm_sl h - sm_sl h0) Q (F0 m pc LS (st.map (sm_mv (sm_ad N0 cs)))) := by
                  intro a hrun
                  refine sm_after hrun hlocs fun H1 locs1 hP1 hF1 hl1 => ?_
                  have e1 : h.length - h0.length + (h1.length - h.length) = h1.length - h0.length := by omega
                  have e2 : sm_sl h - sm_sl h0 + (sm_sl h1 - sm_sl h) = sm_sl h1 - sm_sl h0 := by omega
                  rw [e1, e2, ← sm_back_eq]
                  exact ih (d1' + 1) (pc + 3) ls (sm_back v1 r) h1 h' hr hlen hfr hlo hcR hsR H1 locs1 LS hP1 hL (fun q hq => (hF1 q hq).trans (hF q hq)) (by have z1 := hP.1; have z2 := hP1.1; omega) hl1 (by omega) (by omega)
                have hsome : (PW m1).isSome = true := by rw [hM1]; rfl
                rcases sm_call_inv hs with ⟨idx, k, n1, rfl, rfl, ha⟩ | ⟨idx, k, n1, b, bs, rfl, rfl, ha, rfl⟩ | ⟨idx, k, n1, ps, b, bs, ci, fs, rfl, rfl, ha, rfl, hbc, hpk⟩
                · simp only [sm_lenOk, beq_iff_eq] at d2
                  subst d2
                  obtain ⟨idx', z1, w1, w2, w3, w4⟩ := d5 k m1 n1 rfl hsome
                  cases z1
                  obtain ⟨ea, el⟩ := sm_args_inv ha
                  have hst : (st.map (sm_mv (sm_ad N0 cs))) = (as.map (sm_mv (sm_ad N0 cs))).reverse ++ r.map (sm_mv (sm_ad N0 cs)) := by rw [ea, List.map_append, List.map_reverse]
                  exact goOn _ (sm_runSW (bytes := (YW m1).2.1) (maxL := nl1) (ret := (YW m1).2.2) (hh := sm_hh al1) (As := as.map (sm_mv (sm_ad N0 cs))) ⟨hx, hb, hml, hown, hts⟩ hMet rfl rfl ⟨by have z : (sm_roomW d1' (h1.length - h.length) (sm_sl h1 - sm_sl h)).frames = d1' + 9 := rfl; rw [z]; omega, by have z : (sm_roomW d1' (h1.length - h.length) (sm_sl h1 - sm_sl h)).locals = 64 * d1' + 256 := rfl; rw [z]; omega⟩ (pay_in hts hgi) List.mem_cons_self (hts _ q1) (hts _ w2) (hts _ w1) (hts _ w4) q3 w3 ⟨sm_blindW, hpre⟩ rfl (by rw [List.length_map]; exact el) (hL.1.trans hlen) hst (sm_catsum hc2) d1 ⟨by omega, by omega⟩)
                · obtain ⟨idx', z1, -⟩ := d5 k m1 n1 rfl hsome
                  cases z1
                · have := d6 idx k n1 ps ci m1 rfl rfl hpk
                  rw [hM1] at this
                  cases this
              · cases hr
            · cases hr
          · next hMn =>
            split at hr
            · next nl1 k1 tab1 hM1 =>
              split at hr
              · next hc =>
                obtain ⟨hc1, hc2⟩ := hc
                split at hr
                · next v1 h1 hcall =>
                  have hm1 := sm_run_mono _ _ _ _ _ _ _ _ _ hcall
                  have hm2 := sm_runL_mono _ _ _ _ _ _ _ _ hr
                  have hcc : sm_okC Ts oc cl Y own i rs := d4 (fun k mi n1 z => by
                    rcases sm_call_inv hs with ⟨idx, k2, n2, -, z2, -⟩ | ⟨idx, k2, n2, b, bs, -, z2, -, -⟩ | ⟨idx, k2, n2, ps, b, bs, ci, fs, z3, z2, ha, -, -, hpk⟩
                    · dsimp only at z2
                      rw [z] at z2
                      cases z2
                      exact hMn
                    · dsimp only at z2
                      rw [z] at z2
                      cases z2
                      exact hMn
                    · dsimp only at z2
                      rw [z] at z2
                      cases z2
                      simp [sm_pick] at hpk)
                  refine sm_callW hG hgw hT hx hb hml hown hts hK hS hP (hL.1.trans hlen) hF hlocs d1 d2 hcc hs hM1 hc1 hc2 hcall (by omega) (by omega) ⟨by omega, by omega⟩ ?_
                  intro H1 locs1 hP1 hF1 hl1
                  have e1 : h.length - h0.length + (h1.length - h.length) = h1.length - h0.length := by omega
                  have e2 : sm_sl h - sm_sl h0 + (sm_sl h1 - sm_sl h) = sm_sl h1 - sm_sl h0 := by omega
                  rw [e1, e2]
                  exact ih (d1' + 1) (pc + 3) ls (sm_back v1 r) h1 h' hr hlen hfr hlo hcR hsR H1 locs1 LS hP1 hL (fun q hq => (hF1 q hq).trans (hF q hq)) (by have z1 := hP.1; have z2 := hP1.1; omega) hl1 (by omega) (by omega)
                · cases hr
              · cases hr
            · cases hr
        · cases hr
      · cases hr
    · cases hr
end SMLL
end
section
/-! WORDS AND LISTS that the tables are checked by -/
def sc_Ts : List Cond := lw_tbl.filter goodWord
theorem sc_gw : ∀ w ∈ sc_Ts, goodWord w = true := fun w h => (List.mem_filter.mp h).2
theorem sm_mem {w : Cond} (i : Nat) (h : (lw_tbl[i]?.any (fun v => decide (v = w)) && goodWord w) = true) : w ∈ sc_Ts := by
  rw [Bool.and_eq_true] at h
  obtain ⟨h1, h2⟩ := h
  rw [Option.any_eq_true_iff_get] at h1
  obtain ⟨h3, h4⟩ := h1
  have h5 : lw_tbl[i]? = some w := by
    rw [← Option.some_get h3]
    exact congrArg some (of_decide_eq_true h4)
  exact List.mem_filter.mpr ⟨List.mem_of_getElem? h5, h2⟩
theorem sm_al1 {Q : Nat → Prop} {a : Nat} (h1 : Q a) : ∀ ci ∈ [a], Q ci := fun ci h => by rw [List.mem_singleton.mp h]; exact h1
theorem sm_al2 {Q : Nat → Prop} {a b : Nat} (h1 : Q a) (h2 : Q b) : ∀ ci ∈ [a, b], Q ci := fun ci h => by
  rcases List.mem_cons.mp h with rfl | h
  · exact h1
  · exact sm_al1 h2 ci h
theorem sm_al3 {Q : Nat → Prop} {a b c : Nat} (h1 : Q a) (h2 : Q b) (h3 : Q c) : ∀ ci ∈ [a, b, c], Q ci := fun ci h => by
  rcases List.mem_cons.mp h with rfl | h
  · exact h1
  · exact sm_al2 h2 h3 ci h
theorem sm_pk1 {Q : Nat → Nat → Prop} {a x : Nat} (h1 : Q a x) : ∀ ci mi, sm_pick ci [a, x] = some mi → Q ci mi := fun ci mi h => by
  simp only [sm_pick] at h
  split at h
  · next e => cases h; subst e; exact h1
  · cases h
theorem sm_pk2 {Q : Nat → Nat → Prop} {a x b y : Nat} (h1 : Q a x) (h2 : Q b y) : ∀ ci mi, sm_pick ci [a, x, b, y] = some mi → Q ci mi := fun ci mi h => by
  rw [sm_pick] at h
  split at h
  · next e => cases h; subst e; exact h1
  · exact sm_pk1 h2 ci mi h
theorem sm_pk3 {Q : Nat → Nat → Prop} {a x b y c z : Nat} (h1 : Q a x) (h2 : Q b y) (h3 : Q c z) : ∀ ci mi, sm_pick ci [a, x, b, y, c, z] = some mi → Q ci mi := fun ci mi h => by
  rw [sm_pick] at h
  split at h
  · next e => cases h; subst e; exact h1
  · exact sm_pk2 h2 h3 ci mi h
end
section
theorem sc_allmem (ws : List Cond) (is : List Nat) (hl : ws.length = is.length) (h : (ws.zip is).all (fun p => lw_tbl[p.2]?.any (fun v => decide (v = p.1)) && goodWord p.1) = true) : ∀ w ∈ ws, w ∈ sc_Ts := by
  intro w hw
  obtain ⟨k, hk⟩ := List.getElem?_of_mem hw
  have hkl : k < is.length := by rw [← hl]; exact (List.getElem?_eq_some_iff.mp hk).1
  have hz : (ws.zip is)[k]? = some (w, is[k]) := by
    rw [List.getElem?_zip_eq_some]
    exact ⟨hk, List.getElem?_eq_getElem hkl⟩
  exact sm_mem is[k] (List.all_eq_true.mp h _ (List.mem_of_getElem? hz))
/-! THE CLASSES: fields in an order of ours -/
def sc_T0 : u_T := fun k => match k with
  | 0 => ("TwoWayGrammar", "description", "LTwoWayGrammar$Text;", true)
  | 1 => ("TwoWayGrammar", "input", "LTwoWayGrammar$Text;", true)
  | 2 => ("TwoWayGrammar", "output", "LTwoWayGrammar$Text;", true)
  | 3 => ("TwoWayGrammar", "draft", "LTwoWayGrammar$Text;", true)
  | 4 => ("TwoWayGrammar", "grammar", "LTwoWayGrammar$Grammar;", true)
  | 5 => ("TwoWayGrammar", "reader", "LTwoWayGrammar$Reader;", true)
  | 6 => ("TwoWayGrammar", "sets", "LTwoWayGrammar$Sets;", true)
  | 7 => ("TwoWayGrammar", "checks", "LTwoWayGrammar$Checks;", true)
  | 8 => ("TwoWayGrammar", "tree", "LTwoWayGrammar$Tree;", true)
  | 9 => ("TwoWayGrammar", "kept", "LTwoWayGrammar$Tree;", true)
  | 10 => ("TwoWayGrammar", "fresh", "LTwoWayGrammar$Tree;", true)
  | 11 => ("TwoWayGrammar", "parsing", "LTwoWayGrammar$Parsing;", true)
  | 12 => ("TwoWayGrammar", "growing", "LTwoWayGrammar$Growing;", true)
  | 13 => ("TwoWayGrammar", "printing", "LTwoWayGrammar$Printing;", true)
  | 14 => ("TwoWayGrammar", "readable", "Z", false)
  | _ => ("TwoWayGrammar", "good", "Z", false)
def sc_ty0 : Nat → FieldType := fun k => match k with
  | 0 => .object "TwoWayGrammar$Text"
  | 1 => .object "TwoWayGrammar$Text"
  | 2 => .object "TwoWayGrammar$Text"
  | 3 => .object "TwoWayGrammar$Text"
  | 4 => .object "TwoWayGrammar$Grammar"
  | 5 => .object "TwoWayGrammar$Reader"
  | 6 => .object "TwoWayGrammar$Sets"
  | 7 => .object "TwoWayGrammar$Checks"
  | 8 => .object "TwoWayGrammar$Tree"
  | 9 => .object "TwoWayGrammar$Tree"
  | 10 => .object "TwoWayGrammar$Tree"
  | 11 => .object "TwoWayGrammar$Parsing"
  | 12 => .object "TwoWayGrammar$Growing"
  | 13 => .object "TwoWayGrammar$Printing"
  | 14 => .boolean
  | _ => .boolean
def sc_T1 : u_T := fun k => match k with
  | 0 => ("TwoWayGrammar$Text", "chars", "[C", true)
  | _ => ("TwoWayGrammar$Text", "length", "I", false)
def sc_ty1 : Nat → FieldType := fun k => match k with
  | 0 => .array (.char)
  | _ => .int
def sc_T2 : u_T := fun k => match k with
  | 0 => ("TwoWayGrammar$Grammar", "rules", "I", false)
  | 1 => ("TwoWayGrammar$Grammar", "ruleName", "[I", true)
  | 2 => ("TwoWayGrammar$Grammar", "rulePlace", "[I", true)
  | 3 => ("TwoWayGrammar$Grammar", "formFirst", "[I", true)
  | 4 => ("TwoWayGrammar$Grammar", "formSize", "[I", true)
  | 5 => ("TwoWayGrammar$Grammar", "groups", "I", false)
  | 6 => ("TwoWayGrammar$Grammar", "alternatives", "I", false)
  | 7 => ("TwoWayGrammar$Grammar", "alternativeFirst", "[I", true)
  | 8 => ("TwoWayGrammar$Grammar", "alternativeNext", "[I", true)
  | 9 => ("TwoWayGrammar$Grammar", "alternativePlace", "[I", true)
  | 10 => ("TwoWayGrammar$Grammar", "parts", "I", false)
  | 11 => ("TwoWayGrammar$Grammar", "partSort", "[I", true)
  | 12 => ("TwoWayGrammar$Grammar", "partValue", "[I", true)
  | 13 => ("TwoWayGrammar$Grammar", "partPlace", "[I", true)
  | 14 => ("TwoWayGrammar$Grammar", "partNext", "[I", true)
  | 15 => ("TwoWayGrammar$Grammar", "partRepeat", "[I", true)
  | 16 => ("TwoWayGrammar$Grammar", "partMark", "[I", true)
  | 17 => ("TwoWayGrammar$Grammar", "partSwapped", "[I", true)
  | 18 => ("TwoWayGrammar$Grammar", "literals", "I", false)
  | _ => ("TwoWayGrammar$Grammar", "literalCode", "[I", true)
def sc_ty2 : Nat → FieldType := fun k => match k with
  | 0 => .int
  | 1 => .array (.int)
  | 2 => .array (.int)
  | 3 => .array (.int)
  | 4 => .array (.int)
  | 5 => .int
  | 6 => .int
  | 7 => .array (.int)
  | 8 => .array (.int)
  | 9 => .array (.int)
  | 10 => .int
  | 11 => .array (.int)
  | 12 => .array (.int)
  | 13 => .array (.int)
  | 14 => .array (.int)
  | 15 => .array (.int)
  | 16 => .array (.int)
  | 17 => .array (.int)
  | 18 => .int
  | _ => .array (.int)
def sc_T3 : u_T := fun k => match k with
  | 0 => ("TwoWayGrammar$Reader", "tokens", "LTwoWayGrammar$Tokens;", true)
  | 1 => ("TwoWayGrammar$Reader", "grammar", "LTwoWayGrammar$Grammar;", true)
  | 2 => ("TwoWayGrammar$Reader", "fault", "I", false)
  | _ => ("TwoWayGrammar$Reader", "faultPlace", "I", false)
def sc_ty3 : Nat → FieldType := fun k => match k with
  | 0 => .object "TwoWayGrammar$Tokens"
  | 1 => .object "TwoWayGrammar$Grammar"
  | 2 => .int
  | _ => .int
def sc_T4 : u_T := fun k => match k with
  | 0 => ("TwoWayGrammar$Tokens", "text", "LTwoWayGrammar$Text;", true)
  | 1 => ("TwoWayGrammar$Tokens", "place", "I", false)
  | 2 => ("TwoWayGrammar$Tokens", "start", "I", false)
  | 3 => ("TwoWayGrammar$Tokens", "sort", "I", false)
  | _ => ("TwoWayGrammar$Tokens", "code", "I", false)
def sc_ty4 : Nat → FieldType := fun k => match k with
  | 0 => .object "TwoWayGrammar$Text"
  | 1 => .int
  | 2 => .int
  | 3 => .int
  | _ => .int
def sc_T5 : u_T := fun k => match k with
  | 0 => ("TwoWayGrammar$Sets", "grammar", "LTwoWayGrammar$Grammar;", true)
  | 1 => ("TwoWayGrammar$Sets", "formVoid", "[I", true)
  | 2 => ("TwoWayGrammar$Sets", "formStarts", "[J", true)
  | 3 => ("TwoWayGrammar$Sets", "formFollows", "[J", true)
  | 4 => ("TwoWayGrammar$Sets", "formHeight", "[I", true)
  | 5 => ("TwoWayGrammar$Sets", "formBegins", "[I", true)
  | 6 => ("TwoWayGrammar$Sets", "alternativeVoid", "[I", true)
  | 7 => ("TwoWayGrammar$Sets", "alternativeStarts", "[J", true)
  | 8 => ("TwoWayGrammar$Sets", "alternativeBegins", "[I", true)
  | 9 => ("TwoWayGrammar$Sets", "alternativeHeight", "[I", true)
  | 10 => ("TwoWayGrammar$Sets", "directors", "[J", true)
  | 11 => ("TwoWayGrammar$Sets", "partVoid", "[I", true)
  | 12 => ("TwoWayGrammar$Sets", "partStarts", "[J", true)
  | 13 => ("TwoWayGrammar$Sets", "partFollows", "[J", true)
  | 14 => ("TwoWayGrammar$Sets", "partTops", "[I", true)
  | _ => ("TwoWayGrammar$Sets", "changed", "Z", false)
def sc_ty5 : Nat → FieldType := fun k => match k with
  | 0 => .object "TwoWayGrammar$Grammar"
  | 1 => .array (.int)
  | 2 => .array (.long)
  | 3 => .array (.long)
  | 4 => .array (.int)
  | 5 => .array (.int)
  | 6 => .array (.int)
  | 7 => .array (.long)
  | 8 => .array (.int)
  | 9 => .array (.int)
  | 10 => .array (.long)
  | 11 => .array (.int)
  | 12 => .array (.long)
  | 13 => .array (.long)
  | 14 => .array (.int)
  | _ => .boolean
def sc_T6 : u_T := fun k => match k with
  | 0 => ("TwoWayGrammar$Checks", "grammar", "LTwoWayGrammar$Grammar;", true)
  | 1 => ("TwoWayGrammar$Checks", "sets", "LTwoWayGrammar$Sets;", true)
  | _ => ("TwoWayGrammar$Checks", "found", "I", false)
def sc_ty6 : Nat → FieldType := fun k => match k with
  | 0 => .object "TwoWayGrammar$Grammar"
  | 1 => .object "TwoWayGrammar$Sets"
  | _ => .int
def sc_T7 : u_T := fun k => match k with
  | 0 => ("TwoWayGrammar$Tree", "nodes", "I", false)
  | 1 => ("TwoWayGrammar$Tree", "kinds", "[I", true)
  | 2 => ("TwoWayGrammar$Tree", "values", "[I", true)
  | _ => ("TwoWayGrammar$Tree", "sizes", "[I", true)
def sc_ty7 : Nat → FieldType := fun k => match k with
  | 0 => .int
  | 1 => .array (.int)
  | 2 => .array (.int)
  | _ => .array (.int)
def sc_T8 : u_T := fun k => match k with
  | 0 => ("TwoWayGrammar$Walk", "grammar", "LTwoWayGrammar$Grammar;", true)
  | 1 => ("TwoWayGrammar$Walk", "sets", "LTwoWayGrammar$Sets;", true)
  | 2 => ("TwoWayGrammar$Walk", "tree", "LTwoWayGrammar$Tree;", true)
  | 3 => ("TwoWayGrammar$Walk", "stopped", "Z", false)
  | 4 => ("TwoWayGrammar$Walk", "overLimit", "Z", false)
  | 5 => ("TwoWayGrammar$Walk", "uses", "I", false)
  | 6 => ("TwoWayGrammar$Parsing", "text", "LTwoWayGrammar$Text;", true)
  | 7 => ("TwoWayGrammar$Parsing", "place", "I", false)
  | 8 => ("TwoWayGrammar$Parsing", "start", "I", false)
  | 9 => ("TwoWayGrammar$Parsing", "kind", "I", false)
  | 10 => ("TwoWayGrammar$Parsing", "worth", "I", false)
  | _ => ("TwoWayGrammar$Parsing", "faultPlace", "I", false)
def sc_ty8 : Nat → FieldType := fun k => match k with
  | 0 => .object "TwoWayGrammar$Grammar"
  | 1 => .object "TwoWayGrammar$Sets"
  | 2 => .object "TwoWayGrammar$Tree"
  | 3 => .boolean
  | 4 => .boolean
  | 5 => .int
  | 6 => .object "TwoWayGrammar$Text"
  | 7 => .int
  | 8 => .int
  | 9 => .int
  | 10 => .int
  | _ => .int
def sc_T9 : u_T := fun k => match k with
  | 0 => ("TwoWayGrammar$Walk", "grammar", "LTwoWayGrammar$Grammar;", true)
  | 1 => ("TwoWayGrammar$Walk", "sets", "LTwoWayGrammar$Sets;", true)
  | 2 => ("TwoWayGrammar$Walk", "tree", "LTwoWayGrammar$Tree;", true)
  | 3 => ("TwoWayGrammar$Walk", "stopped", "Z", false)
  | 4 => ("TwoWayGrammar$Walk", "overLimit", "Z", false)
  | 5 => ("TwoWayGrammar$Walk", "uses", "I", false)
  | 6 => ("TwoWayGrammar$Growing", "x", "J", false)
  | _ => ("TwoWayGrammar$Growing", "fuel", "I", false)
def sc_ty9 : Nat → FieldType := fun k => match k with
  | 0 => .object "TwoWayGrammar$Grammar"
  | 1 => .object "TwoWayGrammar$Sets"
  | 2 => .object "TwoWayGrammar$Tree"
  | 3 => .boolean
  | 4 => .boolean
  | 5 => .int
  | 6 => .long
  | _ => .int
def sc_T10 : u_T := fun k => match k with
  | 0 => ("TwoWayGrammar$Walk", "grammar", "LTwoWayGrammar$Grammar;", true)
  | 1 => ("TwoWayGrammar$Walk", "sets", "LTwoWayGrammar$Sets;", true)
  | 2 => ("TwoWayGrammar$Walk", "tree", "LTwoWayGrammar$Tree;", true)
  | 3 => ("TwoWayGrammar$Walk", "stopped", "Z", false)
  | 4 => ("TwoWayGrammar$Walk", "overLimit", "Z", false)
  | 5 => ("TwoWayGrammar$Walk", "uses", "I", false)
  | 6 => ("TwoWayGrammar$Printing", "text", "LTwoWayGrammar$Text;", true)
  | 7 => ("TwoWayGrammar$Printing", "cursor", "I", false)
  | 8 => ("TwoWayGrammar$Printing", "level", "I", false)
  | 9 => ("TwoWayGrammar$Printing", "lineCame", "Z", false)
  | 10 => ("TwoWayGrammar$Printing", "blankCame", "Z", false)
  | 11 => ("TwoWayGrammar$Printing", "wordBefore", "Z", false)
  | _ => ("TwoWayGrammar$Printing", "tooLong", "Z", false)
def sc_ty10 : Nat → FieldType := fun k => match k with
  | 0 => .object "TwoWayGrammar$Grammar"
  | 1 => .object "TwoWayGrammar$Sets"
  | 2 => .object "TwoWayGrammar$Tree"
  | 3 => .boolean
  | 4 => .boolean
  | 5 => .int
  | 6 => .object "TwoWayGrammar$Text"
  | 7 => .int
  | 8 => .int
  | 9 => .boolean
  | 10 => .boolean
  | 11 => .boolean
  | _ => .boolean
def sc_T11 : u_T := fun k => match k with
  | 0 => ("TwoWayGrammarModel", "code", "I", false)
  | 1 => ("TwoWayGrammarModel", "describes", "I", false)
  | 2 => ("TwoWayGrammarModel", "inputs", "I", false)
  | 3 => ("TwoWayGrammarModel", "outputs", "I", false)
  | 4 => ("TwoWayGrammarModel", "described", "[I", true)
  | 5 => ("TwoWayGrammarModel", "input", "[I", true)
  | 6 => ("TwoWayGrammarModel", "output", "[I", true)
  | 7 => ("TwoWayGrammarModel", "state", "I", false)
  | 8 => ("TwoWayGrammarModel", "fault", "I", false)
  | 9 => ("TwoWayGrammarModel", "rules", "I", false)
  | 10 => ("TwoWayGrammarModel", "literals", "I", false)
  | 11 => ("TwoWayGrammarModel", "units", "I", false)
  | 12 => ("TwoWayGrammarModel", "alternatives", "I", false)
  | 13 => ("TwoWayGrammarModel", "forms", "I", false)
  | 14 => ("TwoWayGrammarModel", "rulePlace", "[I", true)
  | 15 => ("TwoWayGrammarModel", "ruleForm", "[I", true)
  | 16 => ("TwoWayGrammarModel", "ruleOf", "[I", true)
  | 17 => ("TwoWayGrammarModel", "begins", "[I", true)
  | 18 => ("TwoWayGrammarModel", "sign", "[I", true)
  | 19 => ("TwoWayGrammarModel", "keyword", "[J", true)
  | 20 => ("TwoWayGrammarModel", "sort", "[I", true)
  | 21 => ("TwoWayGrammarModel", "what", "[I", true)
  | 22 => ("TwoWayGrammarModel", "place", "[I", true)
  | 23 => ("TwoWayGrammarModel", "wrap", "[I", true)
  | 24 => ("TwoWayGrammarModel", "wrapPlace", "[I", true)
  | 25 => ("TwoWayGrammarModel", "mate", "[I", true)
  | 26 => ("TwoWayGrammarModel", "nextItem", "[I", true)
  | 27 => ("TwoWayGrammarModel", "firstItem", "[I", true)
  | 28 => ("TwoWayGrammarModel", "barPlace", "[I", true)
  | 29 => ("TwoWayGrammarModel", "nextAlternative", "[I", true)
  | 30 => ("TwoWayGrammarModel", "firstAlternative", "[I", true)
  | 31 => ("TwoWayGrammarModel", "choices", "[I", true)
  | 32 => ("TwoWayGrammarModel", "voidPart", "[Z", true)
  | 33 => ("TwoWayGrammarModel", "voidAlternative", "[Z", true)
  | 34 => ("TwoWayGrammarModel", "voidForm", "[Z", true)
  | 35 => ("TwoWayGrammarModel", "startsPart", "[J", true)
  | 36 => ("TwoWayGrammarModel", "startsAlternative", "[J", true)
  | 37 => ("TwoWayGrammarModel", "startsForm", "[J", true)
  | 38 => ("TwoWayGrammarModel", "follows", "[J", true)
  | 39 => ("TwoWayGrammarModel", "followsForm", "[J", true)
  | 40 => ("TwoWayGrammarModel", "leadsPart", "[I", true)
  | 41 => ("TwoWayGrammarModel", "leadsAlternative", "[I", true)
  | 42 => ("TwoWayGrammarModel", "leadsForm", "[I", true)
  | 43 => ("TwoWayGrammarModel", "highPart", "[I", true)
  | 44 => ("TwoWayGrammarModel", "highAlternative", "[I", true)
  | 45 => ("TwoWayGrammarModel", "highForm", "[I", true)
  | 46 => ("TwoWayGrammarModel", "row", "[I", true)
  | 47 => ("TwoWayGrammarModel", "changed", "Z", false)
  | 48 => ("TwoWayGrammarModel", "at", "I", false)
  | 49 => ("TwoWayGrammarModel", "token", "I", false)
  | 50 => ("TwoWayGrammarModel", "tokenPlace", "I", false)
  | 51 => ("TwoWayGrammarModel", "open", "I", false)
  | 52 => ("TwoWayGrammarModel", "tokenValue", "J", false)
  | 53 => ("TwoWayGrammarModel", "openForm", "[I", true)
  | 54 => ("TwoWayGrammarModel", "openAlternative", "[I", true)
  | 55 => ("TwoWayGrammarModel", "openUnit", "[I", true)
  | 56 => ("TwoWayGrammarModel", "lastItem", "[I", true)
  | 57 => ("TwoWayGrammarModel", "lastUnit", "[I", true)
  | 58 => ("TwoWayGrammarModel", "swaps", "[Z", true)
  | 59 => ("TwoWayGrammarModel", "tokens", "I", false)
  | 60 => ("TwoWayGrammarModel", "kind", "[I", true)
  | 61 => ("TwoWayGrammarModel", "from", "[I", true)
  | 62 => ("TwoWayGrammarModel", "value", "[J", true)
  | 63 => ("TwoWayGrammarModel", "nodes", "I", false)
  | 64 => ("TwoWayGrammarModel", "made", "I", false)
  | 65 => ("TwoWayGrammarModel", "kept", "I", false)
  | 66 => ("TwoWayGrammarModel", "nodeKind", "[I", true)
  | 67 => ("TwoWayGrammarModel", "level", "[I", true)
  | 68 => ("TwoWayGrammarModel", "order", "[I", true)
  | 69 => ("TwoWayGrammarModel", "madeKind", "[I", true)
  | 70 => ("TwoWayGrammarModel", "madeLevel", "[I", true)
  | 71 => ("TwoWayGrammarModel", "madeOrder", "[I", true)
  | 72 => ("TwoWayGrammarModel", "keptKind", "[I", true)
  | 73 => ("TwoWayGrammarModel", "nodeValue", "[J", true)
  | 74 => ("TwoWayGrammarModel", "madeValue", "[J", true)
  | 75 => ("TwoWayGrammarModel", "keptValue", "[J", true)
  | 76 => ("TwoWayGrammarModel", "mode", "I", false)
  | 77 => ("TwoWayGrammarModel", "todo", "I", false)
  | 78 => ("TwoWayGrammarModel", "pairs", "I", false)
  | 79 => ("TwoWayGrammarModel", "deep", "I", false)
  | 80 => ("TwoWayGrammarModel", "uses", "I", false)
  | 81 => ("TwoWayGrammarModel", "next", "I", false)
  | 82 => ("TwoWayGrammarModel", "wrong", "I", false)
  | 83 => ("TwoWayGrammarModel", "fuel", "I", false)
  | 84 => ("TwoWayGrammarModel", "indent", "I", false)
  | 85 => ("TwoWayGrammarModel", "printed", "I", false)
  | 86 => ("TwoWayGrammarModel", "doing", "[I", true)
  | 87 => ("TwoWayGrammarModel", "doingWith", "[I", true)
  | 88 => ("TwoWayGrammarModel", "doingAlso", "[I", true)
  | 89 => ("TwoWayGrammarModel", "pairBegin", "[I", true)
  | 90 => ("TwoWayGrammarModel", "pairMiddle", "[I", true)
  | 91 => ("TwoWayGrammarModel", "print", "[I", true)
  | 92 => ("TwoWayGrammarModel", "passed", "Z", false)
  | 93 => ("TwoWayGrammarModel", "blanks", "Z", false)
  | 94 => ("TwoWayGrammarModel", "lines", "Z", false)
  | _ => ("TwoWayGrammarModel", "chance", "J", false)
def sc_ty11 : Nat → FieldType := fun k => match k with
  | 0 => .int
  | 1 => .int
  | 2 => .int
  | 3 => .int
  | 4 => .array (.int)
  | 5 => .array (.int)
  | 6 => .array (.int)
  | 7 => .int
  | 8 => .int
  | 9 => .int
  | 10 => .int
  | 11 => .int
  | 12 => .int
  | 13 => .int
  | 14 => .array (.int)
  | 15 => .array (.int)
  | 16 => .array (.int)
  | 17 => .array (.int)
  | 18 => .array (.int)
  | 19 => .array (.long)
  | 20 => .array (.int)
  | 21 => .array (.int)
  | 22 => .array (.int)
  | 23 => .array (.int)
  | 24 => .array (.int)
  | 25 => .array (.int)
  | 26 => .array (.int)
  | 27 => .array (.int)
  | 28 => .array (.int)
  | 29 => .array (.int)
  | 30 => .array (.int)
  | 31 => .array (.int)
  | 32 => .array (.boolean)
  | 33 => .array (.boolean)
  | 34 => .array (.boolean)
  | 35 => .array (.long)
  | 36 => .array (.long)
  | 37 => .array (.long)
  | 38 => .array (.long)
  | 39 => .array (.long)
  | 40 => .array (.int)
  | 41 => .array (.int)
  | 42 => .array (.int)
  | 43 => .array (.int)
  | 44 => .array (.int)
  | 45 => .array (.int)
  | 46 => .array (.int)
  | 47 => .boolean
  | 48 => .int
  | 49 => .int
  | 50 => .int
  | 51 => .int
  | 52 => .long
  | 53 => .array (.int)
  | 54 => .array (.int)
  | 55 => .array (.int)
  | 56 => .array (.int)
  | 57 => .array (.int)
  | 58 => .array (.boolean)
  | 59 => .int
  | 60 => .array (.int)
  | 61 => .array (.int)
  | 62 => .array (.long)
  | 63 => .int
  | 64 => .int
  | 65 => .int
  | 66 => .array (.int)
  | 67 => .array (.int)
  | 68 => .array (.int)
  | 69 => .array (.int)
  | 70 => .array (.int)
  | 71 => .array (.int)
  | 72 => .array (.int)
  | 73 => .array (.long)
  | 74 => .array (.long)
  | 75 => .array (.long)
  | 76 => .int
  | 77 => .int
  | 78 => .int
  | 79 => .int
  | 80 => .int
  | 81 => .int
  | 82 => .int
  | 83 => .int
  | 84 => .int
  | 85 => .int
  | 86 => .array (.int)
  | 87 => .array (.int)
  | 88 => .array (.int)
  | 89 => .array (.int)
  | 90 => .array (.int)
  | 91 => .array (.int)
  | 92 => .boolean
  | 93 => .boolean
  | 94 => .boolean
  | _ => .long
def sc_T12 : u_T := fun k => match k with
  | _ => ("", "", "", false)
def sc_ty12 : Nat → FieldType := fun k => match k with
  | _ => .int
def sc_T13 : u_T := fun k => match k with
  | _ => ("", "", "", false)
def sc_ty13 : Nat → FieldType := fun k => match k with
  | _ => .int
def sc_T14 : u_T := fun k => match k with
  | _ => ("", "", "", false)
def sc_ty14 : Nat → FieldType := fun k => match k with
  | _ => .int
def sc_T15 : u_T := fun k => match k with
  | _ => ("", "", "", false)
def sc_ty15 : Nat → FieldType := fun k => match k with
  | _ => .int
def sc_T16 : u_T := fun k => match k with
  | _ => ("", "", "", false)
def sc_ty16 : Nat → FieldType := fun k => match k with
  | _ => .int
def sc_T17 : u_T := fun k => match k with
  | _ => ("", "", "", false)
def sc_ty17 : Nat → FieldType := fun k => match k with
  | _ => .int
def sc_cl : List vw_C := [("TwoWayGrammar", sc_T0, 16), ("TwoWayGrammar$Text", sc_T1, 2), ("TwoWayGrammar$Grammar", sc_T2, 20), ("TwoWayGrammar$Reader", sc_T3, 4), ("TwoWayGrammar$Tokens", sc_T4, 5), ("TwoWayGrammar$Sets", sc_T5, 16), ("TwoWayGrammar$Checks", sc_T6, 3), ("TwoWayGrammar$Tree", sc_T7, 4), ("TwoWayGrammar$Parsing", sc_T8, 12), ("TwoWayGrammar$Growing", sc_T9, 8), ("TwoWayGrammar$Printing", sc_T10, 13), ("TwoWayGrammarModel", sc_T11, 96), ("java/lang/IndexOutOfBoundsException", sc_T12, 0), ("java/lang/IllegalArgumentException", sc_T13, 0), ("java/lang/IllegalStateException", sc_T14, 0), ("java/lang/UnsupportedOperationException", sc_T15, 0), ("java/util/NoSuchElementException", sc_T16, 0), ("java/lang/String", sc_T17, 0)]
theorem sc_nm0 : ∀ a, a < 16 → ∀ b, b < 16 → a ≠ b → (sc_T0 a).2.1 ≠ (sc_T0 b).2.1 := by decide +kernel
theorem sc_tyok0 : ∀ k, k < 16 → parseFieldDescriptor (sc_T0 k).2.2.1 = some (sc_ty0 k) := by decide +kernel
set_option maxRecDepth 20000 in
theorem sc_in0 : ∀ w ∈ u_ws "TwoWayGrammar" sc_T0 16, w ∈ sc_Ts := by
  have h : ((u_ws "TwoWayGrammar" sc_T0 16).zip ([565, 567, 569, 571, 573, 575, 577, 579, 581, 583, 585, 587, 589, 591, 593, 595] : List Nat)).all (fun p => lw_tbl[p.2]?.any (fun v => decide (v = p.1)) && goodWord p.1) = true := by decide +kernel
  exact sc_allmem _ _ (by decide +kernel) h
theorem sc_nm1 : ∀ a, a < 2 → ∀ b, b < 2 → a ≠ b → (sc_T1 a).2.1 ≠ (sc_T1 b).2.1 := by decide +kernel
theorem sc_tyok1 : ∀ k, k < 2 → parseFieldDescriptor (sc_T1 k).2.2.1 = some (sc_ty1 k) := by decide +kernel
set_option maxRecDepth 20000 in
theorem sc_in1 : ∀ w ∈ u_ws "TwoWayGrammar$Text" sc_T1 2, w ∈ sc_Ts := by
  have h : ((u_ws "TwoWayGrammar$Text" sc_T1 2).zip ([146, 148] : List Nat)).all (fun p => lw_tbl[p.2]?.any (fun v => decide (v = p.1)) && goodWord p.1) = true := by decide +kernel
  exact sc_allmem _ _ (by decide +kernel) h
theorem sc_nm2 : ∀ a, a < 20 → ∀ b, b < 20 → a ≠ b → (sc_T2 a).2.1 ≠ (sc_T2 b).2.1 := by decide +kernel
theorem sc_tyok2 : ∀ k, k < 20 → parseFieldDescriptor (sc_T2 k).2.2.1 = some (sc_ty2 k) := by decide +kernel
set_option maxRecDepth 20000 in
theorem sc_in2 : ∀ w ∈ u_ws "TwoWayGrammar$Grammar" sc_T2 20, w ∈ sc_Ts := by
  have h : ((u_ws "TwoWayGrammar$Grammar" sc_T2 20).zip ([225, 227, 229, 231, 233, 235, 237, 239, 241, 243, 245, 247, 249, 251, 253, 255, 257, 259, 261, 263] : List Nat)).all (fun p => lw_tbl[p.2]?.any (fun v => decide (v = p.1)) && goodWord p.1) = true := by decide +kernel
  exact sc_allmem _ _ (by decide +kernel) h
theorem sc_nm3 : ∀ a, a < 4 → ∀ b, b < 4 → a ≠ b → (sc_T3 a).2.1 ≠ (sc_T3 b).2.1 := by decide +kernel
theorem sc_tyok3 : ∀ k, k < 4 → parseFieldDescriptor (sc_T3 k).2.2.1 = some (sc_ty3 k) := by decide +kernel
set_option maxRecDepth 20000 in
theorem sc_in3 : ∀ w ∈ u_ws "TwoWayGrammar$Reader" sc_T3 4, w ∈ sc_Ts := by
  have h : ((u_ws "TwoWayGrammar$Reader" sc_T3 4).zip ([302, 304, 306, 308] : List Nat)).all (fun p => lw_tbl[p.2]?.any (fun v => decide (v = p.1)) && goodWord p.1) = true := by decide +kernel
  exact sc_allmem _ _ (by decide +kernel) h
theorem sc_nm4 : ∀ a, a < 5 → ∀ b, b < 5 → a ≠ b → (sc_T4 a).2.1 ≠ (sc_T4 b).2.1 := by decide +kernel
theorem sc_tyok4 : ∀ k, k < 5 → parseFieldDescriptor (sc_T4 k).2.2.1 = some (sc_ty4 k) := by decide +kernel
set_option maxRecDepth 20000 in
theorem sc_in4 : ∀ w ∈ u_ws "TwoWayGrammar$Tokens" sc_T4 5, w ∈ sc_Ts := by
  have h : ((u_ws "TwoWayGrammar$Tokens" sc_T4 5).zip ([283, 285, 287, 289, 291] : List Nat)).all (fun p => lw_tbl[p.2]?.any (fun v => decide (v = p.1)) && goodWord p.1) = true := by decide +kernel
  exact sc_allmem _ _ (by decide +kernel) h
theorem sc_nm5 : ∀ a, a < 16 → ∀ b, b < 16 → a ≠ b → (sc_T5 a).2.1 ≠ (sc_T5 b).2.1 := by decide +kernel
theorem sc_tyok5 : ∀ k, k < 16 → parseFieldDescriptor (sc_T5 k).2.2.1 = some (sc_ty5 k) := by decide +kernel
set_option maxRecDepth 20000 in
theorem sc_in5 : ∀ w ∈ u_ws "TwoWayGrammar$Sets" sc_T5 16, w ∈ sc_Ts := by
  have h : ((u_ws "TwoWayGrammar$Sets" sc_T5 16).zip ([345, 347, 349, 351, 353, 355, 357, 359, 361, 363, 365, 367, 369, 371, 373, 375] : List Nat)).all (fun p => lw_tbl[p.2]?.any (fun v => decide (v = p.1)) && goodWord p.1) = true := by decide +kernel
  exact sc_allmem _ _ (by decide +kernel) h
theorem sc_nm6 : ∀ a, a < 3 → ∀ b, b < 3 → a ≠ b → (sc_T6 a).2.1 ≠ (sc_T6 b).2.1 := by decide +kernel
theorem sc_tyok6 : ∀ k, k < 3 → parseFieldDescriptor (sc_T6 k).2.2.1 = some (sc_ty6 k) := by decide +kernel
set_option maxRecDepth 20000 in
theorem sc_in6 : ∀ w ∈ u_ws "TwoWayGrammar$Checks" sc_T6 3, w ∈ sc_Ts := by
  have h : ((u_ws "TwoWayGrammar$Checks" sc_T6 3).zip ([388, 390, 392] : List Nat)).all (fun p => lw_tbl[p.2]?.any (fun v => decide (v = p.1)) && goodWord p.1) = true := by decide +kernel
  exact sc_allmem _ _ (by decide +kernel) h
theorem sc_nm7 : ∀ a, a < 4 → ∀ b, b < 4 → a ≠ b → (sc_T7 a).2.1 ≠ (sc_T7 b).2.1 := by decide +kernel
theorem sc_tyok7 : ∀ k, k < 4 → parseFieldDescriptor (sc_T7 k).2.2.1 = some (sc_ty7 k) := by decide +kernel
set_option maxRecDepth 20000 in
theorem sc_in7 : ∀ w ∈ u_ws "TwoWayGrammar$Tree" sc_T7 4, w ∈ sc_Ts := by
  have h : ((u_ws "TwoWayGrammar$Tree" sc_T7 4).zip ([413, 415, 417, 419] : List Nat)).all (fun p => lw_tbl[p.2]?.any (fun v => decide (v = p.1)) && goodWord p.1) = true := by decide +kernel
  exact sc_allmem _ _ (by decide +kernel) h
theorem sc_nm8 : ∀ a, a < 12 → ∀ b, b < 12 → a ≠ b → (sc_T8 a).2.1 ≠ (sc_T8 b).2.1 := by decide +kernel
theorem sc_tyok8 : ∀ k, k < 12 → parseFieldDescriptor (sc_T8 k).2.2.1 = some (sc_ty8 k) := by decide +kernel
set_option maxRecDepth 20000 in
theorem sc_in8 : ∀ w ∈ u_ws "TwoWayGrammar$Parsing" sc_T8 12, w ∈ sc_Ts := by
  have h : ((u_ws "TwoWayGrammar$Parsing" sc_T8 12).zip ([482, 484, 486, 488, 490, 492, 470, 472, 474, 476, 478, 480] : List Nat)).all (fun p => lw_tbl[p.2]?.any (fun v => decide (v = p.1)) && goodWord p.1) = true := by decide +kernel
  exact sc_allmem _ _ (by decide +kernel) h
theorem sc_nm9 : ∀ a, a < 8 → ∀ b, b < 8 → a ≠ b → (sc_T9 a).2.1 ≠ (sc_T9 b).2.1 := by decide +kernel
theorem sc_tyok9 : ∀ k, k < 8 → parseFieldDescriptor (sc_T9 k).2.2.1 = some (sc_ty9 k) := by decide +kernel
set_option maxRecDepth 20000 in
theorem sc_in9 : ∀ w ∈ u_ws "TwoWayGrammar$Growing" sc_T9 8, w ∈ sc_Ts := by
  have h : ((u_ws "TwoWayGrammar$Growing" sc_T9 8).zip ([507, 508, 509, 510, 511, 512, 503, 505] : List Nat)).all (fun p => lw_tbl[p.2]?.any (fun v => decide (v = p.1)) && goodWord p.1) = true := by decide +kernel
  exact sc_allmem _ _ (by decide +kernel) h
theorem sc_nm10 : ∀ a, a < 13 → ∀ b, b < 13 → a ≠ b → (sc_T10 a).2.1 ≠ (sc_T10 b).2.1 := by decide +kernel
theorem sc_tyok10 : ∀ k, k < 13 → parseFieldDescriptor (sc_T10 k).2.2.1 = some (sc_ty10 k) := by decide +kernel
set_option maxRecDepth 20000 in
theorem sc_in10 : ∀ w ∈ u_ws "TwoWayGrammar$Printing" sc_T10 13, w ∈ sc_Ts := by
  have h : ((u_ws "TwoWayGrammar$Printing" sc_T10 13).zip ([542, 543, 544, 545, 546, 547, 528, 530, 532, 534, 536, 538, 540] : List Nat)).all (fun p => lw_tbl[p.2]?.any (fun v => decide (v = p.1)) && goodWord p.1) = true := by decide +kernel
  exact sc_allmem _ _ (by decide +kernel) h
theorem sc_nm11 : ∀ a, a < 96 → ∀ b, b < 96 → a ≠ b → (sc_T11 a).2.1 ≠ (sc_T11 b).2.1 := by decide +kernel
theorem sc_tyok11 : ∀ k, k < 96 → parseFieldDescriptor (sc_T11 k).2.2.1 = some (sc_ty11 k) := by decide +kernel
set_option maxRecDepth 20000 in
theorem sc_in11 : ∀ w ∈ u_ws "TwoWayGrammarModel" sc_T11 96, w ∈ sc_Ts := by
  have h : ((u_ws "TwoWayGrammarModel" sc_T11 96).zip ([1651, 1653, 1655, 1657, 1659, 1661, 1663, 1665, 1667, 1669, 1671, 1673, 1675, 1677, 1679, 1681, 1683, 1685, 1687, 1689, 1691, 1693, 1695, 1697, 1699, 1701, 1703, 1705, 1707, 1709, 1711, 1713, 1715, 1717, 1719, 1721, 1723, 1725, 1727, 1729, 1731, 1733, 1735, 1737, 1739, 1741, 1743, 1745, 1747, 1749, 1751, 1753, 1755, 1757, 1759, 1761, 1763, 1765, 1767, 1769, 1771, 1773, 1775, 1777, 1779, 1781, 1783, 1785, 1787, 1789, 1791, 1793, 1795, 1797, 1799, 1801, 1803, 1805, 1807, 1809, 1811, 1813, 1815, 1817, 1819, 1821, 1823, 1825, 1827, 1829, 1831, 1833, 1835, 1837, 1839, 1841] : List Nat)).all (fun p => lw_tbl[p.2]?.any (fun v => decide (v = p.1)) && goodWord p.1) = true := by decide +kernel
  exact sc_allmem _ _ (by decide +kernel) h
theorem sc_nm12 : ∀ a, a < 0 → ∀ b, b < 0 → a ≠ b → (sc_T12 a).2.1 ≠ (sc_T12 b).2.1 := by decide +kernel
theorem sc_tyok12 : ∀ k, k < 0 → parseFieldDescriptor (sc_T12 k).2.2.1 = some (sc_ty12 k) := by decide +kernel
set_option maxRecDepth 20000 in
theorem sc_in12 : ∀ w ∈ u_ws "java/lang/IndexOutOfBoundsException" sc_T12 0, w ∈ sc_Ts := by
  have h : ((u_ws "java/lang/IndexOutOfBoundsException" sc_T12 0).zip ([] : List Nat)).all (fun p => lw_tbl[p.2]?.any (fun v => decide (v = p.1)) && goodWord p.1) = true := by decide +kernel
  exact sc_allmem _ _ (by decide +kernel) h
theorem sc_nm13 : ∀ a, a < 0 → ∀ b, b < 0 → a ≠ b → (sc_T13 a).2.1 ≠ (sc_T13 b).2.1 := by decide +kernel
theorem sc_tyok13 : ∀ k, k < 0 → parseFieldDescriptor (sc_T13 k).2.2.1 = some (sc_ty13 k) := by decide +kernel
set_option maxRecDepth 20000 in
theorem sc_in13 : ∀ w ∈ u_ws "java/lang/IllegalArgumentException" sc_T13 0, w ∈ sc_Ts := by
  have h : ((u_ws "java/lang/IllegalArgumentException" sc_T13 0).zip ([] : List Nat)).all (fun p => lw_tbl[p.2]?.any (fun v => decide (v = p.1)) && goodWord p.1) = true := by decide +kernel
  exact sc_allmem _ _ (by decide +kernel) h
theorem sc_nm14 : ∀ a, a < 0 → ∀ b, b < 0 → a ≠ b → (sc_T14 a).2.1 ≠ (sc_T14 b).2.1 := by decide +kernel
theorem sc_tyok14 : ∀ k, k < 0 → parseFieldDescriptor (sc_T14 k).2.2.1 = some (sc_ty14 k) := by decide +kernel
set_option maxRecDepth 20000 in
theorem sc_in14 : ∀ w ∈ u_ws "java/lang/IllegalStateException" sc_T14 0, w ∈ sc_Ts := by
  have h : ((u_ws "java/lang/IllegalStateException" sc_T14 0).zip ([] : List Nat)).all (fun p => lw_tbl[p.2]?.any (fun v => decide (v = p.1)) && goodWord p.1) = true := by decide +kernel
  exact sc_allmem _ _ (by decide +kernel) h
theorem sc_nm15 : ∀ a, a < 0 → ∀ b, b < 0 → a ≠ b → (sc_T15 a).2.1 ≠ (sc_T15 b).2.1 := by decide +kernel
theorem sc_tyok15 : ∀ k, k < 0 → parseFieldDescriptor (sc_T15 k).2.2.1 = some (sc_ty15 k) := by decide +kernel
set_option maxRecDepth 20000 in
theorem sc_in15 : ∀ w ∈ u_ws "java/lang/UnsupportedOperationException" sc_T15 0, w ∈ sc_Ts := by
  have h : ((u_ws "java/lang/UnsupportedOperationException" sc_T15 0).zip ([] : List Nat)).all (fun p => lw_tbl[p.2]?.any (fun v => decide (v = p.1)) && goodWord p.1) = true := by decide +kernel
  exact sc_allmem _ _ (by decide +kernel) h
theorem sc_nm16 : ∀ a, a < 0 → ∀ b, b < 0 → a ≠ b → (sc_T16 a).2.1 ≠ (sc_T16 b).2.1 := by decide +kernel
theorem sc_tyok16 : ∀ k, k < 0 → parseFieldDescriptor (sc_T16 k).2.2.1 = some (sc_ty16 k) := by decide +kernel
set_option maxRecDepth 20000 in
theorem sc_in16 : ∀ w ∈ u_ws "java/util/NoSuchElementException" sc_T16 0, w ∈ sc_Ts := by
  have h : ((u_ws "java/util/NoSuchElementException" sc_T16 0).zip ([] : List Nat)).all (fun p => lw_tbl[p.2]?.any (fun v => decide (v = p.1)) && goodWord p.1) = true := by decide +kernel
  exact sc_allmem _ _ (by decide +kernel) h
theorem sc_nm17 : ∀ a, a < 0 → ∀ b, b < 0 → a ≠ b → (sc_T17 a).2.1 ≠ (sc_T17 b).2.1 := by decide +kernel
theorem sc_tyok17 : ∀ k, k < 0 → parseFieldDescriptor (sc_T17 k).2.2.1 = some (sc_ty17 k) := by decide +kernel
set_option maxRecDepth 20000 in
theorem sc_in17 : ∀ w ∈ u_ws "java/lang/String" sc_T17 0, w ∈ sc_Ts := by
  have h : ((u_ws "java/lang/String" sc_T17 0).zip ([] : List Nat)).all (fun p => lw_tbl[p.2]?.any (fun v => decide (v = p.1)) && goodWord p.1) = true := by decide +kernel
  exact sc_allmem _ _ (by decide +kernel) h
end
section
/-- TwoWayGrammar.<init>()V -/
def sb_0 : List (Option sm_I) := [some (.aload_n 0, 1, []), some (.invokespecial 3, 3, [2]), none, none, some (.aload_n 0, 1, []), some (.new 9, 3, [1, 2, 0]), none, none, some (.dup, 1, []), some (.sipush 240, 3, []), none, none, some (.invokespecial 11, 3, [0, 1, 2]), none, none, some (.putfield 14, 3, [0, 2, 1, 0]), none, none, some (.aload_n 0, 1, []), some (.new 9, 3, [1, 2, 0]), none, none, some (.dup, 1, []), some (.sipush 160, 3, []), none, none, some (.invokespecial 11, 3, [0, 1, 2]), none, none, some (.putfield 18, 3, [1, 2, 1, 0]), none, none, some (.aload_n 0, 1, []), some (.new 9, 3, [1, 2, 0]), none, none, some (.dup, 1, []), some (.sipush 160, 3, []), none, none, some (.invokespecial 11, 3, [0, 1, 2]), none, none, some (.putfield 21, 3, [2, 2, 1, 0]), none, none, some (.aload_n 0, 1, []), some (.new 9, 3, [1, 2, 0]), none, none, some (.dup, 1, []), some (.sipush 160, 3, []), none, none, some (.invokespecial 11, 3, [0, 1, 2]), none, none, some (.putfield 24, 3, [3, 2, 1, 0]), none, none, some (.aload_n 0, 1, []), some (.new 27, 3, [2, 0, 2, 2, 2, 2, 0, 0, 2, 2, 2, 0, 2, 2, 2, 2, 2, 2, 2, 0, 2]), none, none, some (.dup, 1, []), some (.invokespecial 29, 3, [0, 2, 1]), none, none, some (.putfield 30, 3, [4, 2, 1, 0]), none, none, some (.aload_n 0, 1, []), some (.new 34, 3, [3, 2, 2, 0, 0]), none, none, some (.dup, 1, []), some (.new 36, 3, [4, 2, 0, 0, 0, 0]), none, none, some (.dup, 1, []), some (.aload_n 0, 1, []), some (.getfield 14, 3, [0, 0, 0]), none, none, some (.invokespecial 38, 3, [0, 3, 2]), none, none, some (.aload_n 0, 1, []), some (.getfield 30, 3, [4, 0, 0]), none, none, some (.invokespecial 41, 3, [0, 4, 3]), none, none, some (.putfield 44, 3, [5, 2, 1, 0]), none, none, some (.aload_n 0, 1, []), some (.new 48, 3, [5, 2, 2, 2, 2, 2, 2, 2, 2, 2, 2, 2, 2, 2, 2, 2, 3]), none, none, some (.dup, 1, []), some (.aload_n 0, 1, []), some (.getfield 30, 3, [4, 0, 0]), none, none, some (.invokespecial 50, 3, [0, 5, 2]), none, none, some (.putfield 53, 3, [6, 2, 1, 0]), none, none, some (.aload_n 0, 1, []), some (.new 57, 3, [6, 2, 2, 0]), none, none, some (.dup, 1, []), some (.aload_n 0, 1, []), some (.getfield 30, 3, [4, 0, 0]), none, none, some (.aload_n 0, 1, []), some (.getfield 53, 3, [6, 0, 0]), none, none, some (.invokespecial 59, 3, [0, 6, 3]), none, none, some (.putfield 62, 3, [7, 2, 1, 0]), none, none, some (.aload_n 0, 1, []), some (.new 66, 3, [7, 0, 2, 2, 2]), none, none, some (.dup, 1, []), some (.invokespecial 68, 3, [0, 7, 1]), none, none, some (.putfield 69, 3, [8, 2, 1, 0]), none, none, some (.aload_n 0, 1, []), some (.new 66, 3, [7, 0, 2, 2, 2]), none, none, some (.dup, 1, []), some (.invokespecial 68, 3, [0, 7, 1]), none, none, some (.putfield 73, 3, [9, 2, 1, 0]), none, none, some (.aload_n 0, 1, []), some (.new 66, 3, [7, 0, 2, 2, 2]), none, none, some (.dup, 1, []), some (.invokespecial 68, 3, [0, 7, 1]), none, none, some (.putfield 76, 3, [10, 2, 1, 0]), none, none, some (.aload_n 0, 1, []), some (.new 79, 3, [8, 2, 2, 2, 3, 3, 0, 2, 0, 0, 0, 0, 0]), none, none, some (.dup, 1, []), some (.aload_n 0, 1, []), some (.getfield 30, 3, [4, 0, 0]), none, none, some (.aload_n 0, 1, []), some (.getfield 53, 3, [6, 0, 0]), none, none, some (.aload_n 0, 1, []), some (.getfield 76, 3, [10, 0, 0]), none, none, some (.aload_n 0, 1, []), some (.getfield 18, 3, [1, 0, 0]), none, none, some (.invokespecial 81, 3, [0, 8, 5]), none, none, some (.putfield 84, 3, [11, 2, 1, 0]), none, none, some (.aload_n 0, 1, []), some (.new 88, 3, [9, 2, 2, 2, 3, 3, 0, 1, 0]), none, none, some (.dup, 1, []), some (.aload_n 0, 1, []), some (.getfield 30, 3, [4, 0, 0]), none, none, some (.aload_n 0, 1, []), some (.getfield 53, 3, [6, 0, 0]), none, none, some (.aload_n 0, 1, []), some (.getfield 76, 3, [10, 0, 0]), none, none, some (.invokespecial 90, 3, [0, 10, 4]), none, none, some (.putfield 93, 3, [12, 2, 1, 0]), none, none, some (.aload_n 0, 1, []), some (.new 97, 3, [10, 2, 2, 2, 3, 3, 0, 2, 0, 0, 3, 3, 3, 3]), none, none, some (.dup, 1, []), some (.aload_n 0, 1, []), some (.getfield 30, 3, [4, 0, 0]), none, none, some (.aload_n 0, 1, []), some (.getfield 53, 3, [6, 0, 0]), none, none, some (.aload_n 0, 1, []), some (.getfield 69, 3, [8, 0, 0]), none, none, some (.aload_n 0, 1, []), some (.getfield 24, 3, [3, 0, 0]), none, none, some (.invokespecial 99, 3, [0, 11, 5]), none, none, some (.putfield 100, 3, [13, 2, 1, 0]), none, none, some (.return_, 1, [])]
/-- TwoWayGrammar$Text.<init>(I)V -/
def sb_1 : List (Option sm_I) := [some (.aload_n 0, 1, []), some (.invokespecial 1, 3, [2]), none, none, some (.aload_n 0, 1, []), some (.iload_n 1, 1, []), some (.iconst 0, 1, []), some (.invokestatic 7, 3, [7, 0]), none, none, some (.newarray .char, 2, [2]), none, some (.putfield 13, 3, [0, 2, 1, 1]), none, none, some (.return_, 1, [])]
/-- TwoWayGrammar$Grammar.<init>()V -/
def sb_2 : List (Option sm_I) := [some (.aload_n 0, 1, []), some (.invokespecial 3, 3, [2]), none, none, some (.aload_n 0, 1, []), some (.bipush 10, 2, []), none, some (.newarray .int, 2, [0]), none, some (.putfield 9, 3, [1, 2, 1, 2]), none, none, some (.aload_n 0, 1, []), some (.bipush 10, 2, []), none, some (.newarray .int, 2, [0]), none, some (.putfield 15, 3, [2, 2, 1, 2]), none, none, some (.aload_n 0, 1, []), some (.bipush 70, 2, []), none, some (.newarray .int, 2, [0]), none, some (.putfield 18, 3, [3, 2, 1, 2]), none, none, some (.aload_n 0, 1, []), some (.bipush 70, 2, []), none, some (.newarray .int, 2, [0]), none, some (.putfield 21, 3, [4, 2, 1, 2]), none, none, some (.aload_n 0, 1, []), some (.bipush 66, 2, []), none, some (.newarray .int, 2, [0]), none, some (.putfield 24, 3, [7, 2, 1, 2]), none, none, some (.aload_n 0, 1, []), some (.bipush 66, 2, []), none, some (.newarray .int, 2, [0]), none, some (.putfield 27, 3, [8, 2, 1, 2]), none, none, some (.aload_n 0, 1, []), some (.bipush 66, 2, []), none, some (.newarray .int, 2, [0]), none, some (.putfield 30, 3, [9, 2, 1, 2]), none, none, some (.aload_n 0, 1, []), some (.bipush 60, 2, []), none, some (.newarray .int, 2, [0]), none, some (.putfield 33, 3, [11, 2, 1, 2]), none, none, some (.aload_n 0, 1, []), some (.bipush 60, 2, []), none, some (.newarray .int, 2, [0]), none, some (.putfield 36, 3, [12, 2, 1, 2]), none, none, some (.aload_n 0, 1, []), some (.bipush 60, 2, []), none, some (.newarray .int, 2, [0]), none, some (.putfield 39, 3, [13, 2, 1, 2]), none, none, some (.aload_n 0, 1, []), some (.bipush 60, 2, []), none, some (.newarray .int, 2, [0]), none, some (.putfield 42, 3, [14, 2, 1, 2]), none, none, some (.aload_n 0, 1, []), some (.bipush 60, 2, []), none, some (.newarray .int, 2, [0]), none, some (.putfield 45, 3, [15, 2, 1, 2]), none, none, some (.aload_n 0, 1, []), some (.bipush 60, 2, []), none, some (.newarray .int, 2, [0]), none, some (.putfield 48, 3, [16, 2, 1, 2]), none, none, some (.aload_n 0, 1, []), some (.bipush 60, 2, []), none, some (.newarray .int, 2, [0]), none, some (.putfield 51, 3, [17, 2, 1, 2]), none, none, some (.aload_n 0, 1, []), some (.bipush 20, 2, []), none, some (.newarray .int, 2, [0]), none, some (.putfield 54, 3, [19, 2, 1, 2]), none, none, some (.return_, 1, [])]
/-- TwoWayGrammar$Tokens.<init>(LTwoWayGrammar$Text;)V -/
def sb_3 : List (Option sm_I) := [some (.aload_n 0, 1, []), some (.invokespecial 3, 3, [2]), none, none, some (.aload_n 0, 1, []), some (.aload_n 1, 1, []), some (.putfield 9, 3, [0, 2, 1, 4]), none, none, some (.return_, 1, [])]
/-- TwoWayGrammar$Reader.<init>(LTwoWayGrammar$Tokens;LTwoWayGrammar$Grammar;)V -/
def sb_4 : List (Option sm_I) := [some (.aload_n 0, 1, []), some (.invokespecial 3, 3, [2]), none, none, some (.aload_n 0, 1, []), some (.aload_n 1, 1, []), some (.putfield 9, 3, [0, 2, 1, 3]), none, none, some (.aload_n 0, 1, []), some (.aload_n 2, 1, []), some (.putfield 15, 3, [1, 2, 1, 3]), none, none, some (.return_, 1, [])]
/-- TwoWayGrammar$Sets.<init>(LTwoWayGrammar$Grammar;)V -/
def sb_5 : List (Option sm_I) := [some (.aload_n 0, 1, []), some (.invokespecial 3, 3, [2]), none, none, some (.aload_n 0, 1, []), some (.bipush 70, 2, []), none, some (.newarray .int, 2, [0]), none, some (.putfield 9, 3, [1, 2, 1, 5]), none, none, some (.aload_n 0, 1, []), some (.bipush 70, 2, []), none, some (.newarray .long, 2, [1]), none, some (.putfield 15, 3, [2, 2, 1, 5]), none, none, some (.aload_n 0, 1, []), some (.bipush 70, 2, []), none, some (.newarray .long, 2, [1]), none, some (.putfield 19, 3, [3, 2, 1, 5]), none, none, some (.aload_n 0, 1, []), some (.bipush 70, 2, []), none, some (.newarray .int, 2, [0]), none, some (.putfield 22, 3, [4, 2, 1, 5]), none, none, some (.aload_n 0, 1, []), some (.bipush 70, 2, []), none, some (.newarray .int, 2, [0]), none, some (.putfield 25, 3, [5, 2, 1, 5]), none, none, some (.aload_n 0, 1, []), some (.bipush 66, 2, []), none, some (.newarray .int, 2, [0]), none, some (.putfield 28, 3, [6, 2, 1, 5]), none, none, some (.aload_n 0, 1, []), some (.bipush 66, 2, []), none, some (.newarray .long, 2, [1]), none, some (.putfield 31, 3, [7, 2, 1, 5]), none, none, some (.aload_n 0, 1, []), some (.bipush 66, 2, []), none, some (.newarray .int, 2, [0]), none, some (.putfield 34, 3, [8, 2, 1, 5]), none, none, some (.aload_n 0, 1, []), some (.bipush 66, 2, []), none, some (.newarray .int, 2, [0]), none, some (.putfield 37, 3, [9, 2, 1, 5]), none, none, some (.aload_n 0, 1, []), some (.bipush 66, 2, []), none, some (.newarray .long, 2, [1]), none, some (.putfield 40, 3, [10, 2, 1, 5]), none, none, some (.aload_n 0, 1, []), some (.bipush 60, 2, []), none, some (.newarray .int, 2, [0]), none, some (.putfield 43, 3, [11, 2, 1, 5]), none, none, some (.aload_n 0, 1, []), some (.bipush 60, 2, []), none, some (.newarray .long, 2, [1]), none, some (.putfield 46, 3, [12, 2, 1, 5]), none, none, some (.aload_n 0, 1, []), some (.bipush 60, 2, []), none, some (.newarray .long, 2, [1]), none, some (.putfield 49, 3, [13, 2, 1, 5]), none, none, some (.aload_n 0, 1, []), some (.bipush 60, 2, []), none, some (.newarray .int, 2, [0]), none, some (.putfield 52, 3, [14, 2, 1, 5]), none, none, some (.aload_n 0, 1, []), some (.aload_n 1, 1, []), some (.putfield 55, 3, [0, 2, 1, 5]), none, none, some (.return_, 1, [])]
/-- TwoWayGrammar$Checks.<init>(LTwoWayGrammar$Grammar;LTwoWayGrammar$Sets;)V -/
def sb_6 : List (Option sm_I) := [some (.aload_n 0, 1, []), some (.invokespecial 3, 3, [2]), none, none, some (.aload_n 0, 1, []), some (.aload_n 1, 1, []), some (.putfield 9, 3, [0, 2, 1, 6]), none, none, some (.aload_n 0, 1, []), some (.aload_n 2, 1, []), some (.putfield 15, 3, [1, 2, 1, 6]), none, none, some (.return_, 1, [])]
/-- TwoWayGrammar$Tree.<init>()V -/
def sb_7 : List (Option sm_I) := [some (.aload_n 0, 1, []), some (.invokespecial 3, 3, [2]), none, none, some (.aload_n 0, 1, []), some (.bipush 100, 2, []), none, some (.newarray .int, 2, [0]), none, some (.putfield 9, 3, [1, 2, 1, 7]), none, none, some (.aload_n 0, 1, []), some (.bipush 100, 2, []), none, some (.newarray .int, 2, [0]), none, some (.putfield 15, 3, [2, 2, 1, 7]), none, none, some (.aload_n 0, 1, []), some (.bipush 100, 2, []), none, some (.newarray .int, 2, [0]), none, some (.putfield 18, 3, [3, 2, 1, 7]), none, none, some (.return_, 1, [])]
/-- TwoWayGrammar$Parsing.<init>(LTwoWayGrammar$Grammar;LTwoWayGrammar$Sets;LTwoWayGrammar$Tree;LTwoWayGrammar$Text;)V -/
def sb_8 : List (Option sm_I) := [some (.aload_n 0, 1, []), some (.aload_n 1, 1, []), some (.aload_n 2, 1, []), some (.aload_n 3, 1, []), some (.invokespecial 3, 3, [0, 9, 4]), none, none, some (.aload_n 0, 1, []), some (.aload 4, 2, []), none, some (.putfield 9, 3, [6, 2, 1, 8]), none, none, some (.return_, 1, [])]
/-- TwoWayGrammar$Walk.<init>(LTwoWayGrammar$Grammar;LTwoWayGrammar$Sets;LTwoWayGrammar$Tree;)V -/
def sb_9 : List (Option sm_I) := [some (.aload_n 0, 1, []), some (.invokespecial 3, 3, [2]), none, none, some (.aload_n 0, 1, []), some (.aload_n 1, 1, []), some (.putfield 9, 3, [0, 2, 1, 8, 9, 10]), none, none, some (.aload_n 0, 1, []), some (.aload_n 2, 1, []), some (.putfield 15, 3, [1, 2, 1, 8, 9, 10]), none, none, some (.aload_n 0, 1, []), some (.aload_n 3, 1, []), some (.putfield 19, 3, [2, 2, 1, 8, 9, 10]), none, none, some (.return_, 1, [])]
/-- TwoWayGrammar$Growing.<init>(LTwoWayGrammar$Grammar;LTwoWayGrammar$Sets;LTwoWayGrammar$Tree;)V -/
def sb_10 : List (Option sm_I) := [some (.aload_n 0, 1, []), some (.aload_n 1, 1, []), some (.aload_n 2, 1, []), some (.aload_n 3, 1, []), some (.invokespecial 3, 3, [0, 9, 4]), none, none, some (.return_, 1, [])]
/-- TwoWayGrammar$Printing.<init>(LTwoWayGrammar$Grammar;LTwoWayGrammar$Sets;LTwoWayGrammar$Tree;LTwoWayGrammar$Text;)V -/
def sb_11 : List (Option sm_I) := [some (.aload_n 0, 1, []), some (.aload_n 1, 1, []), some (.aload_n 2, 1, []), some (.aload_n 3, 1, []), some (.invokespecial 3, 3, [0, 9, 4]), none, none, some (.aload_n 0, 1, []), some (.aload 4, 2, []), none, some (.putfield 9, 3, [6, 2, 1, 10]), none, none, some (.return_, 1, [])]
/-- TwoWayGrammar.compile()I -/
def sb_12 : List (Option sm_I) := [some (.aload_n 0, 1, []), some (.getfield 69, 3, [8, 0, 0]), none, none, some (.invokevirtual 140, 3, [0, 0, 7, 13]), none, none, some (.aload_n 0, 1, []), some (.getfield 73, 3, [9, 0, 0]), none, none, some (.invokevirtual 140, 3, [0, 0, 7, 13]), none, none, some (.aload_n 0, 1, []), some (.getfield 44, 3, [5, 0, 0]), none, none, some (.invokevirtual 141, 3, [0, 0, 3, 14]), none, none, some (.istore_n 1, 1, []), some (.aload_n 0, 1, []), some (.iload_n 1, 1, []), some (.ifCond .ne 7, 3, []), none, none, some (.iconst 1, 1, []), some (.goto 4, 3, []), none, none, some (.iconst 0, 1, []), some (.putfield 144, 3, [14, 3, 0, 0]), none, none, some (.aload_n 0, 1, []), some (.getfield 144, 3, [14, 0, 0]), none, none, some (.ifCond .eq 18, 3, []), none, none, some (.aload_n 0, 1, []), some (.getfield 53, 3, [6, 0, 0]), none, none, some (.invokevirtual 148, 3, [0, 0, 5, 65]), none, none, some (.aload_n 0, 1, []), some (.getfield 62, 3, [7, 0, 0]), none, none, some (.invokevirtual 151, 3, [0, 0, 6, 82]), none, none, some (.istore_n 1, 1, []), some (.aload_n 0, 1, []), some (.iload_n 1, 1, []), some (.ifCond .ne 7, 3, []), none, none, some (.iconst 1, 1, []), some (.goto 4, 3, []), none, none, some (.iconst 0, 1, []), some (.putfield 154, 3, [15, 3, 0, 0]), none, none, some (.iload_n 1, 1, []), some (.ireturn, 1, [])]
/-- TwoWayGrammar$Tree.drop()V -/
def sb_13 : List (Option sm_I) := [some (.aload_n 0, 1, []), some (.iconst 0, 1, []), some (.putfield 21, 3, [0, 0, 0, 7]), none, none, some (.return_, 1, [])]
/-- TwoWayGrammar$Reader.read()I -/
def sb_14 : List (Option sm_I) := [some (.aload_n 0, 1, []), some (.getfield 15, 3, [1, 0, 3]), none, none, some (.invokevirtual 19, 3, [0, 0, 2, 15]), none, none, some (.aload_n 0, 1, []), some (.iconst 0, 1, []), some (.putfield 24, 3, [2, 0, 0, 3]), none, none, some (.aload_n 0, 1, []), some (.iconst 0, 1, []), some (.putfield 28, 3, [3, 0, 0, 3]), none, none, some (.aload_n 0, 1, []), some (.getfield 9, 3, [0, 0, 3]), none, none, some (.invokevirtual 31, 3, [0, 0, 4, 17]), none, none, some (.iconst 0, 1, []), some (.istore_n 1, 1, []), some (.iload_n 1, 1, []), some (.bipush 10, 2, []), none, some (.if_icmp .gt 53, 3, []), none, none, some (.aload_n 0, 1, []), some (.getfield 24, 3, [2, 0, 3]), none, none, some (.ifCond .ne 46, 3, []), none, none, some (.iload_n 1, 1, []), some (.ifCond .eq 13, 3, []), none, none, some (.aload_n 0, 1, []), some (.getfield 9, 3, [0, 0, 3]), none, none, some (.getfield 36, 3, [3, 0, 4]), none, none, some (.ifCond .eq 32, 3, []), none, none, some (.aload_n 0, 1, []), some (.invokevirtual 39, 3, [0, 0, 3, 46]), none, none, some (.istore_n 2, 1, []), some (.aload_n 0, 1, []), some (.bipush 61, 2, []), none, some (.invokevirtual 43, 3, [0, 1, 3, 51]), none, none, some (.aload_n 0, 1, []), some (.iload_n 2, 1, []), some (.iconst 0, 1, []), some (.invokevirtual 47, 3, [0, 2, 3, 52]), none, none, some (.aload_n 0, 1, []), some (.bipush 59, 2, []), none, some (.invokevirtual 43, 3, [0, 1, 3, 51]), none, none, some (.iinc 1 1, 3, []), none, none, some (.goto (-53), 3, []), none, none, some (.aload_n 0, 1, []), some (.getfield 24, 3, [2, 0, 3]), none, none, some (.ifCond .ne 7, 3, []), none, none, some (.aload_n 0, 1, []), some (.invokevirtual 51, 3, [0, 0, 3, 64]), none, none, some (.aload_n 0, 1, []), some (.getfield 24, 3, [2, 0, 3]), none, none, some (.bipush 16, 2, []), none, some (.aload_n 0, 1, []), some (.getfield 28, 3, [3, 0, 3]), none, none, some (.imul, 1, []), some (.iadd, 1, []), some (.ireturn, 1, [])]
/-- TwoWayGrammar$Grammar.drop()V -/
def sb_15 : List (Option sm_I) := [some (.aload_n 0, 1, []), some (.iconst 0, 1, []), some (.putfield 57, 3, [0, 0, 0, 2]), none, none, some (.aload_n 0, 1, []), some (.iconst 0, 1, []), some (.putfield 61, 3, [5, 0, 0, 2]), none, none, some (.aload_n 0, 1, []), some (.iconst 0, 1, []), some (.putfield 64, 3, [6, 0, 0, 2]), none, none, some (.aload_n 0, 1, []), some (.iconst 0, 1, []), some (.putfield 67, 3, [10, 0, 0, 2]), none, none, some (.aload_n 0, 1, []), some (.iconst 0, 1, []), some (.putfield 70, 3, [18, 0, 0, 2]), none, none, some (.iconst 0, 1, []), some (.istore_n 1, 1, []), some (.iload_n 1, 1, []), some (.bipush 70, 2, []), none, some (.if_icmp .ge 27, 3, []), none, none, some (.aload_n 0, 1, []), some (.getfield 18, 3, [3, 0, 2]), none, none, some (.iload_n 1, 1, []), some (.iconst (-1), 1, []), some (.invokestatic 73, 3, [0, 16, 3]), none, none, some (.aload_n 0, 1, []), some (.getfield 21, 3, [4, 0, 2]), none, none, some (.iload_n 1, 1, []), some (.iconst 0, 1, []), some (.invokestatic 73, 3, [0, 16, 3]), none, none, some (.iinc 1 1, 3, []), none, none, some (.goto (-27), 3, []), none, none, some (.return_, 1, [])]
/-- TwoWayGrammar.put([III)V -/
def sb_16 : List (Option sm_I) := [some (.iload_n 1, 1, []), some (.ifCond .lt 13, 3, []), none, none, some (.iload_n 1, 1, []), some (.aload_n 0, 1, []), some (.arraylength, 1, []), some (.if_icmp .ge 7, 3, []), none, none, some (.aload_n 0, 1, []), some (.iload_n 1, 1, []), some (.iload_n 2, 1, []), some (.iastore, 1, []), some (.return_, 1, [])]
/-- TwoWayGrammar$Tokens.rewind()V -/
def sb_17 : List (Option sm_I) := [some (.aload_n 0, 1, []), some (.iconst 0, 1, []), some (.putfield 15, 3, [1, 0, 0, 4]), none, none, some (.aload_n 0, 1, []), some (.invokevirtual 19, 3, [0, 0, 4, 18]), none, none, some (.return_, 1, [])]
/-- TwoWayGrammar$Tokens.advance()V -/
def sb_18 : List (Option sm_I) := [some (.aload_n 0, 1, []), some (.aload_n 0, 1, []), some (.getfield 9, 3, [0, 0, 4]), none, none, some (.aload_n 0, 1, []), some (.getfield 15, 3, [1, 0, 4]), none, none, some (.invokevirtual 22, 3, [0, 1, 1, 19]), none, none, some (.putfield 28, 3, [2, 0, 0, 4]), none, none, some (.aload_n 0, 1, []), some (.aload_n 0, 1, []), some (.getfield 28, 3, [2, 0, 4]), none, none, some (.putfield 15, 3, [1, 0, 0, 4]), none, none, some (.aload_n 0, 1, []), some (.iconst 0, 1, []), some (.putfield 31, 3, [4, 0, 0, 4]), none, none, some (.aload_n 0, 1, []), some (.getfield 9, 3, [0, 0, 4]), none, none, some (.aload_n 0, 1, []), some (.getfield 28, 3, [2, 0, 4]), none, none, some (.invokevirtual 34, 3, [0, 1, 1, 20]), none, none, some (.istore_n 1, 1, []), some (.aload_n 0, 1, []), some (.getfield 28, 3, [2, 0, 4]), none, none, some (.aload_n 0, 1, []), some (.getfield 9, 3, [0, 0, 4]), none, none, some (.invokevirtual 38, 3, [0, 0, 1, 22]), none, none, some (.if_icmp .lt 11, 3, []), none, none, some (.aload_n 0, 1, []), some (.iconst 0, 1, []), some (.putfield 42, 3, [3, 0, 0, 4]), none, none, some (.goto 48, 3, []), none, none, some (.iload_n 1, 1, []), some (.invokestatic 45, 3, [0, 23, 1]), none, none, some (.ifCond .eq 10, 3, []), none, none, some (.aload_n 0, 1, []), some (.invokevirtual 49, 3, [0, 0, 4, 24]), none, none, some (.goto 34, 3, []), none, none, some (.iload_n 1, 1, []), some (.bipush 34, 2, []), none, some (.if_icmp .ne 10, 3, []), none, none, some (.aload_n 0, 1, []), some (.invokevirtual 52, 3, [0, 0, 4, 33]), none, none, some (.goto 21, 3, []), none, none, some (.iload_n 1, 1, []), some (.bipush 39, 2, []), none, some (.if_icmp .ne 10, 3, []), none, none, some (.aload_n 0, 1, []), some (.invokevirtual 55, 3, [0, 0, 4, 35]), none, none, some (.goto 8, 3, []), none, none, some (.aload_n 0, 1, []), some (.iload_n 1, 1, []), some (.invokevirtual 58, 3, [0, 1, 4, 39]), none, none, some (.return_, 1, [])]
/-- TwoWayGrammar$Text.behindBlanks(I)I -/
def sb_19 : List (Option sm_I) := [some (.iload_n 1, 1, []), some (.istore_n 2, 1, []), some (.iload_n 2, 1, []), some (.aload_n 0, 1, []), some (.getfield 19, 3, [1, 0, 1]), none, none, some (.if_icmp .ge 20, 3, []), none, none, some (.aload_n 0, 1, []), some (.iload_n 2, 1, []), some (.invokevirtual 40, 3, [0, 1, 1, 20]), none, none, some (.invokestatic 43, 3, [0, 21, 1]), none, none, some (.ifCond .eq 9, 3, []), none, none, some (.iinc 2 1, 3, []), none, none, some (.goto (-22), 3, []), none, none, some (.iload_n 2, 1, []), some (.ireturn, 1, [])]
/-- TwoWayGrammar$Text.at(I)C -/
def sb_20 : List (Option sm_I) := [some (.iload_n 1, 1, []), some (.ifCond .lt 29, 3, []), none, none, some (.iload_n 1, 1, []), some (.aload_n 0, 1, []), some (.getfield 19, 3, [1, 0, 1]), none, none, some (.if_icmp .ge 21, 3, []), none, none, some (.iload_n 1, 1, []), some (.aload_n 0, 1, []), some (.getfield 13, 3, [0, 0, 1]), none, none, some (.arraylength, 1, []), some (.if_icmp .ge 12, 3, []), none, none, some (.aload_n 0, 1, []), some (.getfield 13, 3, [0, 0, 1]), none, none, some (.iload_n 1, 1, []), some (.caload, 1, []), some (.goto 5, 3, []), none, none, some (.bipush 32, 2, []), none, some (.ireturn, 1, [])]
/-- TwoWayGrammar.isBlank(I)Z -/
def sb_21 : List (Option sm_I) := [some (.iload_n 0, 1, []), some (.bipush 32, 2, []), none, some (.if_icmp .eq 9, 3, []), none, none, some (.iload_n 0, 1, []), some (.bipush 10, 2, []), none, some (.if_icmp .ne 7, 3, []), none, none, some (.iconst 1, 1, []), some (.goto 4, 3, []), none, none, some (.iconst 0, 1, []), some (.ireturn, 1, [])]
/-- TwoWayGrammar$Text.length()I -/
def sb_22 : List (Option sm_I) := [some (.aload_n 0, 1, []), some (.getfield 19, 3, [1, 0, 1]), none, none, some (.ireturn, 1, [])]
/-- TwoWayGrammar.isSmall(I)Z -/
def sb_23 : List (Option sm_I) := [some (.iload_n 0, 1, []), some (.bipush 97, 2, []), none, some (.if_icmp .lt 13, 3, []), none, none, some (.iload_n 0, 1, []), some (.bipush 122, 2, []), none, some (.if_icmp .gt 7, 3, []), none, none, some (.iconst 1, 1, []), some (.goto 4, 3, []), none, none, some (.iconst 0, 1, []), some (.ireturn, 1, [])]
/-- TwoWayGrammar$Tokens.takeWord()V -/
def sb_24 : List (Option sm_I) := [some (.aload_n 0, 1, []), some (.aload_n 0, 1, []), some (.getfield 9, 3, [0, 0, 4]), none, none, some (.aload_n 0, 1, []), some (.getfield 28, 3, [2, 0, 4]), none, none, some (.invokevirtual 62, 3, [0, 1, 1, 25]), none, none, some (.putfield 15, 3, [1, 0, 0, 4]), none, none, some (.aload_n 0, 1, []), some (.getfield 9, 3, [0, 0, 4]), none, none, some (.ldc 65, 2, [1, 1]), none, some (.aload_n 0, 1, []), some (.getfield 28, 3, [2, 0, 4]), none, none, some (.aload_n 0, 1, []), some (.getfield 15, 3, [1, 0, 4]), none, none, some (.invokevirtual 67, 3, [0, 3, 1, 26]), none, none, some (.ifCond .eq 11, 3, []), none, none, some (.aload_n 0, 1, []), some (.iconst 1, 1, []), some (.putfield 42, 3, [3, 0, 0, 4]), none, none, some (.goto 179, 3, []), none, none, some (.aload_n 0, 1, []), some (.getfield 9, 3, [0, 0, 4]), none, none, some (.ldc 71, 2, [1, 2]), none, some (.aload_n 0, 1, []), some (.getfield 28, 3, [2, 0, 4]), none, none, some (.aload_n 0, 1, []), some (.getfield 15, 3, [1, 0, 4]), none, none, some (.invokevirtual 67, 3, [0, 3, 1, 26]), none, none, some (.ifCond .eq 11, 3, []), none, none, some (.aload_n 0, 1, []), some (.iconst 2, 1, []), some (.putfield 42, 3, [3, 0, 0, 4]), none, none, some (.goto 151, 3, []), none, none, some (.aload_n 0, 1, []), some (.getfield 9, 3, [0, 0, 4]), none, none, some (.ldc 73, 2, [1, 3]), none, some (.aload_n 0, 1, []), some (.getfield 28, 3, [2, 0, 4]), none, none, some (.aload_n 0, 1, []), some (.getfield 15, 3, [1, 0, 4]), none, none, some (.invokevirtual 67, 3, [0, 3, 1, 26]), none, none, some (.ifCond .eq 11, 3, []), none, none, some (.aload_n 0, 1, []), some (.iconst 3, 1, []), some (.putfield 42, 3, [3, 0, 0, 4]), none, none, some (.goto 123, 3, []), none, none, some (.aload_n 0, 1, []), some (.getfield 9, 3, [0, 0, 4]), none, none, some (.ldc 75, 2, [1, 4]), none, some (.aload_n 0, 1, []), some (.getfield 28, 3, [2, 0, 4]), none, none, some (.aload_n 0, 1, []), some (.getfield 15, 3, [1, 0, 4]), none, none, some (.invokevirtual 67, 3, [0, 3, 1, 26]), none, none, some (.ifCond .eq 11, 3, []), none, none, some (.aload_n 0, 1, []), some (.iconst 4, 1, []), some (.putfield 42, 3, [3, 0, 0, 4]), none, none, some (.goto 95, 3, []), none, none, some (.aload_n 0, 1, []), some (.getfield 9, 3, [0, 0, 4]), none, none, some (.ldc 77, 2, [1, 5]), none, some (.aload_n 0, 1, []), some (.getfield 28, 3, [2, 0, 4]), none, none, some (.aload_n 0, 1, []), some (.getfield 15, 3, [1, 0, 4]), none, none, some (.invokevirtual 67, 3, [0, 3, 1, 26]), none, none, some (.ifCond .eq 11, 3, []), none, none, some (.aload_n 0, 1, []), some (.iconst 5, 1, []), some (.putfield 42, 3, [3, 0, 0, 4]), none, none, some (.goto 67, 3, []), none, none, some (.aload_n 0, 1, []), some (.getfield 9, 3, [0, 0, 4]), none, none, some (.ldc 79, 2, [1, 6]), none, some (.aload_n 0, 1, []), some (.getfield 28, 3, [2, 0, 4]), none, none, some (.aload_n 0, 1, []), some (.getfield 15, 3, [1, 0, 4]), none, none, some (.invokevirtual 67, 3, [0, 3, 1, 26]), none, none, some (.ifCond .eq 12, 3, []), none, none, some (.aload_n 0, 1, []), some (.bipush 6, 2, []), none, some (.putfield 42, 3, [3, 0, 0, 4]), none, none, some (.goto 38, 3, []), none, none, some (.aload_n 0, 1, []), some (.getfield 9, 3, [0, 0, 4]), none, none, some (.ldc 81, 2, [1, 7]), none, some (.aload_n 0, 1, []), some (.getfield 28, 3, [2, 0, 4]), none, none, some (.aload_n 0, 1, []), some (.getfield 15, 3, [1, 0, 4]), none, none, some (.invokevirtual 67, 3, [0, 3, 1, 26]), none, none, some (.ifCond .eq 12, 3, []), none, none, some (.aload_n 0, 1, []), some (.bipush 7, 2, []), none, some (.putfield 42, 3, [3, 0, 0, 4]), none, none, some (.goto 9, 3, []), none, none, some (.aload_n 0, 1, []), some (.bipush 12, 2, []), none, some (.putfield 42, 3, [3, 0, 0, 4]), none, none, some (.return_, 1, [])]
/-- TwoWayGrammar$Text.behindLetters(I)I -/
def sb_25 : List (Option sm_I) := [some (.iload_n 1, 1, []), some (.istore_n 2, 1, []), some (.iload_n 2, 1, []), some (.aload_n 0, 1, []), some (.getfield 19, 3, [1, 0, 1]), none, none, some (.if_icmp .ge 20, 3, []), none, none, some (.aload_n 0, 1, []), some (.iload_n 2, 1, []), some (.invokevirtual 40, 3, [0, 1, 1, 20]), none, none, some (.invokestatic 49, 3, [0, 23, 1]), none, none, some (.ifCond .eq 9, 3, []), none, none, some (.iinc 2 1, 3, []), none, none, some (.goto (-22), 3, []), none, none, some (.iload_n 2, 1, []), some (.ireturn, 1, [])]
/-- TwoWayGrammar$Text.has(Ljava/lang/String;II)Z -/
def sb_26 : List (Option sm_I) := [some (.iload_n 3, 1, []), some (.iload_n 2, 1, []), some (.isub, 1, []), some (.aload_n 1, 1, []), some (.invokevirtual 23, 3, [0, 0, 17, 27]), none, none, some (.if_icmp .ne 7, 3, []), none, none, some (.iconst 1, 1, []), some (.goto 4, 3, []), none, none, some (.iconst 0, 1, []), some (.istore 4, 2, []), none, some (.iconst 0, 1, []), some (.istore 5, 2, []), none, some (.iload 4, 2, []), none, some (.ifCond .eq 42, 3, []), none, none, some (.iload 5, 2, []), none, some (.aload_n 1, 1, []), some (.invokevirtual 23, 3, [0, 0, 17, 27]), none, none, some (.if_icmp .ge 33, 3, []), none, none, some (.aload_n 1, 1, []), some (.iload 5, 2, []), none, some (.invokevirtual 28, 3, [0, 1, 17, 29]), none, none, some (.aload_n 0, 1, []), some (.iload_n 2, 1, []), some (.iload 5, 2, []), none, some (.iadd, 1, []), some (.invokevirtual 40, 3, [0, 1, 1, 20]), none, none, some (.if_icmp .ne 7, 3, []), none, none, some (.iconst 1, 1, []), some (.goto 4, 3, []), none, none, some (.iconst 0, 1, []), some (.istore 4, 2, []), none, some (.iinc 5 1, 3, []), none, none, some (.goto (-41), 3, []), none, none, some (.iload 4, 2, []), none, some (.ireturn, 1, [])]
/-- java/lang/String.length()I -/
def sb_27 : List (Option sm_I) := [some (.aload_n 0, 1, []), some (.getfield 9, 3, [0, 1, 17]), none, none, some (.arraylength, 1, []), some (.aload_n 0, 1, []), some (.invokevirtual 335, 3, [0, 0, 17, 28]), none, none, some (.ishr, 1, []), some (.ireturn, 1, [])]
/-- java/lang/String.coder()B -/
def sb_28 : List (Option sm_I) := [some (.getstatic 38, 3, [1]), none, none, some (.ifCond .eq 10, 3, []), none, none, some (.aload_n 0, 1, []), some (.getfield 15, 3, [1, 1, 17]), none, none, some (.goto 4, 3, []), none, none, some (.iconst 1, 1, []), some (.ireturn, 1, [])]
/-- java/lang/String.charAt(I)C -/
def sb_29 : List (Option sm_I) := [some (.aload_n 0, 1, []), some (.invokevirtual 492, 3, [0, 0, 17, 30]), none, none, some (.ifCond .eq 12, 3, []), none, none, some (.aload_n 0, 1, []), some (.getfield 9, 3, [0, 1, 17]), none, none, some (.iload_n 1, 1, []), some (.invokestatic 495, 3, [0, 31, 2]), none, none, some (.ireturn, 1, []), some (.aload_n 0, 1, []), some (.getfield 9, 3, [0, 1, 17]), none, none, some (.iload_n 1, 1, []), none, none, none, some (.ireturn, 1, [])]
/-- java/lang/String.isLatin1()Z -/
def sb_30 : List (Option sm_I) := [some (.getstatic 38, 3, [1]), none, none, some (.ifCond .eq 14, 3, []), none, none, some (.aload_n 0, 1, []), some (.getfield 15, 3, [1, 1, 17]), none, none, some (.ifCond .ne 7, 3, []), none, none, some (.iconst 1, 1, []), some (.goto 4, 3, []), none, none, some (.iconst 0, 1, []), some (.ireturn, 1, [])]
/-- java/lang/StringLatin1.charAt([BI)C -/
def sb_31 : List (Option sm_I) := [some (.iload_n 1, 1, []), some (.aload_n 0, 1, []), some (.arraylength, 1, []), some (.invokestatic 9, 3, [0, 32, 2]), none, none, some (.aload_n 0, 1, []), some (.iload_n 1, 1, []), some (.baload, 1, []), some (.sipush 255, 3, []), none, none, some (.iand, 1, []), some (.i2c, 1, []), some (.ireturn, 1, [])]
/-- java/lang/String.checkIndex(II)V -/
def sb_32 : List (Option sm_I) := [some (.iload_n 0, 1, []), some (.iload_n 1, 1, []), none, none, none, none, none, none, some (.pop, 1, []), some (.return_, 1, [])]
/-- TwoWayGrammar$Tokens.takeKeyword()V -/
def sb_33 : List (Option sm_I) := [some (.aload_n 0, 1, []), some (.getfield 9, 3, [0, 0, 4]), none, none, some (.aload_n 0, 1, []), some (.getfield 28, 3, [2, 0, 4]), none, none, some (.iconst 1, 1, []), some (.iadd, 1, []), some (.invokevirtual 62, 3, [0, 1, 1, 25]), none, none, some (.istore_n 1, 1, []), some (.iload_n 1, 1, []), some (.aload_n 0, 1, []), some (.getfield 28, 3, [2, 0, 4]), none, none, some (.isub, 1, []), some (.iconst 1, 1, []), some (.isub, 1, []), some (.istore_n 2, 1, []), some (.iload_n 2, 1, []), some (.iconst 1, 1, []), some (.if_icmp .lt 21, 3, []), none, none, some (.iload_n 2, 1, []), some (.iconst 5, 1, []), some (.if_icmp .gt 16, 3, []), none, none, some (.aload_n 0, 1, []), some (.getfield 9, 3, [0, 0, 4]), none, none, some (.iload_n 1, 1, []), some (.invokevirtual 34, 3, [0, 1, 1, 20]), none, none, some (.bipush 34, 2, []), none, some (.if_icmp .eq 10, 3, []), none, none, some (.aload_n 0, 1, []), some (.bipush 12, 2, []), none, some (.putfield 42, 3, [3, 0, 0, 4]), none, none, some (.return_, 1, []), some (.aload_n 0, 1, []), some (.bipush 8, 2, []), none, some (.putfield 42, 3, [3, 0, 0, 4]), none, none, some (.aload_n 0, 1, []), some (.aload_n 0, 1, []), some (.getfield 9, 3, [0, 0, 4]), none, none, some (.aload_n 0, 1, []), some (.getfield 28, 3, [2, 0, 4]), none, none, some (.iconst 1, 1, []), some (.iadd, 1, []), some (.iload_n 1, 1, []), some (.invokevirtual 83, 3, [0, 2, 1, 34]), none, none, some (.putfield 31, 3, [4, 0, 0, 4]), none, none, some (.aload_n 0, 1, []), some (.iload_n 1, 1, []), some (.iconst 1, 1, []), some (.iadd, 1, []), some (.putfield 15, 3, [1, 0, 0, 4]), none, none, some (.return_, 1, [])]
/-- TwoWayGrammar$Text.letterCode(II)I -/
def sb_34 : List (Option sm_I) := [some (.iconst 0, 1, []), some (.istore_n 3, 1, []), some (.iload_n 2, 1, []), some (.iconst 1, 1, []), some (.isub, 1, []), some (.istore 4, 2, []), none, some (.iload 4, 2, []), none, some (.iload_n 1, 1, []), some (.if_icmp .lt 25, 3, []), none, none, some (.iload_n 3, 1, []), some (.iconst 5, 1, []), some (.ishl, 1, []), some (.aload_n 0, 1, []), some (.iload 4, 2, []), none, some (.invokevirtual 40, 3, [0, 1, 1, 20]), none, none, some (.bipush 97, 2, []), none, some (.isub, 1, []), some (.iconst 1, 1, []), some (.iadd, 1, []), some (.ior, 1, []), some (.istore_n 3, 1, []), some (.iinc 4 (-1), 3, []), none, none, some (.goto (-25), 3, []), none, none, some (.iload_n 3, 1, []), some (.ireturn, 1, [])]
/-- TwoWayGrammar$Tokens.takeSign()V -/
def sb_35 : List (Option sm_I) := [some (.aload_n 0, 1, []), some (.getfield 9, 3, [0, 0, 4]), none, none, some (.aload_n 0, 1, []), some (.getfield 28, 3, [2, 0, 4]), none, none, some (.iconst 1, 1, []), some (.iadd, 1, []), some (.invokevirtual 34, 3, [0, 1, 1, 20]), none, none, some (.istore_n 1, 1, []), some (.iload_n 1, 1, []), some (.invokestatic 87, 3, [0, 21, 1]), none, none, some (.ifCond .ne 24, 3, []), none, none, some (.iload_n 1, 1, []), some (.invokestatic 45, 3, [0, 23, 1]), none, none, some (.ifCond .ne 17, 3, []), none, none, some (.iload_n 1, 1, []), some (.invokestatic 90, 3, [0, 36, 1]), none, none, some (.ifCond .ne 10, 3, []), none, none, some (.iload_n 1, 1, []), some (.invokestatic 93, 3, [0, 37, 1]), none, none, some (.ifCond .eq 10, 3, []), none, none, some (.aload_n 0, 1, []), some (.bipush 12, 2, []), none, some (.putfield 42, 3, [3, 0, 0, 4]), none, none, some (.return_, 1, []), some (.aload_n 0, 1, []), some (.bipush 8, 2, []), none, some (.putfield 42, 3, [3, 0, 0, 4]), none, none, some (.aload_n 0, 1, []), some (.iload_n 1, 1, []), some (.invokestatic 96, 3, [0, 38, 1]), none, none, some (.putfield 31, 3, [4, 0, 0, 4]), none, none, some (.aload_n 0, 1, []), some (.aload_n 0, 1, []), some (.getfield 28, 3, [2, 0, 4]), none, none, some (.iconst 2, 1, []), some (.iadd, 1, []), some (.putfield 15, 3, [1, 0, 0, 4]), none, none, some (.return_, 1, [])]
/-- TwoWayGrammar.isCapital(I)Z -/
def sb_36 : List (Option sm_I) := [some (.iload_n 0, 1, []), some (.bipush 65, 2, []), none, some (.if_icmp .lt 13, 3, []), none, none, some (.iload_n 0, 1, []), some (.bipush 90, 2, []), none, some (.if_icmp .gt 7, 3, []), none, none, some (.iconst 1, 1, []), some (.goto 4, 3, []), none, none, some (.iconst 0, 1, []), some (.ireturn, 1, [])]
/-- TwoWayGrammar.isDigit(I)Z -/
def sb_37 : List (Option sm_I) := [some (.iload_n 0, 1, []), some (.bipush 48, 2, []), none, some (.if_icmp .lt 13, 3, []), none, none, some (.iload_n 0, 1, []), some (.bipush 57, 2, []), none, some (.if_icmp .gt 7, 3, []), none, none, some (.iconst 1, 1, []), some (.goto 4, 3, []), none, none, some (.iconst 0, 1, []), some (.ireturn, 1, [])]
/-- TwoWayGrammar.signCode(C)I -/
def sb_38 : List (Option sm_I) := [some (.iload_n 0, 1, []), some (.ineg, 1, []), some (.ireturn, 1, [])]
/-- TwoWayGrammar$Tokens.takeCharacter(C)V -/
def sb_39 : List (Option sm_I) := [some (.aload_n 0, 1, []), some (.aload_n 0, 1, []), some (.getfield 28, 3, [2, 0, 4]), none, none, some (.iconst 1, 1, []), some (.iadd, 1, []), some (.putfield 15, 3, [1, 0, 0, 4]), none, none, some (.iload_n 1, 1, []), some (.invokestatic 90, 3, [0, 36, 1]), none, none, some (.ifCond .eq 17, 3, []), none, none, some (.aload_n 0, 1, []), some (.bipush 9, 2, []), none, some (.putfield 42, 3, [3, 0, 0, 4]), none, none, some (.aload_n 0, 1, []), some (.iload_n 1, 1, []), some (.putfield 31, 3, [4, 0, 0, 4]), none, none, some (.goto 65, 3, []), none, none, some (.iload_n 1, 1, []), some (.invokestatic 93, 3, [0, 37, 1]), none, none, some (.ifCond .eq 20, 3, []), none, none, some (.aload_n 0, 1, []), some (.bipush 11, 2, []), none, some (.putfield 42, 3, [3, 0, 0, 4]), none, none, some (.aload_n 0, 1, []), some (.iload_n 1, 1, []), some (.bipush 48, 2, []), none, some (.isub, 1, []), some (.putfield 31, 3, [4, 0, 0, 4]), none, none, some (.goto 41, 3, []), none, none, some (.iload_n 1, 1, []), some (.bipush 40, 2, []), none, some (.if_icmp .ne 12, 3, []), none, none, some (.aload_n 0, 1, []), some (.bipush 10, 2, []), none, some (.putfield 42, 3, [3, 0, 0, 4]), none, none, some (.goto 26, 3, []), none, none, some (.ldc 100, 2, [1, 8]), none, some (.iload_n 1, 1, []), some (.invokevirtual 102, 3, [0, 1, 17, 40]), none, none, some (.ifCond .lt 11, 3, []), none, none, some (.aload_n 0, 1, []), some (.iload_n 1, 1, []), some (.putfield 42, 3, [3, 0, 0, 4]), none, none, some (.goto 9, 3, []), none, none, some (.aload_n 0, 1, []), some (.bipush 12, 2, []), none, some (.putfield 42, 3, [3, 0, 0, 4]), none, none, some (.return_, 1, [])]
/-- java/lang/String.indexOf(I)I -/
def sb_40 : List (Option sm_I) := [some (.aload_n 0, 1, []), some (.iload_n 1, 1, []), some (.iconst 0, 1, []), some (.invokevirtual 633, 3, [0, 2, 17, 41]), none, none, some (.ireturn, 1, [])]
/-- java/lang/String.indexOf(II)I -/
def sb_41 : List (Option sm_I) := [some (.aload_n 0, 1, []), some (.invokevirtual 492, 3, [0, 0, 17, 30]), none, none, some (.ifCond .eq 19, 3, []), none, none, some (.aload_n 0, 1, []), some (.getfield 9, 3, [0, 1, 17]), none, none, some (.iload_n 1, 1, []), some (.iload_n 2, 1, []), some (.aload_n 0, 1, []), some (.invokevirtual 505, 3, [0, 0, 17, 27]), none, none, some (.invokestatic 637, 3, [0, 42, 4]), none, none, some (.goto 16, 3, []), none, none, some (.aload_n 0, 1, []), some (.getfield 9, 3, [0, 1, 17]), none, none, some (.iload_n 1, 1, []), some (.iload_n 2, 1, []), some (.aload_n 0, 1, []), some (.invokevirtual 505, 3, [0, 0, 17, 27]), none, none, none, none, none, some (.ireturn, 1, [])]
/-- java/lang/StringLatin1.indexOf([BIII)I -/
def sb_42 : List (Option sm_I) := [some (.iload_n 1, 1, []), some (.invokestatic 88, 3, [0, 43, 1]), none, none, some (.ifCond .ne 5, 3, []), none, none, some (.iconst (-1), 1, []), some (.ireturn, 1, []), some (.iload_n 2, 1, []), some (.iconst 0, 1, []), some (.invokestatic 92, 3, [7, 0]), none, none, some (.istore_n 2, 1, []), some (.iload_n 3, 1, []), some (.aload_n 0, 1, []), some (.arraylength, 1, []), some (.invokestatic 38, 3, [7, 1]), none, none, some (.istore_n 3, 1, []), some (.iload_n 2, 1, []), some (.iload_n 3, 1, []), some (.if_icmp .lt 5, 3, []), none, none, some (.iconst (-1), 1, []), some (.ireturn, 1, []), some (.aload_n 0, 1, []), some (.iload_n 1, 1, []), some (.iload_n 2, 1, []), some (.iload_n 3, 1, []), some (.invokestatic 95, 3, [0, 44, 4]), none, none, some (.ireturn, 1, [])]
/-- java/lang/StringLatin1.canEncode(I)Z -/
def sb_43 : List (Option sm_I) := [some (.iload_n 0, 1, []), some (.ifCond .lt 14, 3, []), none, none, some (.iload_n 0, 1, []), some (.sipush 255, 3, []), none, none, some (.if_icmp .gt 7, 3, []), none, none, some (.iconst 1, 1, []), some (.goto 4, 3, []), none, none, some (.iconst 0, 1, []), some (.ireturn, 1, [])]
/-- java/lang/StringLatin1.indexOfChar([BIII)I -/
def sb_44 : List (Option sm_I) := [some (.iload_n 1, 1, []), some (.i2b, 1, []), some (.istore 4, 2, []), none, some (.iload_n 2, 1, []), some (.istore 5, 2, []), none, some (.iload 5, 2, []), none, some (.iload_n 3, 1, []), some (.if_icmp .ge 21, 3, []), none, none, some (.aload_n 0, 1, []), some (.iload 5, 2, []), none, some (.baload, 1, []), some (.iload 4, 2, []), none, some (.if_icmp .ne 6, 3, []), none, none, some (.iload 5, 2, []), none, some (.ireturn, 1, []), some (.iinc 5 1, 3, []), none, none, some (.goto (-21), 3, []), none, none, some (.iconst (-1), 1, []), some (.ireturn, 1, [])]
/-- java/lang/String.checkBoundsBeginEnd(III)V -/
def sb_45 : List (Option sm_I) := [some (.iload_n 0, 1, []), some (.iload_n 1, 1, []), some (.iload_n 2, 1, []), none, none, none, none, none, none, some (.pop, 1, []), some (.return_, 1, [])]
/-- TwoWayGrammar$Reader.beginRule()I -/
def sb_46 : List (Option sm_I) := [some (.aload_n 0, 1, []), some (.getfield 9, 3, [0, 0, 3]), none, none, some (.getfield 36, 3, [3, 0, 4]), none, none, some (.bipush 9, 2, []), none, some (.if_icmp .eq 18, 3, []), none, none, some (.aload_n 0, 1, []), some (.iconst 1, 1, []), some (.aload_n 0, 1, []), some (.getfield 9, 3, [0, 0, 3]), none, none, some (.getfield 54, 3, [2, 0, 4]), none, none, some (.invokevirtual 57, 3, [0, 2, 3, 47]), none, none, some (.goto 60, 3, []), none, none, some (.aload_n 0, 1, []), some (.getfield 15, 3, [1, 0, 3]), none, none, some (.aload_n 0, 1, []), some (.getfield 9, 3, [0, 0, 3]), none, none, some (.getfield 63, 3, [4, 0, 4]), none, none, some (.invokevirtual 66, 3, [0, 1, 2, 48]), none, none, some (.iconst (-1), 1, []), some (.if_icmp .eq 18, 3, []), none, none, some (.aload_n 0, 1, []), some (.iconst 2, 1, []), some (.aload_n 0, 1, []), some (.getfield 9, 3, [0, 0, 3]), none, none, some (.getfield 54, 3, [2, 0, 4]), none, none, some (.invokevirtual 57, 3, [0, 2, 3, 47]), none, none, some (.goto 27, 3, []), none, none, some (.aload_n 0, 1, []), some (.getfield 15, 3, [1, 0, 3]), none, none, some (.getfield 70, 3, [0, 0, 2]), none, none, some (.bipush 10, 2, []), none, some (.if_icmp .lt 15, 3, []), none, none, some (.aload_n 0, 1, []), some (.iconst 3, 1, []), some (.aload_n 0, 1, []), some (.getfield 9, 3, [0, 0, 3]), none, none, some (.getfield 54, 3, [2, 0, 4]), none, none, some (.invokevirtual 57, 3, [0, 2, 3, 47]), none, none, some (.aload_n 0, 1, []), some (.getfield 24, 3, [2, 0, 3]), none, none, some (.ifCond .eq 5, 3, []), none, none, some (.iconst (-1), 1, []), some (.ireturn, 1, []), some (.aload_n 0, 1, []), some (.getfield 15, 3, [1, 0, 3]), none, none, some (.aload_n 0, 1, []), some (.getfield 9, 3, [0, 0, 3]), none, none, some (.getfield 63, 3, [4, 0, 4]), none, none, some (.aload_n 0, 1, []), some (.getfield 9, 3, [0, 0, 3]), none, none, some (.getfield 54, 3, [2, 0, 4]), none, none, some (.invokevirtual 73, 3, [0, 2, 2, 50]), none, none, some (.istore_n 1, 1, []), some (.aload_n 0, 1, []), some (.getfield 9, 3, [0, 0, 3]), none, none, some (.invokevirtual 60, 3, [0, 0, 4, 18]), none, none, some (.iload_n 1, 1, []), some (.ireturn, 1, [])]
/-- TwoWayGrammar$Reader.blame(II)V -/
def sb_47 : List (Option sm_I) := [some (.aload_n 0, 1, []), some (.iload_n 1, 1, []), some (.putfield 24, 3, [2, 0, 0, 3]), none, none, some (.aload_n 0, 1, []), some (.iload_n 2, 1, []), some (.putfield 28, 3, [3, 0, 0, 3]), none, none, some (.return_, 1, [])]
/-- TwoWayGrammar$Grammar.ruleNamed(I)I -/
def sb_48 : List (Option sm_I) := [some (.iconst 0, 1, []), some (.istore_n 2, 1, []), some (.iload_n 2, 1, []), some (.aload_n 0, 1, []), some (.getfield 57, 3, [0, 0, 2]), none, none, some (.if_icmp .ge 23, 3, []), none, none, some (.aload_n 0, 1, []), some (.getfield 9, 3, [1, 0, 2]), none, none, some (.iload_n 2, 1, []), some (.invokestatic 77, 3, [0, 49, 2]), none, none, some (.iload_n 1, 1, []), some (.if_icmp .ne 5, 3, []), none, none, some (.iload_n 2, 1, []), some (.ireturn, 1, []), some (.iinc 2 1, 3, []), none, none, some (.goto (-25), 3, []), none, none, some (.iconst (-1), 1, []), some (.ireturn, 1, [])]
/-- TwoWayGrammar.at([II)I -/
def sb_49 : List (Option sm_I) := [some (.iload_n 1, 1, []), some (.ifCond .lt 15, 3, []), none, none, some (.iload_n 1, 1, []), some (.aload_n 0, 1, []), some (.arraylength, 1, []), some (.if_icmp .ge 9, 3, []), none, none, some (.aload_n 0, 1, []), some (.iload_n 1, 1, []), some (.iaload, 1, []), some (.goto 4, 3, []), none, none, some (.iconst 0, 1, []), some (.ireturn, 1, [])]
/-- TwoWayGrammar$Grammar.addRule(II)I -/
def sb_50 : List (Option sm_I) := [some (.aload_n 0, 1, []), some (.getfield 9, 3, [1, 0, 2]), none, none, some (.aload_n 0, 1, []), some (.getfield 57, 3, [0, 0, 2]), none, none, some (.iload_n 1, 1, []), some (.invokestatic 73, 3, [0, 16, 3]), none, none, some (.aload_n 0, 1, []), some (.getfield 15, 3, [2, 0, 2]), none, none, some (.aload_n 0, 1, []), some (.getfield 57, 3, [0, 0, 2]), none, none, some (.iload_n 2, 1, []), some (.invokestatic 73, 3, [0, 16, 3]), none, none, some (.aload_n 0, 1, []), some (.dup, 1, []), some (.getfield 57, 3, [0, 0, 2]), none, none, some (.iconst 1, 1, []), some (.iadd, 1, []), some (.putfield 57, 3, [0, 0, 0, 2]), none, none, some (.aload_n 0, 1, []), some (.getfield 57, 3, [0, 0, 2]), none, none, some (.iconst 1, 1, []), some (.isub, 1, []), some (.ireturn, 1, [])]
/-- TwoWayGrammar$Reader.expect(I)V -/
def sb_51 : List (Option sm_I) := [some (.aload_n 0, 1, []), some (.getfield 24, 3, [2, 0, 3]), none, none, some (.ifCond .eq 4, 3, []), none, none, some (.return_, 1, []), some (.aload_n 0, 1, []), some (.getfield 9, 3, [0, 0, 3]), none, none, some (.getfield 36, 3, [3, 0, 4]), none, none, some (.iload_n 1, 1, []), some (.if_icmp .eq 16, 3, []), none, none, some (.aload_n 0, 1, []), some (.iconst 1, 1, []), some (.aload_n 0, 1, []), some (.getfield 9, 3, [0, 0, 3]), none, none, some (.getfield 54, 3, [2, 0, 4]), none, none, some (.invokevirtual 57, 3, [0, 2, 3, 47]), none, none, some (.return_, 1, []), some (.aload_n 0, 1, []), some (.getfield 9, 3, [0, 0, 3]), none, none, some (.invokevirtual 60, 3, [0, 0, 4, 18]), none, none, some (.return_, 1, [])]
/-- TwoWayGrammar$Reader.readForm(II)V -/
def sb_52 : List (Option sm_I) := [some (.aload_n 0, 1, []), some (.getfield 24, 3, [2, 0, 3]), none, none, some (.ifCond .ne 12, 3, []), none, none, some (.iload_n 2, 1, []), some (.iconst 4, 1, []), some (.if_icmp .gt 7, 3, []), none, none, some (.iconst 1, 1, []), some (.goto 4, 3, []), none, none, some (.iconst 0, 1, []), some (.istore_n 3, 1, []), some (.aload_n 0, 1, []), some (.getfield 9, 3, [0, 0, 3]), none, none, some (.getfield 54, 3, [2, 0, 4]), none, none, some (.istore 4, 2, []), none, some (.iconst (-1), 1, []), some (.istore 5, 2, []), none, some (.iconst 1, 1, []), some (.istore 6, 2, []), none, some (.iload_n 3, 1, []), some (.ifCond .eq 103, 3, []), none, none, some (.iload 6, 2, []), none, some (.bipush 6, 2, []), none, some (.if_icmp .gt 96, 3, []), none, none, some (.aload_n 0, 1, []), some (.getfield 15, 3, [1, 0, 3]), none, none, some (.iload_n 1, 1, []), some (.iload 5, 2, []), none, some (.iload 4, 2, []), none, some (.invokevirtual 77, 3, [0, 3, 2, 53]), none, none, some (.istore 5, 2, []), none, some (.aload_n 0, 1, []), some (.iload 5, 2, []), none, some (.iload_n 2, 1, []), some (.invokevirtual 81, 3, [0, 2, 3, 54]), none, none, some (.aload_n 0, 1, []), some (.getfield 24, 3, [2, 0, 3]), none, none, some (.ifCond .ne 19, 3, []), none, none, some (.aload_n 0, 1, []), some (.getfield 9, 3, [0, 0, 3]), none, none, some (.getfield 36, 3, [3, 0, 4]), none, none, some (.bipush 124, 2, []), none, some (.if_icmp .ne 7, 3, []), none, none, some (.iconst 1, 1, []), some (.goto 4, 3, []), none, none, some (.iconst 0, 1, []), some (.istore_n 3, 1, []), some (.aload_n 0, 1, []), some (.getfield 9, 3, [0, 0, 3]), none, none, some (.getfield 54, 3, [2, 0, 4]), none, none, some (.istore 4, 2, []), none, some (.iload_n 3, 1, []), some (.ifCond .eq 20, 3, []), none, none, some (.iload 6, 2, []), none, some (.bipush 6, 2, []), none, some (.if_icmp .ne 13, 3, []), none, none, some (.aload_n 0, 1, []), some (.iconst 3, 1, []), some (.iload 4, 2, []), none, some (.invokevirtual 57, 3, [0, 2, 3, 47]), none, none, some (.goto 14, 3, []), none, none, some (.iload_n 3, 1, []), some (.ifCond .eq 10, 3, []), none, none, some (.aload_n 0, 1, []), some (.getfield 9, 3, [0, 0, 3]), none, none, some (.invokevirtual 60, 3, [0, 0, 4, 18]), none, none, some (.iinc 6 1, 3, []), none, none, some (.goto (-101), 3, []), none, none, some (.return_, 1, [])]
/-- TwoWayGrammar$Grammar.addAlternative(III)I -/
def sb_53 : List (Option sm_I) := [some (.aload_n 0, 1, []), some (.getfield 64, 3, [6, 0, 2]), none, none, some (.istore 4, 2, []), none, some (.aload_n 0, 1, []), some (.dup, 1, []), some (.getfield 64, 3, [6, 0, 2]), none, none, some (.iconst 1, 1, []), some (.iadd, 1, []), some (.putfield 64, 3, [6, 0, 0, 2]), none, none, some (.aload_n 0, 1, []), some (.getfield 24, 3, [7, 0, 2]), none, none, some (.iload 4, 2, []), none, some (.iconst (-1), 1, []), some (.invokestatic 73, 3, [0, 16, 3]), none, none, some (.aload_n 0, 1, []), some (.getfield 27, 3, [8, 0, 2]), none, none, some (.iload 4, 2, []), none, some (.iconst (-1), 1, []), some (.invokestatic 73, 3, [0, 16, 3]), none, none, some (.aload_n 0, 1, []), some (.getfield 30, 3, [9, 0, 2]), none, none, some (.iload 4, 2, []), none, some (.iload_n 3, 1, []), some (.invokestatic 73, 3, [0, 16, 3]), none, none, some (.aload_n 0, 1, []), some (.getfield 21, 3, [4, 0, 2]), none, none, some (.iload_n 1, 1, []), some (.aload_n 0, 1, []), some (.getfield 21, 3, [4, 0, 2]), none, none, some (.iload_n 1, 1, []), some (.invokestatic 77, 3, [0, 49, 2]), none, none, some (.iconst 1, 1, []), some (.iadd, 1, []), some (.invokestatic 73, 3, [0, 16, 3]), none, none, some (.iload_n 2, 1, []), some (.iconst (-1), 1, []), some (.if_icmp .ne 16, 3, []), none, none, some (.aload_n 0, 1, []), some (.getfield 18, 3, [3, 0, 2]), none, none, some (.iload_n 1, 1, []), some (.iload 4, 2, []), none, some (.invokestatic 73, 3, [0, 16, 3]), none, none, some (.goto 13, 3, []), none, none, some (.aload_n 0, 1, []), some (.getfield 27, 3, [8, 0, 2]), none, none, some (.iload_n 2, 1, []), some (.iload 4, 2, []), none, some (.invokestatic 73, 3, [0, 16, 3]), none, none, some (.iload 4, 2, []), none, some (.ireturn, 1, [])]
/-- TwoWayGrammar$Reader.readItems(II)V -/
def sb_54 : List (Option sm_I) := [some (.iconst 1, 1, []), some (.istore_n 3, 1, []), some (.iconst 0, 1, []), some (.istore 4, 2, []), none, some (.iconst (-1), 1, []), some (.istore 5, 2, []), none, some (.iconst 0, 1, []), some (.istore 6, 2, []), none, some (.iload_n 3, 1, []), some (.ifCond .eq 110, 3, []), none, none, some (.iload 6, 2, []), none, some (.bipush 60, 2, []), none, some (.if_icmp .gt 103, 3, []), none, none, some (.aload_n 0, 1, []), some (.iload_n 1, 1, []), some (.iload 5, 2, []), none, some (.iload_n 2, 1, []), some (.invokevirtual 84, 3, [0, 3, 3, 55]), none, none, some (.istore 5, 2, []), none, some (.iload 4, 2, []), none, some (.ifCond .ne 26, 3, []), none, none, some (.aload_n 0, 1, []), some (.getfield 24, 3, [2, 0, 3]), none, none, some (.ifCond .ne 19, 3, []), none, none, some (.aload_n 0, 1, []), some (.getfield 9, 3, [0, 0, 3]), none, none, some (.getfield 36, 3, [3, 0, 4]), none, none, some (.bipush 126, 2, []), none, some (.if_icmp .ne 7, 3, []), none, none, some (.iconst 1, 1, []), some (.goto 4, 3, []), none, none, some (.iconst 0, 1, []), some (.istore 4, 2, []), none, some (.iload 4, 2, []), none, some (.ifCond .eq 23, 3, []), none, none, some (.aload_n 0, 1, []), some (.getfield 15, 3, [1, 0, 3]), none, none, some (.getfield 87, 3, [17, 0, 2]), none, none, some (.iload 5, 2, []), none, some (.iconst 1, 1, []), some (.invokestatic 91, 3, [0, 16, 3]), none, none, some (.aload_n 0, 1, []), some (.getfield 9, 3, [0, 0, 3]), none, none, some (.invokevirtual 60, 3, [0, 0, 4, 18]), none, none, some (.aload_n 0, 1, []), some (.getfield 24, 3, [2, 0, 3]), none, none, some (.ifCond .ne 22, 3, []), none, none, some (.iload 4, 2, []), none, some (.ifCond .ne 13, 3, []), none, none, some (.aload_n 0, 1, []), some (.getfield 9, 3, [0, 0, 3]), none, none, some (.invokevirtual 95, 3, [0, 0, 4, 56]), none, none, some (.ifCond .eq 7, 3, []), none, none, some (.iconst 1, 1, []), some (.goto 4, 3, []), none, none, some (.iconst 0, 1, []), some (.istore_n 3, 1, []), some (.iinc 6 1, 3, []), none, none, some (.goto (-108), 3, []), none, none, some (.return_, 1, [])]
/-- TwoWayGrammar$Reader.readUnit(III)I -/
def sb_55 : List (Option sm_I) := [some (.aload_n 0, 1, []), some (.getfield 9, 3, [0, 0, 3]), none, none, some (.invokevirtual 95, 3, [0, 0, 4, 56]), none, none, some (.ifCond .ne 17, 3, []), none, none, some (.aload_n 0, 1, []), some (.iconst 1, 1, []), some (.aload_n 0, 1, []), some (.getfield 9, 3, [0, 0, 3]), none, none, some (.getfield 54, 3, [2, 0, 4]), none, none, some (.invokevirtual 57, 3, [0, 2, 3, 47]), none, none, some (.iconst (-1), 1, []), some (.ireturn, 1, []), some (.aload_n 0, 1, []), some (.iload_n 3, 1, []), some (.invokevirtual 99, 3, [0, 1, 3, 57]), none, none, some (.ifCond .eq 17, 3, []), none, none, some (.aload_n 0, 1, []), some (.iconst 3, 1, []), some (.aload_n 0, 1, []), some (.getfield 9, 3, [0, 0, 3]), none, none, some (.getfield 54, 3, [2, 0, 4]), none, none, some (.invokevirtual 57, 3, [0, 2, 3, 47]), none, none, some (.iconst (-1), 1, []), some (.ireturn, 1, []), some (.aload_n 0, 1, []), some (.iload_n 3, 1, []), some (.invokevirtual 103, 3, [0, 1, 3, 59]), none, none, some (.istore 4, 2, []), none, some (.aload_n 0, 1, []), some (.getfield 15, 3, [1, 0, 3]), none, none, some (.iload_n 1, 1, []), some (.iload_n 2, 1, []), some (.iload 4, 2, []), none, some (.invokevirtual 106, 3, [0, 3, 2, 63]), none, none, some (.aload_n 0, 1, []), some (.getfield 24, 3, [2, 0, 3]), none, none, some (.ifCond .ne 83, 3, []), none, none, some (.aload_n 0, 1, []), some (.getfield 9, 3, [0, 0, 3]), none, none, some (.getfield 36, 3, [3, 0, 4]), none, none, some (.bipush 42, 2, []), none, some (.if_icmp .eq 15, 3, []), none, none, some (.aload_n 0, 1, []), some (.getfield 9, 3, [0, 0, 3]), none, none, some (.getfield 36, 3, [3, 0, 4]), none, none, some (.bipush 63, 2, []), none, some (.if_icmp .ne 59, 3, []), none, none, some (.aload_n 0, 1, []), some (.getfield 15, 3, [1, 0, 3]), none, none, some (.getfield 110, 3, [15, 0, 2]), none, none, some (.iload 4, 2, []), none, some (.aload_n 0, 1, []), some (.getfield 9, 3, [0, 0, 3]), none, none, some (.getfield 36, 3, [3, 0, 4]), none, none, some (.bipush 42, 2, []), none, some (.if_icmp .ne 7, 3, []), none, none, some (.iconst 5, 1, []), some (.goto 5, 3, []), none, none, some (.bipush 6, 2, []), none, some (.invokestatic 91, 3, [0, 16, 3]), none, none, some (.aload_n 0, 1, []), some (.getfield 15, 3, [1, 0, 3]), none, none, some (.getfield 113, 3, [16, 0, 2]), none, none, some (.iload 4, 2, []), none, some (.aload_n 0, 1, []), some (.getfield 9, 3, [0, 0, 3]), none, none, some (.getfield 54, 3, [2, 0, 4]), none, none, some (.invokestatic 91, 3, [0, 16, 3]), none, none, some (.aload_n 0, 1, []), some (.getfield 9, 3, [0, 0, 3]), none, none, some (.invokevirtual 60, 3, [0, 0, 4, 18]), none, none, some (.iload 4, 2, []), none, some (.ireturn, 1, [])]
/-- TwoWayGrammar$Tokens.beginsPart()Z -/
def sb_56 : List (Option sm_I) := [some (.aload_n 0, 1, []), some (.getfield 42, 3, [3, 0, 4]), none, none, some (.iconst 1, 1, []), some (.if_icmp .lt 16, 3, []), none, none, some (.aload_n 0, 1, []), some (.getfield 42, 3, [3, 0, 4]), none, none, some (.bipush 10, 2, []), none, some (.if_icmp .gt 7, 3, []), none, none, some (.iconst 1, 1, []), some (.goto 4, 3, []), none, none, some (.iconst 0, 1, []), some (.ireturn, 1, [])]
/-- TwoWayGrammar$Reader.isOneTooMany(I)Z -/
def sb_57 : List (Option sm_I) := [some (.aload_n 0, 1, []), some (.getfield 9, 3, [0, 0, 3]), none, none, some (.getfield 36, 3, [3, 0, 4]), none, none, some (.bipush 8, 2, []), none, some (.if_icmp .ne 25, 3, []), none, none, some (.aload_n 0, 1, []), some (.getfield 15, 3, [1, 0, 3]), none, none, some (.aload_n 0, 1, []), some (.getfield 9, 3, [0, 0, 3]), none, none, some (.getfield 63, 3, [4, 0, 4]), none, none, some (.invokevirtual 116, 3, [0, 1, 2, 58]), none, none, some (.iconst (-1), 1, []), some (.if_icmp .ne 7, 3, []), none, none, some (.iconst 1, 1, []), some (.goto 4, 3, []), none, none, some (.iconst 0, 1, []), some (.istore_n 2, 1, []), some (.aload_n 0, 1, []), some (.getfield 15, 3, [1, 0, 3]), none, none, some (.getfield 119, 3, [10, 0, 2]), none, none, some (.bipush 60, 2, []), none, some (.if_icmp .ge 36, 3, []), none, none, some (.aload_n 0, 1, []), some (.getfield 9, 3, [0, 0, 3]), none, none, some (.getfield 36, 3, [3, 0, 4]), none, none, some (.bipush 10, 2, []), none, some (.if_icmp .ne 8, 3, []), none, none, some (.iload_n 1, 1, []), some (.iconst 4, 1, []), some (.if_icmp .ge 19, 3, []), none, none, some (.iload_n 2, 1, []), some (.ifCond .eq 19, 3, []), none, none, some (.aload_n 0, 1, []), some (.getfield 15, 3, [1, 0, 3]), none, none, some (.getfield 122, 3, [18, 0, 2]), none, none, some (.bipush 20, 2, []), none, some (.if_icmp .lt 7, 3, []), none, none, some (.iconst 1, 1, []), some (.goto 4, 3, []), none, none, some (.iconst 0, 1, []), some (.ireturn, 1, [])]
/-- TwoWayGrammar$Grammar.literal(I)I -/
def sb_58 : List (Option sm_I) := [some (.iconst 0, 1, []), some (.istore_n 2, 1, []), some (.iload_n 2, 1, []), some (.aload_n 0, 1, []), some (.getfield 70, 3, [18, 0, 2]), none, none, some (.if_icmp .ge 23, 3, []), none, none, some (.aload_n 0, 1, []), some (.getfield 54, 3, [19, 0, 2]), none, none, some (.iload_n 2, 1, []), some (.invokestatic 77, 3, [0, 49, 2]), none, none, some (.iload_n 1, 1, []), some (.if_icmp .ne 5, 3, []), none, none, some (.iload_n 2, 1, []), some (.ireturn, 1, []), some (.iinc 2 1, 3, []), none, none, some (.goto (-25), 3, []), none, none, some (.iconst (-1), 1, []), some (.ireturn, 1, [])]
/-- TwoWayGrammar$Reader.readPart(I)I -/
def sb_59 : List (Option sm_I) := [some (.aload_n 0, 1, []), some (.getfield 9, 3, [0, 0, 3]), none, none, some (.getfield 36, 3, [3, 0, 4]), none, none, some (.istore_n 2, 1, []), some (.aload_n 0, 1, []), some (.getfield 15, 3, [1, 0, 3]), none, none, some (.iload_n 2, 1, []), some (.aload_n 0, 1, []), some (.getfield 9, 3, [0, 0, 3]), none, none, some (.getfield 63, 3, [4, 0, 4]), none, none, some (.aload_n 0, 1, []), some (.getfield 9, 3, [0, 0, 3]), none, none, some (.getfield 54, 3, [2, 0, 4]), none, none, some (.invokevirtual 125, 3, [0, 3, 2, 60]), none, none, some (.istore_n 3, 1, []), some (.iload_n 2, 1, []), some (.bipush 8, 2, []), none, some (.if_icmp .ne 28, 3, []), none, none, some (.aload_n 0, 1, []), some (.getfield 15, 3, [1, 0, 3]), none, none, some (.getfield 128, 3, [12, 0, 2]), none, none, some (.iload_n 3, 1, []), some (.aload_n 0, 1, []), some (.getfield 15, 3, [1, 0, 3]), none, none, some (.aload_n 0, 1, []), some (.getfield 9, 3, [0, 0, 3]), none, none, some (.getfield 63, 3, [4, 0, 4]), none, none, some (.invokevirtual 131, 3, [0, 1, 2, 61]), none, none, some (.invokestatic 91, 3, [0, 16, 3]), none, none, some (.aload_n 0, 1, []), some (.getfield 9, 3, [0, 0, 3]), none, none, some (.invokevirtual 60, 3, [0, 0, 4, 18]), none, none, some (.iload_n 2, 1, []), some (.iconst 1, 1, []), some (.if_icmp .ne 49, 3, []), none, none, some (.aload_n 0, 1, []), some (.getfield 9, 3, [0, 0, 3]), none, none, some (.getfield 36, 3, [3, 0, 4]), none, none, some (.bipush 43, 2, []), none, some (.if_icmp .ne 37, 3, []), none, none, some (.aload_n 0, 1, []), some (.getfield 9, 3, [0, 0, 3]), none, none, some (.invokevirtual 60, 3, [0, 0, 4, 18]), none, none, some (.aload_n 0, 1, []), some (.getfield 15, 3, [1, 0, 3]), none, none, some (.getfield 128, 3, [12, 0, 2]), none, none, some (.iload_n 3, 1, []), some (.aload_n 0, 1, []), some (.getfield 9, 3, [0, 0, 3]), none, none, some (.getfield 63, 3, [4, 0, 4]), none, none, some (.invokestatic 91, 3, [0, 16, 3]), none, none, some (.aload_n 0, 1, []), some (.bipush 11, 2, []), none, some (.invokevirtual 43, 3, [0, 1, 3, 51]), none, none, some (.goto 46, 3, []), none, none, some (.iload_n 2, 1, []), some (.bipush 10, 2, []), none, some (.if_icmp .ne 40, 3, []), none, none, some (.aload_n 0, 1, []), some (.getfield 15, 3, [1, 0, 3]), none, none, some (.invokevirtual 134, 3, [0, 0, 2, 62]), none, none, some (.istore 4, 2, []), none, some (.aload_n 0, 1, []), some (.getfield 15, 3, [1, 0, 3]), none, none, some (.getfield 128, 3, [12, 0, 2]), none, none, some (.iload_n 3, 1, []), some (.iload 4, 2, []), none, some (.invokestatic 91, 3, [0, 16, 3]), none, none, some (.aload_n 0, 1, []), some (.iload 4, 2, []), none, some (.iload_n 1, 1, []), some (.iconst 1, 1, []), some (.iadd, 1, []), some (.invokevirtual 47, 3, [0, 2, 3, 52]), none, none, some (.aload_n 0, 1, []), some (.bipush 41, 2, []), none, some (.invokevirtual 43, 3, [0, 1, 3, 51]), none, none, some (.iload_n 3, 1, []), some (.ireturn, 1, [])]
/-- TwoWayGrammar$Grammar.addPart(III)I -/
def sb_60 : List (Option sm_I) := [some (.aload_n 0, 1, []), some (.getfield 67, 3, [10, 0, 2]), none, none, some (.istore 4, 2, []), none, some (.aload_n 0, 1, []), some (.dup, 1, []), some (.getfield 67, 3, [10, 0, 2]), none, none, some (.iconst 1, 1, []), some (.iadd, 1, []), some (.putfield 67, 3, [10, 0, 0, 2]), none, none, some (.aload_n 0, 1, []), some (.getfield 33, 3, [11, 0, 2]), none, none, some (.iload 4, 2, []), none, some (.iload_n 1, 1, []), some (.invokestatic 73, 3, [0, 16, 3]), none, none, some (.aload_n 0, 1, []), some (.getfield 36, 3, [12, 0, 2]), none, none, some (.iload 4, 2, []), none, some (.iload_n 2, 1, []), some (.invokestatic 73, 3, [0, 16, 3]), none, none, some (.aload_n 0, 1, []), some (.getfield 39, 3, [13, 0, 2]), none, none, some (.iload 4, 2, []), none, some (.iload_n 3, 1, []), some (.invokestatic 73, 3, [0, 16, 3]), none, none, some (.aload_n 0, 1, []), some (.getfield 42, 3, [14, 0, 2]), none, none, some (.iload 4, 2, []), none, some (.iconst (-1), 1, []), some (.invokestatic 73, 3, [0, 16, 3]), none, none, some (.aload_n 0, 1, []), some (.getfield 45, 3, [15, 0, 2]), none, none, some (.iload 4, 2, []), none, some (.iconst 0, 1, []), some (.invokestatic 73, 3, [0, 16, 3]), none, none, some (.aload_n 0, 1, []), some (.getfield 48, 3, [16, 0, 2]), none, none, some (.iload 4, 2, []), none, some (.iload_n 3, 1, []), some (.invokestatic 73, 3, [0, 16, 3]), none, none, some (.aload_n 0, 1, []), some (.getfield 51, 3, [17, 0, 2]), none, none, some (.iload 4, 2, []), none, some (.iconst 0, 1, []), some (.invokestatic 73, 3, [0, 16, 3]), none, none, some (.iload 4, 2, []), none, some (.ireturn, 1, [])]
/-- TwoWayGrammar$Grammar.addLiteral(I)I -/
def sb_61 : List (Option sm_I) := [some (.aload_n 0, 1, []), some (.iload_n 1, 1, []), some (.invokevirtual 81, 3, [0, 1, 2, 58]), none, none, some (.istore_n 2, 1, []), some (.iload_n 2, 1, []), some (.iconst (-1), 1, []), some (.if_icmp .eq 5, 3, []), none, none, some (.iload_n 2, 1, []), some (.ireturn, 1, []), some (.aload_n 0, 1, []), some (.getfield 54, 3, [19, 0, 2]), none, none, some (.aload_n 0, 1, []), some (.getfield 70, 3, [18, 0, 2]), none, none, some (.iload_n 1, 1, []), some (.invokestatic 73, 3, [0, 16, 3]), none, none, some (.aload_n 0, 1, []), some (.dup, 1, []), some (.getfield 70, 3, [18, 0, 2]), none, none, some (.iconst 1, 1, []), some (.iadd, 1, []), some (.putfield 70, 3, [18, 0, 0, 2]), none, none, some (.aload_n 0, 1, []), some (.getfield 70, 3, [18, 0, 2]), none, none, some (.iconst 1, 1, []), some (.isub, 1, []), some (.ireturn, 1, [])]
/-- TwoWayGrammar$Grammar.addGroup()I -/
def sb_62 : List (Option sm_I) := [some (.aload_n 0, 1, []), some (.dup, 1, []), some (.getfield 61, 3, [5, 0, 2]), none, none, some (.iconst 1, 1, []), some (.iadd, 1, []), some (.putfield 61, 3, [5, 0, 0, 2]), none, none, some (.bipush 10, 2, []), none, some (.aload_n 0, 1, []), some (.getfield 61, 3, [5, 0, 2]), none, none, some (.iadd, 1, []), some (.iconst 1, 1, []), some (.isub, 1, []), some (.ireturn, 1, [])]
/-- TwoWayGrammar$Grammar.attach(III)V -/
def sb_63 : List (Option sm_I) := [some (.iload_n 2, 1, []), some (.iconst (-1), 1, []), some (.if_icmp .ne 15, 3, []), none, none, some (.aload_n 0, 1, []), some (.getfield 24, 3, [7, 0, 2]), none, none, some (.iload_n 1, 1, []), some (.iload_n 3, 1, []), some (.invokestatic 73, 3, [0, 16, 3]), none, none, some (.goto 12, 3, []), none, none, some (.aload_n 0, 1, []), some (.getfield 42, 3, [14, 0, 2]), none, none, some (.iload_n 2, 1, []), some (.iload_n 3, 1, []), some (.invokestatic 73, 3, [0, 16, 3]), none, none, some (.return_, 1, [])]
/-- TwoWayGrammar$Reader.nameUses()V -/
def sb_64 : List (Option sm_I) := [some (.iconst 0, 1, []), some (.istore_n 1, 1, []), some (.iload_n 1, 1, []), some (.aload_n 0, 1, []), some (.getfield 15, 3, [1, 0, 3]), none, none, some (.getfield 119, 3, [10, 0, 2]), none, none, some (.if_icmp .ge 84, 3, []), none, none, some (.aload_n 0, 1, []), some (.getfield 24, 3, [2, 0, 3]), none, none, some (.ifCond .ne 77, 3, []), none, none, some (.aload_n 0, 1, []), some (.getfield 15, 3, [1, 0, 3]), none, none, some (.getfield 137, 3, [11, 0, 2]), none, none, some (.iload_n 1, 1, []), some (.invokestatic 140, 3, [0, 49, 2]), none, none, some (.bipush 9, 2, []), none, some (.if_icmp .ne 55, 3, []), none, none, some (.aload_n 0, 1, []), some (.getfield 15, 3, [1, 0, 3]), none, none, some (.aload_n 0, 1, []), some (.getfield 15, 3, [1, 0, 3]), none, none, some (.getfield 128, 3, [12, 0, 2]), none, none, some (.iload_n 1, 1, []), some (.invokestatic 140, 3, [0, 49, 2]), none, none, some (.invokevirtual 66, 3, [0, 1, 2, 48]), none, none, some (.istore_n 2, 1, []), some (.aload_n 0, 1, []), some (.getfield 15, 3, [1, 0, 3]), none, none, some (.getfield 128, 3, [12, 0, 2]), none, none, some (.iload_n 1, 1, []), some (.iload_n 2, 1, []), some (.invokestatic 91, 3, [0, 16, 3]), none, none, some (.iload_n 2, 1, []), some (.iconst (-1), 1, []), some (.if_icmp .ne 19, 3, []), none, none, some (.aload_n 0, 1, []), some (.iconst 4, 1, []), some (.aload_n 0, 1, []), some (.getfield 15, 3, [1, 0, 3]), none, none, some (.getfield 144, 3, [13, 0, 2]), none, none, some (.iload_n 1, 1, []), some (.invokestatic 140, 3, [0, 49, 2]), none, none, some (.invokevirtual 57, 3, [0, 2, 3, 47]), none, none, some (.iinc 1 1, 3, []), none, none, some (.goto (-89), 3, []), none, none, some (.return_, 1, [])]
/-- TwoWayGrammar$Sets.work()V -/
def sb_65 : List (Option sm_I) := [some (.iconst 0, 1, []), some (.istore_n 1, 1, []), some (.iload_n 1, 1, []), some (.bipush 70, 2, []), none, some (.if_icmp .ge 64, 3, []), none, none, some (.aload_n 0, 1, []), some (.getfield 9, 3, [1, 0, 5]), none, none, some (.iload_n 1, 1, []), some (.iconst 0, 1, []), some (.invokestatic 59, 3, [0, 16, 3]), none, none, some (.aload_n 0, 1, []), some (.getfield 15, 3, [2, 0, 5]), none, none, some (.iload_n 1, 1, []), some (.lconst 0, 1, []), some (.invokestatic 63, 3, [0, 66, 3]), none, none, some (.aload_n 0, 1, []), some (.getfield 19, 3, [3, 0, 5]), none, none, some (.iload_n 1, 1, []), some (.iload_n 1, 1, []), some (.ifCond .ne 7, 3, []), none, none, some (.lconst 1, 1, []), some (.goto 4, 3, []), none, none, some (.lconst 0, 1, []), some (.invokestatic 63, 3, [0, 66, 3]), none, none, some (.aload_n 0, 1, []), some (.getfield 22, 3, [4, 0, 5]), none, none, some (.iload_n 1, 1, []), some (.sipush 1000, 3, []), none, none, some (.invokestatic 59, 3, [0, 16, 3]), none, none, some (.aload_n 0, 1, []), some (.getfield 25, 3, [5, 0, 5]), none, none, some (.iload_n 1, 1, []), some (.iconst 0, 1, []), some (.invokestatic 59, 3, [0, 16, 3]), none, none, some (.iinc 1 1, 3, []), none, none, some (.goto (-64), 3, []), none, none, some (.aload_n 0, 1, []), some (.invokevirtual 66, 3, [0, 0, 5, 67]), none, none, some (.aload_n 0, 1, []), some (.invokevirtual 69, 3, [0, 0, 5, 76]), none, none, some (.aload_n 0, 1, []), some (.invokevirtual 72, 3, [0, 0, 5, 79]), none, none, some (.aload_n 0, 1, []), some (.invokevirtual 75, 3, [0, 0, 5, 80]), none, none, some (.return_, 1, [])]
/-- TwoWayGrammar.put([JIJ)V -/
def sb_66 : List (Option sm_I) := [some (.iload_n 1, 1, []), some (.ifCond .lt 13, 3, []), none, none, some (.iload_n 1, 1, []), some (.aload_n 0, 1, []), some (.arraylength, 1, []), some (.if_icmp .ge 7, 3, []), none, none, some (.aload_n 0, 1, []), some (.iload_n 1, 1, []), some (.lload_n 2, 1, []), some (.lastore, 1, []), some (.return_, 1, [])]
/-- TwoWayGrammar$Sets.spreadStarts()V -/
def sb_67 : List (Option sm_I) := [some (.aload_n 0, 1, []), some (.iconst 1, 1, []), some (.putfield 110, 3, [15, 3, 0, 5]), none, none, some (.iconst 0, 1, []), some (.istore_n 1, 1, []), some (.aload_n 0, 1, []), some (.getfield 110, 3, [15, 0, 5]), none, none, some (.ifCond .eq 38, 3, []), none, none, some (.iload_n 1, 1, []), some (.ldc 114, 2, [0, 100000]), none, some (.if_icmp .ge 32, 3, []), none, none, some (.aload_n 0, 1, []), some (.iconst 0, 1, []), some (.putfield 110, 3, [15, 3, 0, 5]), none, none, some (.bipush 69, 2, []), none, some (.istore_n 2, 1, []), some (.iload_n 2, 1, []), some (.ifCond .lt 14, 3, []), none, none, some (.aload_n 0, 1, []), some (.iload_n 2, 1, []), some (.invokevirtual 115, 3, [0, 1, 5, 68]), none, none, some (.iinc 2 (-1), 3, []), none, none, some (.goto (-12), 3, []), none, none, some (.iinc 1 1, 3, []), none, none, some (.goto (-39), 3, []), none, none, some (.return_, 1, [])]
/-- TwoWayGrammar$Sets.refreshForm(I)V -/
def sb_68 : List (Option sm_I) := [some (.iconst 0, 1, []), some (.istore_n 2, 1, []), some (.lconst 0, 1, []), some (.lstore_n 3, 1, []), some (.iconst 0, 1, []), some (.istore 5, 2, []), none, some (.sipush 1000, 3, []), none, none, some (.istore 6, 2, []), none, some (.aload_n 0, 1, []), some (.getfield 55, 3, [0, 0, 5]), none, none, some (.getfield 119, 3, [3, 0, 2]), none, none, some (.iload_n 1, 1, []), some (.invokestatic 78, 3, [0, 49, 2]), none, none, some (.istore 7, 2, []), none, some (.iconst 0, 1, []), some (.istore 8, 2, []), none, some (.iload 8, 2, []), none, some (.aload_n 0, 1, []), some (.getfield 55, 3, [0, 0, 5]), none, none, some (.getfield 122, 3, [4, 0, 2]), none, none, some (.iload_n 1, 1, []), some (.invokestatic 78, 3, [0, 49, 2]), none, none, some (.if_icmp .ge 90, 3, []), none, none, some (.iload 8, 2, []), none, some (.bipush 6, 2, []), none, some (.if_icmp .ge 83, 3, []), none, none, some (.aload_n 0, 1, []), some (.iload 7, 2, []), none, some (.invokevirtual 125, 3, [0, 1, 5, 69]), none, none, some (.iload_n 2, 1, []), some (.aload_n 0, 1, []), some (.getfield 28, 3, [6, 0, 5]), none, none, some (.iload 7, 2, []), none, some (.invokestatic 78, 3, [0, 49, 2]), none, none, some (.ior, 1, []), some (.istore_n 2, 1, []), some (.lload_n 3, 1, []), some (.aload_n 0, 1, []), some (.getfield 31, 3, [7, 0, 5]), none, none, some (.iload 7, 2, []), none, some (.invokestatic 88, 3, [0, 72, 2]), none, none, some (.lor, 1, []), some (.lstore_n 3, 1, []), some (.iload 5, 2, []), none, some (.aload_n 0, 1, []), some (.getfield 34, 3, [8, 0, 5]), none, none, some (.iload 7, 2, []), none, some (.invokestatic 78, 3, [0, 49, 2]), none, none, some (.ior, 1, []), some (.istore 5, 2, []), none, some (.iload 6, 2, []), none, some (.aload_n 0, 1, []), some (.getfield 37, 3, [9, 0, 5]), none, none, some (.iload 7, 2, []), none, some (.invokestatic 78, 3, [0, 49, 2]), none, none, some (.invokestatic 104, 3, [7, 1]), none, none, some (.istore 6, 2, []), none, some (.aload_n 0, 1, []), some (.getfield 55, 3, [0, 0, 5]), none, none, some (.getfield 128, 3, [8, 0, 2]), none, none, some (.iload 7, 2, []), none, some (.invokestatic 78, 3, [0, 49, 2]), none, none, some (.istore 7, 2, []), none, some (.iinc 8 1, 3, []), none, none, some (.goto (-100), 3, []), none, none, some (.aload_n 0, 1, []), some (.aload_n 0, 1, []), some (.getfield 110, 3, [15, 0, 5]), none, none, some (.ifCond .ne 54, 3, []), none, none, some (.iload_n 2, 1, []), some (.aload_n 0, 1, []), some (.getfield 9, 3, [1, 0, 5]), none, none, some (.iload_n 1, 1, []), some (.invokestatic 78, 3, [0, 49, 2]), none, none, some (.if_icmp .ne 42, 3, []), none, none, some (.lload_n 3, 1, []), some (.aload_n 0, 1, []), some (.getfield 15, 3, [2, 0, 5]), none, none, some (.iload_n 1, 1, []), some (.invokestatic 88, 3, [0, 72, 2]), none, none, some (.lcmp, 1, []), some (.ifCond .ne 29, 3, []), none, none, some (.iload 5, 2, []), none, some (.aload_n 0, 1, []), some (.getfield 25, 3, [5, 0, 5]), none, none, some (.iload_n 1, 1, []), some (.invokestatic 78, 3, [0, 49, 2]), none, none, some (.if_icmp .ne 16, 3, []), none, none, some (.iload 6, 2, []), none, some (.aload_n 0, 1, []), some (.getfield 22, 3, [4, 0, 5]), none, none, some (.iload_n 1, 1, []), some (.invokestatic 78, 3, [0, 49, 2]), none, none, some (.if_icmp .eq 7, 3, []), none, none, some (.iconst 1, 1, []), some (.goto 4, 3, []), none, none, some (.iconst 0, 1, []), some (.putfield 110, 3, [15, 3, 0, 5]), none, none, some (.aload_n 0, 1, []), some (.getfield 9, 3, [1, 0, 5]), none, none, some (.iload_n 1, 1, []), some (.iload_n 2, 1, []), some (.invokestatic 59, 3, [0, 16, 3]), none, none, some (.aload_n 0, 1, []), some (.getfield 15, 3, [2, 0, 5]), none, none, some (.iload_n 1, 1, []), some (.lload_n 3, 1, []), some (.invokestatic 63, 3, [0, 66, 3]), none, none, some (.aload_n 0, 1, []), some (.getfield 25, 3, [5, 0, 5]), none, none, some (.iload_n 1, 1, []), some (.iload 5, 2, []), none, some (.invokestatic 59, 3, [0, 16, 3]), none, none, some (.aload_n 0, 1, []), some (.getfield 22, 3, [4, 0, 5]), none, none, some (.iload_n 1, 1, []), some (.iload 6, 2, []), none, some (.invokestatic 59, 3, [0, 16, 3]), none, none, some (.return_, 1, [])]
end
section
/-- TwoWayGrammar$Sets.refreshAlternative(I)V -/
def sb_69 : List (Option sm_I) := [some (.iconst 1, 1, []), some (.istore_n 2, 1, []), some (.lconst 0, 1, []), some (.lstore_n 3, 1, []), some (.iconst 0, 1, []), some (.istore 5, 2, []), none, some (.iconst 0, 1, []), some (.istore 6, 2, []), none, some (.aload_n 0, 1, []), some (.getfield 55, 3, [0, 0, 5]), none, none, some (.getfield 131, 3, [7, 0, 2]), none, none, some (.iload_n 1, 1, []), some (.invokestatic 78, 3, [0, 49, 2]), none, none, some (.istore 7, 2, []), none, some (.iconst 0, 1, []), some (.istore 8, 2, []), none, some (.iload 7, 2, []), none, some (.iconst (-1), 1, []), some (.if_icmp .eq 95, 3, []), none, none, some (.iload 8, 2, []), none, some (.bipush 60, 2, []), none, some (.if_icmp .ge 88, 3, []), none, none, some (.aload_n 0, 1, []), some (.iload 7, 2, []), none, some (.invokevirtual 134, 3, [0, 1, 5, 70]), none, none, some (.iload_n 2, 1, []), some (.ifCond .eq 26, 3, []), none, none, some (.lload_n 3, 1, []), some (.aload_n 0, 1, []), some (.getfield 46, 3, [12, 0, 5]), none, none, some (.iload 7, 2, []), none, some (.invokestatic 88, 3, [0, 72, 2]), none, none, some (.lor, 1, []), some (.lstore_n 3, 1, []), some (.iload 5, 2, []), none, some (.aload_n 0, 1, []), some (.iload 7, 2, []), none, some (.invokevirtual 137, 3, [0, 1, 5, 73]), none, none, some (.ior, 1, []), some (.istore 5, 2, []), none, some (.iload_n 2, 1, []), some (.ifCond .eq 16, 3, []), none, none, some (.aload_n 0, 1, []), some (.iload 7, 2, []), none, some (.invokevirtual 140, 3, [0, 1, 5, 74]), none, none, some (.ifCond .eq 7, 3, []), none, none, some (.iconst 1, 1, []), some (.goto 4, 3, []), none, none, some (.iconst 0, 1, []), some (.istore_n 2, 1, []), some (.iload 6, 2, []), none, some (.aload_n 0, 1, []), some (.iload 7, 2, []), none, some (.invokevirtual 144, 3, [0, 1, 5, 75]), none, none, some (.invokestatic 147, 3, [7, 0]), none, none, some (.istore 6, 2, []), none, some (.aload_n 0, 1, []), some (.getfield 55, 3, [0, 0, 5]), none, none, some (.getfield 150, 3, [14, 0, 2]), none, none, some (.iload 7, 2, []), none, some (.invokestatic 78, 3, [0, 49, 2]), none, none, some (.istore 7, 2, []), none, some (.iinc 8 1, 3, []), none, none, some (.goto (-95), 3, []), none, none, some (.aload_n 0, 1, []), some (.getfield 28, 3, [6, 0, 5]), none, none, some (.iload_n 1, 1, []), some (.iload_n 2, 1, []), some (.ifCond .eq 7, 3, []), none, none, some (.iconst 1, 1, []), some (.goto 4, 3, []), none, none, some (.iconst 0, 1, []), some (.invokestatic 59, 3, [0, 16, 3]), none, none, some (.aload_n 0, 1, []), some (.getfield 31, 3, [7, 0, 5]), none, none, some (.iload_n 1, 1, []), some (.lload_n 3, 1, []), some (.invokestatic 63, 3, [0, 66, 3]), none, none, some (.aload_n 0, 1, []), some (.getfield 34, 3, [8, 0, 5]), none, none, some (.iload_n 1, 1, []), some (.iload 5, 2, []), none, some (.invokestatic 59, 3, [0, 16, 3]), none, none, some (.aload_n 0, 1, []), some (.getfield 37, 3, [9, 0, 5]), none, none, some (.iload_n 1, 1, []), some (.iload 6, 2, []), none, some (.invokestatic 59, 3, [0, 16, 3]), none, none, some (.return_, 1, [])]
/-- TwoWayGrammar$Sets.refreshPart(I)V -/
def sb_70 : List (Option sm_I) := [some (.aload_n 0, 1, []), some (.getfield 55, 3, [0, 0, 5]), none, none, some (.iload_n 1, 1, []), some (.invokevirtual 82, 3, [0, 1, 2, 71]), none, none, some (.istore_n 2, 1, []), some (.iload_n 2, 1, []), some (.iconst (-1), 1, []), some (.if_icmp .eq 36, 3, []), none, none, some (.aload_n 0, 1, []), some (.getfield 43, 3, [11, 0, 5]), none, none, some (.iload_n 1, 1, []), some (.aload_n 0, 1, []), some (.getfield 9, 3, [1, 0, 5]), none, none, some (.iload_n 2, 1, []), some (.invokestatic 78, 3, [0, 49, 2]), none, none, some (.invokestatic 59, 3, [0, 16, 3]), none, none, some (.aload_n 0, 1, []), some (.getfield 46, 3, [12, 0, 5]), none, none, some (.iload_n 1, 1, []), some (.aload_n 0, 1, []), some (.getfield 15, 3, [2, 0, 5]), none, none, some (.iload_n 2, 1, []), some (.invokestatic 88, 3, [0, 72, 2]), none, none, some (.invokestatic 63, 3, [0, 66, 3]), none, none, some (.return_, 1, []), some (.aload_n 0, 1, []), some (.getfield 55, 3, [0, 0, 5]), none, none, some (.getfield 91, 3, [11, 0, 2]), none, none, some (.iload_n 1, 1, []), some (.invokestatic 78, 3, [0, 49, 2]), none, none, some (.istore_n 3, 1, []), some (.aload_n 0, 1, []), some (.getfield 43, 3, [11, 0, 5]), none, none, some (.iload_n 1, 1, []), some (.iload_n 3, 1, []), some (.iconst 3, 1, []), some (.if_icmp .lt 13, 3, []), none, none, some (.iload_n 3, 1, []), some (.bipush 7, 2, []), none, some (.if_icmp .gt 7, 3, []), none, none, some (.iconst 1, 1, []), some (.goto 4, 3, []), none, none, some (.iconst 0, 1, []), some (.invokestatic 59, 3, [0, 16, 3]), none, none, some (.aload_n 0, 1, []), some (.getfield 46, 3, [12, 0, 5]), none, none, some (.iload_n 1, 1, []), some (.lconst 0, 1, []), some (.invokestatic 63, 3, [0, 66, 3]), none, none, some (.iload_n 3, 1, []), some (.iconst 1, 1, []), some (.if_icmp .ne 17, 3, []), none, none, some (.aload_n 0, 1, []), some (.getfield 46, 3, [12, 0, 5]), none, none, some (.iload_n 1, 1, []), some (.ldc2_w 94, 3, [2]), none, none, some (.invokestatic 63, 3, [0, 66, 3]), none, none, some (.goto 51, 3, []), none, none, some (.iload_n 3, 1, []), some (.iconst 2, 1, []), some (.if_icmp .ne 17, 3, []), none, none, some (.aload_n 0, 1, []), some (.getfield 46, 3, [12, 0, 5]), none, none, some (.iload_n 1, 1, []), some (.ldc2_w 96, 3, [4]), none, none, some (.invokestatic 63, 3, [0, 66, 3]), none, none, some (.goto 32, 3, []), none, none, some (.iload_n 3, 1, []), some (.bipush 8, 2, []), none, some (.if_icmp .ne 26, 3, []), none, none, some (.aload_n 0, 1, []), some (.getfield 46, 3, [12, 0, 5]), none, none, some (.iload_n 1, 1, []), some (.lconst 1, 1, []), some (.iconst 3, 1, []), some (.aload_n 0, 1, []), some (.getfield 55, 3, [0, 0, 5]), none, none, some (.getfield 98, 3, [12, 0, 2]), none, none, some (.iload_n 1, 1, []), some (.invokestatic 78, 3, [0, 49, 2]), none, none, some (.iadd, 1, []), some (.lshl, 1, []), some (.invokestatic 63, 3, [0, 66, 3]), none, none, some (.return_, 1, [])]
/-- TwoWayGrammar$Grammar.formIn(I)I -/
def sb_71 : List (Option sm_I) := [some (.aload_n 0, 1, []), some (.getfield 33, 3, [11, 0, 2]), none, none, some (.iload_n 1, 1, []), some (.invokestatic 77, 3, [0, 49, 2]), none, none, some (.istore_n 2, 1, []), some (.iload_n 2, 1, []), some (.bipush 9, 2, []), none, some (.if_icmp .eq 9, 3, []), none, none, some (.iload_n 2, 1, []), some (.bipush 10, 2, []), none, some (.if_icmp .ne 14, 3, []), none, none, some (.aload_n 0, 1, []), some (.getfield 36, 3, [12, 0, 2]), none, none, some (.iload_n 1, 1, []), some (.invokestatic 77, 3, [0, 49, 2]), none, none, some (.goto 4, 3, []), none, none, some (.iconst (-1), 1, []), some (.ireturn, 1, [])]
/-- TwoWayGrammar.at([JI)J -/
def sb_72 : List (Option sm_I) := [some (.iload_n 1, 1, []), some (.ifCond .lt 15, 3, []), none, none, some (.iload_n 1, 1, []), some (.aload_n 0, 1, []), some (.arraylength, 1, []), some (.if_icmp .ge 9, 3, []), none, none, some (.aload_n 0, 1, []), some (.iload_n 1, 1, []), some (.laload, 1, []), some (.goto 4, 3, []), none, none, some (.lconst 0, 1, []), some (.lreturn, 1, [])]
/-- TwoWayGrammar$Sets.begins(I)I -/
def sb_73 : List (Option sm_I) := [some (.aload_n 0, 1, []), some (.getfield 55, 3, [0, 0, 5]), none, none, some (.iload_n 1, 1, []), some (.invokevirtual 82, 3, [0, 1, 2, 71]), none, none, some (.istore_n 2, 1, []), some (.iload_n 2, 1, []), some (.iconst (-1), 1, []), some (.if_icmp .ne 5, 3, []), none, none, some (.iconst 0, 1, []), some (.ireturn, 1, []), some (.aload_n 0, 1, []), some (.getfield 55, 3, [0, 0, 5]), none, none, some (.getfield 91, 3, [11, 0, 2]), none, none, some (.iload_n 1, 1, []), some (.invokestatic 78, 3, [0, 49, 2]), none, none, some (.bipush 9, 2, []), none, some (.if_icmp .ne 9, 3, []), none, none, some (.iconst 1, 1, []), some (.iload_n 2, 1, []), some (.ishl, 1, []), some (.goto 4, 3, []), none, none, some (.iconst 0, 1, []), some (.istore_n 3, 1, []), some (.iload_n 3, 1, []), some (.aload_n 0, 1, []), some (.getfield 25, 3, [5, 0, 5]), none, none, some (.iload_n 2, 1, []), some (.invokestatic 78, 3, [0, 49, 2]), none, none, some (.ior, 1, []), some (.ireturn, 1, [])]
/-- TwoWayGrammar$Sets.mayBePassed(I)Z -/
def sb_74 : List (Option sm_I) := [some (.aload_n 0, 1, []), some (.getfield 55, 3, [0, 0, 5]), none, none, some (.getfield 101, 3, [15, 0, 2]), none, none, some (.iload_n 1, 1, []), some (.invokestatic 78, 3, [0, 49, 2]), none, none, some (.ifCond .ne 15, 3, []), none, none, some (.aload_n 0, 1, []), some (.getfield 43, 3, [11, 0, 5]), none, none, some (.iload_n 1, 1, []), some (.invokestatic 78, 3, [0, 49, 2]), none, none, some (.iconst 1, 1, []), some (.if_icmp .ne 7, 3, []), none, none, some (.iconst 1, 1, []), some (.goto 4, 3, []), none, none, some (.iconst 0, 1, []), some (.ireturn, 1, [])]
/-- TwoWayGrammar$Sets.height(I)I -/
def sb_75 : List (Option sm_I) := [some (.aload_n 0, 1, []), some (.getfield 55, 3, [0, 0, 5]), none, none, some (.iload_n 1, 1, []), some (.invokevirtual 82, 3, [0, 1, 2, 71]), none, none, some (.istore_n 2, 1, []), some (.iload_n 2, 1, []), some (.iconst (-1), 1, []), some (.if_icmp .eq 17, 3, []), none, none, some (.aload_n 0, 1, []), some (.getfield 55, 3, [0, 0, 5]), none, none, some (.getfield 101, 3, [15, 0, 2]), none, none, some (.iload_n 1, 1, []), some (.invokestatic 78, 3, [0, 49, 2]), none, none, some (.ifCond .eq 5, 3, []), none, none, some (.iconst 0, 1, []), some (.ireturn, 1, []), some (.aload_n 0, 1, []), some (.getfield 22, 3, [4, 0, 5]), none, none, some (.iload_n 2, 1, []), some (.invokestatic 78, 3, [0, 49, 2]), none, none, some (.istore_n 3, 1, []), some (.aload_n 0, 1, []), some (.getfield 55, 3, [0, 0, 5]), none, none, some (.getfield 91, 3, [11, 0, 2]), none, none, some (.iload_n 1, 1, []), some (.invokestatic 78, 3, [0, 49, 2]), none, none, some (.bipush 9, 2, []), none, some (.if_icmp .ne 15, 3, []), none, none, some (.sipush 1000, 3, []), none, none, some (.iload_n 3, 1, []), some (.iconst 1, 1, []), some (.iadd, 1, []), some (.invokestatic 104, 3, [7, 1]), none, none, some (.goto 4, 3, []), none, none, some (.iload_n 3, 1, []), some (.ireturn, 1, [])]
/-- TwoWayGrammar$Sets.spreadFollows()V -/
def sb_76 : List (Option sm_I) := [some (.aload_n 0, 1, []), some (.iconst 1, 1, []), some (.putfield 110, 3, [15, 3, 0, 5]), none, none, some (.iconst 0, 1, []), some (.istore_n 1, 1, []), some (.aload_n 0, 1, []), some (.getfield 110, 3, [15, 0, 5]), none, none, some (.ifCond .eq 103, 3, []), none, none, some (.iload_n 1, 1, []), some (.ldc 114, 2, [0, 100000]), none, some (.if_icmp .ge 97, 3, []), none, none, some (.aload_n 0, 1, []), some (.iconst 0, 1, []), some (.putfield 110, 3, [15, 3, 0, 5]), none, none, some (.iconst 0, 1, []), some (.istore_n 2, 1, []), some (.iload_n 2, 1, []), some (.bipush 70, 2, []), none, some (.if_icmp .ge 78, 3, []), none, none, some (.aload_n 0, 1, []), some (.getfield 55, 3, [0, 0, 5]), none, none, some (.getfield 119, 3, [3, 0, 2]), none, none, some (.iload_n 2, 1, []), some (.invokestatic 78, 3, [0, 49, 2]), none, none, some (.istore_n 3, 1, []), some (.iconst 0, 1, []), some (.istore 4, 2, []), none, some (.iload 4, 2, []), none, some (.aload_n 0, 1, []), some (.getfield 55, 3, [0, 0, 5]), none, none, some (.getfield 122, 3, [4, 0, 2]), none, none, some (.iload_n 2, 1, []), some (.invokestatic 78, 3, [0, 49, 2]), none, none, some (.if_icmp .ge 41, 3, []), none, none, some (.iload 4, 2, []), none, some (.bipush 6, 2, []), none, some (.if_icmp .ge 34, 3, []), none, none, some (.aload_n 0, 1, []), some (.iload_n 3, 1, []), some (.aload_n 0, 1, []), some (.getfield 19, 3, [3, 0, 5]), none, none, some (.iload_n 2, 1, []), some (.invokestatic 88, 3, [0, 72, 2]), none, none, some (.invokevirtual 153, 3, [0, 2, 5, 77]), none, none, some (.aload_n 0, 1, []), some (.getfield 55, 3, [0, 0, 5]), none, none, some (.getfield 128, 3, [8, 0, 2]), none, none, some (.iload_n 3, 1, []), some (.invokestatic 78, 3, [0, 49, 2]), none, none, some (.istore_n 3, 1, []), some (.iinc 4 1, 3, []), none, none, some (.goto (-51), 3, []), none, none, some (.iinc 2 1, 3, []), none, none, some (.goto (-78), 3, []), none, none, some (.iinc 1 1, 3, []), none, none, some (.goto (-104), 3, []), none, none, some (.return_, 1, [])]
/-- TwoWayGrammar$Sets.spreadInto(IJ)V -/
def sb_77 : List (Option sm_I) := [some (.aload_n 0, 1, []), some (.getfield 55, 3, [0, 0, 5]), none, none, some (.getfield 131, 3, [7, 0, 2]), none, none, some (.iload_n 1, 1, []), some (.invokestatic 78, 3, [0, 49, 2]), none, none, some (.istore 4, 2, []), none, some (.iconst 0, 1, []), some (.istore 5, 2, []), none, some (.iload 4, 2, []), none, some (.iconst (-1), 1, []), some (.if_icmp .eq 153, 3, []), none, none, some (.iload 5, 2, []), none, some (.bipush 60, 2, []), none, some (.if_icmp .ge 146, 3, []), none, none, some (.aload_n 0, 1, []), some (.getfield 55, 3, [0, 0, 5]), none, none, some (.getfield 150, 3, [14, 0, 2]), none, none, some (.iload 4, 2, []), none, some (.invokestatic 78, 3, [0, 49, 2]), none, none, some (.istore 6, 2, []), none, some (.aload_n 0, 1, []), some (.iload 6, 2, []), none, some (.lload_n 2, 1, []), some (.invokevirtual 157, 3, [0, 2, 5, 78]), none, none, some (.lstore 7, 2, []), none, some (.aload_n 0, 1, []), some (.getfield 49, 3, [13, 0, 5]), none, none, some (.iload 4, 2, []), none, some (.lload 7, 2, []), none, some (.invokestatic 63, 3, [0, 66, 3]), none, none, some (.aload_n 0, 1, []), some (.getfield 55, 3, [0, 0, 5]), none, none, some (.getfield 101, 3, [15, 0, 2]), none, none, some (.iload 4, 2, []), none, some (.invokestatic 78, 3, [0, 49, 2]), none, none, some (.iconst 5, 1, []), some (.if_icmp .ne 18, 3, []), none, none, some (.lload 7, 2, []), none, some (.aload_n 0, 1, []), some (.getfield 46, 3, [12, 0, 5]), none, none, some (.iload 4, 2, []), none, some (.invokestatic 88, 3, [0, 72, 2]), none, none, some (.lor, 1, []), some (.goto 5, 3, []), none, none, some (.lload 7, 2, []), none, some (.lstore 9, 2, []), none, some (.aload_n 0, 1, []), some (.getfield 55, 3, [0, 0, 5]), none, none, some (.iload 4, 2, []), none, some (.invokevirtual 82, 3, [0, 1, 2, 71]), none, none, some (.istore 11, 2, []), none, some (.iload 11, 2, []), none, some (.iconst (-1), 1, []), some (.if_icmp .eq 50, 3, []), none, none, some (.lload 9, 2, []), none, some (.aload_n 0, 1, []), some (.getfield 19, 3, [3, 0, 5]), none, none, some (.iload 11, 2, []), none, some (.invokestatic 88, 3, [0, 72, 2]), none, none, some (.ldc2_w 161, 3, [18446744073709551615]), none, none, some (.lxor, 1, []), some (.land, 1, []), some (.lconst 0, 1, []), some (.lcmp, 1, []), some (.ifCond .eq 29, 3, []), none, none, some (.aload_n 0, 1, []), some (.getfield 19, 3, [3, 0, 5]), none, none, some (.iload 11, 2, []), none, some (.aload_n 0, 1, []), some (.getfield 19, 3, [3, 0, 5]), none, none, some (.iload 11, 2, []), none, some (.invokestatic 88, 3, [0, 72, 2]), none, none, some (.lload 9, 2, []), none, some (.lor, 1, []), some (.invokestatic 63, 3, [0, 66, 3]), none, none, some (.aload_n 0, 1, []), some (.iconst 1, 1, []), some (.putfield 110, 3, [15, 3, 0, 5]), none, none, some (.iload 6, 2, []), none, some (.istore 4, 2, []), none, some (.iinc 5 1, 3, []), none, none, some (.goto (-153), 3, []), none, none, some (.return_, 1, [])]
/-- TwoWayGrammar$Sets.startsFrom(IJ)J -/
def sb_78 : List (Option sm_I) := [some (.lconst 0, 1, []), some (.lstore 4, 2, []), none, some (.iconst 1, 1, []), some (.istore 6, 2, []), none, some (.iload_n 1, 1, []), some (.istore 7, 2, []), none, some (.iconst 0, 1, []), some (.istore 8, 2, []), none, some (.iload 6, 2, []), none, some (.ifCond .eq 58, 3, []), none, none, some (.iload 7, 2, []), none, some (.iconst (-1), 1, []), some (.if_icmp .eq 52, 3, []), none, none, some (.iload 8, 2, []), none, some (.bipush 60, 2, []), none, some (.if_icmp .ge 45, 3, []), none, none, some (.lload 4, 2, []), none, some (.aload_n 0, 1, []), some (.getfield 46, 3, [12, 0, 5]), none, none, some (.iload 7, 2, []), none, some (.invokestatic 88, 3, [0, 72, 2]), none, none, some (.lor, 1, []), some (.lstore 4, 2, []), none, some (.aload_n 0, 1, []), some (.iload 7, 2, []), none, some (.invokevirtual 140, 3, [0, 1, 5, 74]), none, none, some (.istore 6, 2, []), none, some (.aload_n 0, 1, []), some (.getfield 55, 3, [0, 0, 5]), none, none, some (.getfield 150, 3, [14, 0, 2]), none, none, some (.iload 7, 2, []), none, some (.invokestatic 78, 3, [0, 49, 2]), none, none, some (.istore 7, 2, []), none, some (.iinc 8 1, 3, []), none, none, some (.goto (-57), 3, []), none, none, some (.iload 6, 2, []), none, some (.ifCond .eq 10, 3, []), none, none, some (.lload 4, 2, []), none, some (.lload_n 2, 1, []), some (.lor, 1, []), some (.goto 5, 3, []), none, none, some (.lload 4, 2, []), none, some (.lreturn, 1, [])]
/-- TwoWayGrammar$Sets.findDirectors()V -/
def sb_79 : List (Option sm_I) := [some (.iconst 0, 1, []), some (.istore_n 1, 1, []), some (.iload_n 1, 1, []), some (.bipush 70, 2, []), none, some (.if_icmp .ge 107, 3, []), none, none, some (.aload_n 0, 1, []), some (.getfield 55, 3, [0, 0, 5]), none, none, some (.getfield 119, 3, [3, 0, 2]), none, none, some (.iload_n 1, 1, []), some (.invokestatic 78, 3, [0, 49, 2]), none, none, some (.istore_n 2, 1, []), some (.iconst 0, 1, []), some (.istore_n 3, 1, []), some (.iload_n 3, 1, []), some (.aload_n 0, 1, []), some (.getfield 55, 3, [0, 0, 5]), none, none, some (.getfield 122, 3, [4, 0, 2]), none, none, some (.iload_n 1, 1, []), some (.invokestatic 78, 3, [0, 49, 2]), none, none, some (.if_icmp .ge 72, 3, []), none, none, some (.iload_n 3, 1, []), some (.bipush 6, 2, []), none, some (.if_icmp .ge 66, 3, []), none, none, some (.aload_n 0, 1, []), some (.getfield 28, 3, [6, 0, 5]), none, none, some (.iload_n 2, 1, []), some (.invokestatic 78, 3, [0, 49, 2]), none, none, some (.iconst 1, 1, []), some (.if_icmp .ne 14, 3, []), none, none, some (.aload_n 0, 1, []), some (.getfield 19, 3, [3, 0, 5]), none, none, some (.iload_n 1, 1, []), some (.invokestatic 88, 3, [0, 72, 2]), none, none, some (.goto 4, 3, []), none, none, some (.lconst 0, 1, []), some (.lstore 4, 2, []), none, some (.aload_n 0, 1, []), some (.getfield 40, 3, [10, 0, 5]), none, none, some (.iload_n 2, 1, []), some (.aload_n 0, 1, []), some (.getfield 31, 3, [7, 0, 5]), none, none, some (.iload_n 2, 1, []), some (.invokestatic 88, 3, [0, 72, 2]), none, none, some (.lload 4, 2, []), none, some (.lor, 1, []), some (.invokestatic 63, 3, [0, 66, 3]), none, none, some (.aload_n 0, 1, []), some (.getfield 55, 3, [0, 0, 5]), none, none, some (.getfield 128, 3, [8, 0, 2]), none, none, some (.iload_n 2, 1, []), some (.invokestatic 78, 3, [0, 49, 2]), none, none, some (.istore_n 2, 1, []), some (.iinc 3 1, 3, []), none, none, some (.goto (-81), 3, []), none, none, some (.iinc 1 1, 3, []), none, none, some (.goto (-107), 3, []), none, none, some (.return_, 1, [])]
/-- TwoWayGrammar$Sets.findTops()V -/
def sb_80 : List (Option sm_I) := [some (.aload_n 0, 1, []), some (.getfield 55, 3, [0, 0, 5]), none, none, some (.getfield 163, 3, [10, 0, 2]), none, none, some (.iconst 1, 1, []), some (.isub, 1, []), some (.istore_n 1, 1, []), some (.iload_n 1, 1, []), some (.ifCond .lt 92, 3, []), none, none, some (.aload_n 0, 1, []), some (.getfield 55, 3, [0, 0, 5]), none, none, some (.getfield 91, 3, [11, 0, 2]), none, none, some (.iload_n 1, 1, []), some (.invokestatic 78, 3, [0, 49, 2]), none, none, some (.istore_n 2, 1, []), some (.iload_n 2, 1, []), some (.iconst 1, 1, []), some (.if_icmp .eq 14, 3, []), none, none, some (.iload_n 2, 1, []), some (.iconst 2, 1, []), some (.if_icmp .eq 9, 3, []), none, none, some (.iload_n 2, 1, []), some (.bipush 9, 2, []), none, some (.if_icmp .ne 7, 3, []), none, none, some (.iconst 1, 1, []), some (.goto 4, 3, []), none, none, some (.iconst 0, 1, []), some (.istore_n 3, 1, []), some (.iload_n 2, 1, []), some (.bipush 10, 2, []), none, some (.if_icmp .ne 19, 3, []), none, none, some (.aload_n 0, 1, []), some (.aload_n 0, 1, []), some (.getfield 55, 3, [0, 0, 5]), none, none, some (.getfield 98, 3, [12, 0, 2]), none, none, some (.iload_n 1, 1, []), some (.invokestatic 78, 3, [0, 49, 2]), none, none, some (.invokevirtual 167, 3, [0, 1, 5, 81]), none, none, some (.istore_n 3, 1, []), some (.aload_n 0, 1, []), some (.getfield 52, 3, [14, 0, 5]), none, none, some (.iload_n 1, 1, []), some (.aload_n 0, 1, []), some (.getfield 55, 3, [0, 0, 5]), none, none, some (.getfield 101, 3, [15, 0, 2]), none, none, some (.iload_n 1, 1, []), some (.invokestatic 78, 3, [0, 49, 2]), none, none, some (.ifCond .ne 7, 3, []), none, none, some (.iload_n 3, 1, []), some (.goto 4, 3, []), none, none, some (.iconst 1, 1, []), some (.invokestatic 59, 3, [0, 16, 3]), none, none, some (.iinc 1 (-1), 3, []), none, none, some (.goto (-90), 3, []), none, none, some (.return_, 1, [])]
/-- TwoWayGrammar$Sets.groupTops(I)I -/
def sb_81 : List (Option sm_I) := [some (.aload_n 0, 1, []), some (.getfield 55, 3, [0, 0, 5]), none, none, some (.getfield 122, 3, [4, 0, 2]), none, none, some (.iload_n 1, 1, []), some (.invokestatic 78, 3, [0, 49, 2]), none, none, some (.iconst 1, 1, []), some (.if_icmp .le 5, 3, []), none, none, some (.iconst 1, 1, []), some (.ireturn, 1, []), some (.iconst 0, 1, []), some (.istore_n 2, 1, []), some (.aload_n 0, 1, []), some (.getfield 55, 3, [0, 0, 5]), none, none, some (.getfield 131, 3, [7, 0, 2]), none, none, some (.aload_n 0, 1, []), some (.getfield 55, 3, [0, 0, 5]), none, none, some (.getfield 119, 3, [3, 0, 2]), none, none, some (.iload_n 1, 1, []), some (.invokestatic 78, 3, [0, 49, 2]), none, none, some (.invokestatic 78, 3, [0, 49, 2]), none, none, some (.istore_n 3, 1, []), some (.iconst 0, 1, []), some (.istore 4, 2, []), none, some (.iload_n 3, 1, []), some (.iconst (-1), 1, []), some (.if_icmp .eq 39, 3, []), none, none, some (.iload 4, 2, []), none, some (.bipush 60, 2, []), none, some (.if_icmp .ge 32, 3, []), none, none, some (.iload_n 2, 1, []), some (.aload_n 0, 1, []), some (.getfield 52, 3, [14, 0, 5]), none, none, some (.iload_n 3, 1, []), some (.invokestatic 78, 3, [0, 49, 2]), none, none, some (.iadd, 1, []), some (.istore_n 2, 1, []), some (.aload_n 0, 1, []), some (.getfield 55, 3, [0, 0, 5]), none, none, some (.getfield 150, 3, [14, 0, 2]), none, none, some (.iload_n 3, 1, []), some (.invokestatic 78, 3, [0, 49, 2]), none, none, some (.istore_n 3, 1, []), some (.iinc 4 1, 3, []), none, none, some (.goto (-38), 3, []), none, none, some (.iload_n 2, 1, []), some (.ireturn, 1, [])]
/-- TwoWayGrammar$Checks.firstFault()I -/
def sb_82 : List (Option sm_I) := [some (.aload_n 0, 1, []), some (.iconst 0, 1, []), some (.putfield 19, 3, [2, 0, 0, 6]), none, none, some (.aload_n 0, 1, []), some (.invokevirtual 23, 3, [0, 0, 6, 83]), none, none, some (.aload_n 0, 1, []), some (.invokevirtual 26, 3, [0, 0, 6, 86]), none, none, some (.iconst 0, 1, []), some (.istore_n 1, 1, []), some (.iload_n 1, 1, []), some (.bipush 70, 2, []), none, some (.if_icmp .ge 14, 3, []), none, none, some (.aload_n 0, 1, []), some (.iload_n 1, 1, []), some (.invokevirtual 29, 3, [0, 1, 6, 87]), none, none, some (.iinc 1 1, 3, []), none, none, some (.goto (-14), 3, []), none, none, some (.aload_n 0, 1, []), some (.getfield 19, 3, [2, 0, 6]), none, none, some (.ireturn, 1, [])]
/-- TwoWayGrammar$Checks.checkRules()V -/
def sb_83 : List (Option sm_I) := [some (.iconst 0, 1, []), some (.istore_n 1, 1, []), some (.iload_n 1, 1, []), some (.aload_n 0, 1, []), some (.getfield 9, 3, [0, 0, 6]), none, none, some (.getfield 33, 3, [0, 0, 2]), none, none, some (.if_icmp .ge 63, 3, []), none, none, some (.aload_n 0, 1, []), some (.getfield 9, 3, [0, 0, 6]), none, none, some (.getfield 38, 3, [2, 0, 2]), none, none, some (.iload_n 1, 1, []), some (.invokestatic 42, 3, [0, 49, 2]), none, none, some (.istore_n 2, 1, []), some (.aload_n 0, 1, []), some (.getfield 15, 3, [1, 0, 6]), none, none, some (.getfield 46, 3, [5, 0, 5]), none, none, some (.iload_n 1, 1, []), some (.invokestatic 42, 3, [0, 49, 2]), none, none, some (.iload_n 1, 1, []), some (.ishr, 1, []), some (.iconst 1, 1, []), some (.iand, 1, []), some (.ifCond .eq 9, 3, []), none, none, some (.aload_n 0, 1, []), some (.iconst 5, 1, []), some (.iload_n 2, 1, []), some (.invokevirtual 51, 3, [0, 2, 6, 84]), none, none, some (.aload_n 0, 1, []), some (.getfield 15, 3, [1, 0, 6]), none, none, some (.iload_n 1, 1, []), some (.invokevirtual 55, 3, [0, 1, 5, 85]), none, none, some (.ifCond .ne 10, 3, []), none, none, some (.aload_n 0, 1, []), some (.bipush 6, 2, []), none, some (.iload_n 2, 1, []), some (.invokevirtual 51, 3, [0, 2, 6, 84]), none, none, some (.iinc 1 1, 3, []), none, none, some (.goto (-68), 3, []), none, none, some (.return_, 1, [])]
/-- TwoWayGrammar$Checks.blame(II)V -/
def sb_84 : List (Option sm_I) := [some (.iload_n 1, 1, []), some (.bipush 16, 2, []), none, some (.iload_n 2, 1, []), some (.imul, 1, []), some (.iadd, 1, []), some (.istore_n 3, 1, []), some (.aload_n 0, 1, []), some (.getfield 19, 3, [2, 0, 6]), none, none, some (.ifCond .eq 11, 3, []), none, none, some (.iload_n 3, 1, []), some (.aload_n 0, 1, []), some (.getfield 19, 3, [2, 0, 6]), none, none, some (.if_icmp .ge 8, 3, []), none, none, some (.aload_n 0, 1, []), some (.iload_n 3, 1, []), some (.putfield 19, 3, [2, 0, 0, 6]), none, none, some (.return_, 1, [])]
/-- TwoWayGrammar$Sets.isFinite(I)Z -/
def sb_85 : List (Option sm_I) := [some (.aload_n 0, 1, []), some (.getfield 22, 3, [4, 0, 5]), none, none, some (.iload_n 1, 1, []), some (.invokestatic 78, 3, [0, 49, 2]), none, none, some (.sipush 1000, 3, []), none, none, some (.if_icmp .ge 7, 3, []), none, none, some (.iconst 1, 1, []), some (.goto 4, 3, []), none, none, some (.iconst 0, 1, []), some (.ireturn, 1, [])]
/-- TwoWayGrammar$Checks.checkRepeats()V -/
def sb_86 : List (Option sm_I) := [some (.iconst 0, 1, []), some (.istore_n 1, 1, []), some (.iload_n 1, 1, []), some (.aload_n 0, 1, []), some (.getfield 9, 3, [0, 0, 6]), none, none, some (.getfield 59, 3, [10, 0, 2]), none, none, some (.if_icmp .ge 92, 3, []), none, none, some (.aload_n 0, 1, []), some (.getfield 9, 3, [0, 0, 6]), none, none, some (.getfield 62, 3, [15, 0, 2]), none, none, some (.iload_n 1, 1, []), some (.invokestatic 42, 3, [0, 49, 2]), none, none, some (.ifCond .eq 72, 3, []), none, none, some (.aload_n 0, 1, []), some (.getfield 9, 3, [0, 0, 6]), none, none, some (.getfield 65, 3, [16, 0, 2]), none, none, some (.iload_n 1, 1, []), some (.invokestatic 42, 3, [0, 49, 2]), none, none, some (.istore_n 2, 1, []), some (.aload_n 0, 1, []), some (.getfield 15, 3, [1, 0, 6]), none, none, some (.getfield 68, 3, [11, 0, 5]), none, none, some (.iload_n 1, 1, []), some (.invokestatic 42, 3, [0, 49, 2]), none, none, some (.iconst 1, 1, []), some (.if_icmp .ne 10, 3, []), none, none, some (.aload_n 0, 1, []), some (.bipush 7, 2, []), none, some (.iload_n 2, 1, []), some (.invokevirtual 51, 3, [0, 2, 6, 84]), none, none, some (.aload_n 0, 1, []), some (.getfield 15, 3, [1, 0, 6]), none, none, some (.getfield 71, 3, [12, 0, 5]), none, none, some (.iload_n 1, 1, []), some (.invokestatic 75, 3, [0, 72, 2]), none, none, some (.aload_n 0, 1, []), some (.getfield 15, 3, [1, 0, 6]), none, none, some (.getfield 78, 3, [13, 0, 5]), none, none, some (.iload_n 1, 1, []), some (.invokestatic 75, 3, [0, 72, 2]), none, none, some (.land, 1, []), some (.lconst 0, 1, []), some (.lcmp, 1, []), some (.ifCond .eq 10, 3, []), none, none, some (.aload_n 0, 1, []), some (.bipush 9, 2, []), none, some (.iload_n 2, 1, []), some (.invokevirtual 51, 3, [0, 2, 6, 84]), none, none, some (.iinc 1 1, 3, []), none, none, some (.goto (-97), 3, []), none, none, some (.return_, 1, [])]
/-- TwoWayGrammar$Checks.checkChoice(I)V -/
def sb_87 : List (Option sm_I) := [some (.lconst 0, 1, []), some (.lstore_n 2, 1, []), some (.aload_n 0, 1, []), some (.getfield 9, 3, [0, 0, 6]), none, none, some (.getfield 81, 3, [3, 0, 2]), none, none, some (.iload_n 1, 1, []), some (.invokestatic 42, 3, [0, 49, 2]), none, none, some (.istore 4, 2, []), none, some (.iconst 0, 1, []), some (.istore 5, 2, []), none, some (.iload 5, 2, []), none, some (.aload_n 0, 1, []), some (.getfield 9, 3, [0, 0, 6]), none, none, some (.getfield 84, 3, [4, 0, 2]), none, none, some (.iload_n 1, 1, []), some (.invokestatic 42, 3, [0, 49, 2]), none, none, some (.if_icmp .ge 76, 3, []), none, none, some (.iload 5, 2, []), none, some (.bipush 6, 2, []), none, some (.if_icmp .ge 69, 3, []), none, none, some (.aload_n 0, 1, []), some (.getfield 15, 3, [1, 0, 6]), none, none, some (.getfield 87, 3, [10, 0, 5]), none, none, some (.iload 4, 2, []), none, some (.invokestatic 75, 3, [0, 72, 2]), none, none, some (.lstore 6, 2, []), none, some (.lload 6, 2, []), none, some (.lload_n 2, 1, []), some (.land, 1, []), some (.lconst 0, 1, []), some (.lcmp, 1, []), some (.ifCond .eq 21, 3, []), none, none, some (.aload_n 0, 1, []), some (.bipush 8, 2, []), none, some (.aload_n 0, 1, []), some (.getfield 9, 3, [0, 0, 6]), none, none, some (.getfield 90, 3, [9, 0, 2]), none, none, some (.iload 4, 2, []), none, some (.invokestatic 42, 3, [0, 49, 2]), none, none, some (.invokevirtual 51, 3, [0, 2, 6, 84]), none, none, some (.lload_n 2, 1, []), some (.lload 6, 2, []), none, some (.lor, 1, []), some (.lstore_n 2, 1, []), some (.aload_n 0, 1, []), some (.getfield 9, 3, [0, 0, 6]), none, none, some (.getfield 93, 3, [8, 0, 2]), none, none, some (.iload 4, 2, []), none, some (.invokestatic 42, 3, [0, 49, 2]), none, none, some (.istore 4, 2, []), none, some (.iinc 5 1, 3, []), none, none, some (.goto (-86), 3, []), none, none, some (.return_, 1, [])]
/-- TwoWayGrammar.carry()I -/
def sb_88 : List (Option sm_I) := [some (.aload_n 0, 1, []), some (.getfield 18, 3, [1, 0, 0]), none, none, some (.aload_n 0, 1, []), some (.getfield 21, 3, [2, 0, 0]), none, none, some (.invokevirtual 269, 3, [0, 1, 1, 89]), none, none, some (.aload_n 0, 1, []), some (.getfield 18, 3, [1, 0, 0]), none, none, some (.invokevirtual 119, 3, [0, 0, 1, 22]), none, none, some (.ireturn, 1, [])]
/-- TwoWayGrammar$Text.takeOver(LTwoWayGrammar$Text;)V -/
def sb_89 : List (Option sm_I) := [some (.aload_n 0, 1, []), some (.invokevirtual 36, 3, [0, 0, 1, 90]), none, none, some (.iconst 0, 1, []), some (.istore_n 2, 1, []), some (.iload_n 2, 1, []), some (.aload_n 1, 1, []), some (.invokevirtual 39, 3, [0, 0, 1, 22]), none, none, some (.if_icmp .ge 19, 3, []), none, none, some (.aload_n 0, 1, []), some (.aload_n 1, 1, []), some (.iload_n 2, 1, []), some (.invokevirtual 40, 3, [0, 1, 1, 20]), none, none, some (.invokevirtual 32, 3, [0, 1, 1, 91]), none, none, some (.pop, 1, []), some (.iinc 2 1, 3, []), none, none, some (.goto (-21), 3, []), none, none, some (.return_, 1, [])]
/-- TwoWayGrammar$Text.drop()V -/
def sb_90 : List (Option sm_I) := [some (.aload_n 0, 1, []), some (.iconst 0, 1, []), some (.putfield 19, 3, [1, 0, 0, 1]), none, none, some (.return_, 1, [])]
/-- TwoWayGrammar$Text.append(C)Z -/
def sb_91 : List (Option sm_I) := [some (.iload_n 1, 1, []), some (.bipush 32, 2, []), none, some (.if_icmp .lt 9, 3, []), none, none, some (.iload_n 1, 1, []), some (.bipush 126, 2, []), none, some (.if_icmp .le 9, 3, []), none, none, some (.iload_n 1, 1, []), some (.bipush 10, 2, []), none, some (.if_icmp .ne 7, 3, []), none, none, some (.iconst 1, 1, []), some (.goto 4, 3, []), none, none, some (.iconst 0, 1, []), some (.istore_n 2, 1, []), some (.iload_n 2, 1, []), some (.ifCond .eq 22, 3, []), none, none, some (.aload_n 0, 1, []), some (.getfield 19, 3, [1, 0, 1]), none, none, some (.ifCond .lt 15, 3, []), none, none, some (.aload_n 0, 1, []), some (.getfield 19, 3, [1, 0, 1]), none, none, some (.aload_n 0, 1, []), some (.getfield 13, 3, [0, 0, 1]), none, none, some (.arraylength, 1, []), some (.if_icmp .lt 5, 3, []), none, none, some (.iconst 0, 1, []), some (.ireturn, 1, []), some (.aload_n 0, 1, []), some (.getfield 13, 3, [0, 0, 1]), none, none, some (.aload_n 0, 1, []), some (.getfield 19, 3, [1, 0, 1]), none, none, some (.iload_n 1, 1, []), some (.castore, 1, []), some (.aload_n 0, 1, []), some (.dup, 1, []), some (.getfield 19, 3, [1, 0, 1]), none, none, some (.iconst 1, 1, []), some (.iadd, 1, []), some (.putfield 19, 3, [1, 0, 0, 1]), none, none, some (.iconst 1, 1, []), some (.ireturn, 1, [])]
/-- TwoWayGrammar.keep()Z -/
def sb_92 : List (Option sm_I) := [some (.aload_n 0, 1, []), some (.getfield 69, 3, [8, 0, 0]), none, none, some (.getfield 218, 3, [0, 0, 7]), none, none, some (.ifCond .ne 5, 3, []), none, none, some (.iconst 0, 1, []), some (.ireturn, 1, []), some (.aload_n 0, 1, []), some (.getfield 73, 3, [9, 0, 0]), none, none, some (.aload_n 0, 1, []), some (.getfield 69, 3, [8, 0, 0]), none, none, some (.invokevirtual 214, 3, [0, 1, 7, 93]), none, none, some (.iconst 1, 1, []), some (.ireturn, 1, [])]
/-- TwoWayGrammar$Tree.takeOver(LTwoWayGrammar$Tree;)V -/
def sb_93 : List (Option sm_I) := [some (.aload_n 0, 1, []), some (.aload_n 1, 1, []), some (.getfield 21, 3, [0, 0, 7]), none, none, some (.putfield 21, 3, [0, 0, 0, 7]), none, none, some (.iconst 0, 1, []), some (.istore_n 2, 1, []), some (.iload_n 2, 1, []), some (.aload_n 0, 1, []), some (.getfield 21, 3, [0, 0, 7]), none, none, some (.if_icmp .ge 57, 3, []), none, none, some (.aload_n 0, 1, []), some (.getfield 9, 3, [1, 0, 7]), none, none, some (.iload_n 2, 1, []), some (.aload_n 1, 1, []), some (.getfield 9, 3, [1, 0, 7]), none, none, some (.iload_n 2, 1, []), some (.invokestatic 29, 3, [0, 49, 2]), none, none, some (.invokestatic 25, 3, [0, 16, 3]), none, none, some (.aload_n 0, 1, []), some (.getfield 15, 3, [2, 0, 7]), none, none, some (.iload_n 2, 1, []), some (.aload_n 1, 1, []), some (.getfield 15, 3, [2, 0, 7]), none, none, some (.iload_n 2, 1, []), some (.invokestatic 29, 3, [0, 49, 2]), none, none, some (.invokestatic 25, 3, [0, 16, 3]), none, none, some (.aload_n 0, 1, []), some (.getfield 18, 3, [3, 0, 7]), none, none, some (.iload_n 2, 1, []), some (.aload_n 1, 1, []), some (.getfield 18, 3, [3, 0, 7]), none, none, some (.iload_n 2, 1, []), some (.invokestatic 29, 3, [0, 49, 2]), none, none, some (.invokestatic 25, 3, [0, 16, 3]), none, none, some (.iinc 2 1, 3, []), none, none, some (.goto (-59), 3, []), none, none, some (.return_, 1, [])]
/-- TwoWayGrammar.count(I)I -/
def sb_94 : List (Option sm_I) := [some (.iload_n 1, 1, []), some (.tableswitch 121 0 6 #[43, 51, 59, 67, 86, 105, 113], 43, []), none, none, none, none, none, none, none, none, none, none, none, none, none, none, none, none, none, none, none, none, none, none, none, none, none, none, none, none, none, none, none, none, none, none, none, none, none, none, none, none, none, none, some (.aload_n 0, 1, []), some (.getfield 14, 3, [0, 0, 0]), none, none, some (.invokevirtual 119, 3, [0, 0, 1, 22]), none, none, some (.ireturn, 1, []), some (.aload_n 0, 1, []), some (.getfield 18, 3, [1, 0, 0]), none, none, some (.invokevirtual 119, 3, [0, 0, 1, 22]), none, none, some (.ireturn, 1, []), some (.aload_n 0, 1, []), some (.getfield 21, 3, [2, 0, 0]), none, none, some (.invokevirtual 119, 3, [0, 0, 1, 22]), none, none, some (.ireturn, 1, []), some (.aload_n 0, 1, []), some (.getfield 144, 3, [14, 0, 0]), none, none, some (.ifCond .eq 13, 3, []), none, none, some (.aload_n 0, 1, []), some (.getfield 30, 3, [4, 0, 0]), none, none, some (.getfield 162, 3, [0, 0, 2]), none, none, some (.goto 4, 3, []), none, none, some (.iconst 0, 1, []), some (.ireturn, 1, []), some (.aload_n 0, 1, []), some (.getfield 144, 3, [14, 0, 0]), none, none, some (.ifCond .eq 13, 3, []), none, none, some (.aload_n 0, 1, []), some (.getfield 30, 3, [4, 0, 0]), none, none, some (.getfield 282, 3, [18, 0, 2]), none, none, some (.goto 4, 3, []), none, none, some (.iconst 0, 1, []), some (.ireturn, 1, []), some (.aload_n 0, 1, []), some (.getfield 69, 3, [8, 0, 0]), none, none, some (.getfield 218, 3, [0, 0, 7]), none, none, some (.ireturn, 1, []), some (.aload_n 0, 1, []), some (.getfield 73, 3, [9, 0, 0]), none, none, some (.getfield 218, 3, [0, 0, 7]), none, none, some (.ireturn, 1, []), some (.iconst (-1), 1, []), some (.ireturn, 1, [])]
/-- TwoWayGrammar.type(IC)Z -/
def sb_95 : List (Option sm_I) := [some (.iload_n 1, 1, []), some (.ifCond .eq 18, 3, []), none, none, some (.iload_n 1, 1, []), some (.iconst 1, 1, []), some (.if_icmp .eq 13, 3, []), none, none, some (.new 104, 3, [1000, 12]), none, none, some (.dup, 1, []), some (.ldc 106, 2, [1, 9]), none, none, none, none, none, some (.aload_n 0, 1, []), some (.iload_n 1, 1, []), some (.invokevirtual 111, 3, [0, 1, 0, 96]), none, none, some (.iload_n 2, 1, []), some (.invokevirtual 115, 3, [0, 1, 1, 91]), none, none, some (.ireturn, 1, [])]
/-- TwoWayGrammar.text(I)LTwoWayGrammar$Text; -/
def sb_96 : List (Option sm_I) := [some (.iload_n 1, 1, []), some (.ifCond .ne 10, 3, []), none, none, some (.aload_n 0, 1, []), some (.getfield 14, 3, [0, 0, 0]), none, none, some (.goto 7, 3, []), none, none, some (.aload_n 0, 1, []), some (.getfield 18, 3, [1, 0, 0]), none, none, some (.areturn, 1, [])]
/-- TwoWayGrammar.clear(I)I -/
def sb_97 : List (Option sm_I) := [some (.iload_n 1, 1, []), some (.ifCond .eq 18, 3, []), none, none, some (.iload_n 1, 1, []), some (.iconst 1, 1, []), some (.if_icmp .eq 13, 3, []), none, none, some (.new 104, 3, [1000, 12]), none, none, some (.dup, 1, []), some (.ldc 106, 2, [1, 9]), none, none, none, none, none, some (.aload_n 0, 1, []), some (.iload_n 1, 1, []), some (.invokevirtual 111, 3, [0, 1, 0, 96]), none, none, some (.invokevirtual 119, 3, [0, 0, 1, 22]), none, none, some (.istore_n 2, 1, []), some (.aload_n 0, 1, []), some (.iload_n 1, 1, []), some (.invokevirtual 111, 3, [0, 1, 0, 96]), none, none, some (.invokevirtual 123, 3, [0, 0, 1, 90]), none, none, some (.iload_n 2, 1, []), some (.ireturn, 1, [])]
/-- TwoWayGrammar.sample(I)I -/
def sb_98 : List (Option sm_I) := [some (.iload_n 1, 1, []), some (.ifCond .lt 8, 3, []), none, none, some (.iload_n 1, 1, []), some (.iconst 2, 1, []), some (.if_icmp .le 13, 3, []), none, none, some (.new 126, 3, [1000, 13]), none, none, some (.dup, 1, []), some (.ldc 128, 2, [1, 10]), none, none, none, none, none, some (.aload_n 0, 1, []), some (.getfield 14, 3, [0, 0, 0]), none, none, some (.invokevirtual 123, 3, [0, 0, 1, 90]), none, none, some (.aload_n 0, 1, []), some (.getfield 14, 3, [0, 0, 0]), none, none, some (.iload_n 1, 1, []), some (.ifCond .ne 8, 3, []), none, none, some (.ldc 131, 2, [1, 11]), none, some (.goto 15, 3, []), none, none, some (.iload_n 1, 1, []), some (.iconst 1, 1, []), some (.if_icmp .ne 8, 3, []), none, none, some (.ldc 133, 2, [1, 12]), none, some (.goto 5, 3, []), none, none, some (.ldc 135, 2, [1, 13]), none, some (.invokevirtual 137, 3, [0, 1, 1, 99]), none, none, some (.aload_n 0, 1, []), some (.getfield 14, 3, [0, 0, 0]), none, none, some (.invokevirtual 119, 3, [0, 0, 1, 22]), none, none, some (.ireturn, 1, [])]
/-- TwoWayGrammar$Text.appendAll(Ljava/lang/String;)V -/
def sb_99 : List (Option sm_I) := [some (.iconst 0, 1, []), some (.istore_n 2, 1, []), some (.iload_n 2, 1, []), some (.aload_n 1, 1, []), some (.invokevirtual 23, 3, [0, 0, 17, 27]), none, none, some (.if_icmp .ge 19, 3, []), none, none, some (.aload_n 0, 1, []), some (.aload_n 1, 1, []), some (.iload_n 2, 1, []), some (.invokevirtual 28, 3, [0, 1, 17, 29]), none, none, some (.invokevirtual 32, 3, [0, 1, 1, 91]), none, none, some (.pop, 1, []), some (.iinc 2 1, 3, []), none, none, some (.goto (-21), 3, []), none, none, some (.return_, 1, [])]
/-- TwoWayGrammar.rule(II)J -/
def sb_100 : List (Option sm_I) := [some (.aload_n 0, 1, []), some (.getfield 144, 3, [14, 0, 0]), none, none, some (.ifCond .ne 13, 3, []), none, none, some (.new 157, 3, [1000, 14]), none, none, some (.dup, 1, []), some (.ldc 159, 2, [1, 14]), none, none, none, none, none, some (.iload_n 1, 1, []), some (.ifCond .lt 14, 3, []), none, none, some (.iload_n 1, 1, []), some (.aload_n 0, 1, []), some (.getfield 30, 3, [4, 0, 0]), none, none, some (.getfield 162, 3, [0, 0, 2]), none, none, some (.if_icmp .lt 13, 3, []), none, none, some (.new 104, 3, [1000, 12]), none, none, some (.dup, 1, []), some (.ldc 166, 2, [1, 15]), none, none, none, none, none, some (.iload_n 2, 1, []), some (.tableswitch 93 0 3 #[29, 41, 53, 66], 29, []), none, none, none, none, none, none, none, none, none, none, none, none, none, none, none, none, none, none, none, none, none, none, none, none, none, none, none, none, some (.aload_n 0, 1, []), some (.getfield 53, 3, [6, 0, 0]), none, none, some (.getfield 168, 3, [2, 0, 5]), none, none, some (.iload_n 1, 1, []), some (.invokestatic 172, 3, [0, 72, 2]), none, none, some (.lreturn, 1, []), some (.aload_n 0, 1, []), some (.getfield 53, 3, [6, 0, 0]), none, none, some (.getfield 176, 3, [3, 0, 5]), none, none, some (.iload_n 1, 1, []), some (.invokestatic 172, 3, [0, 72, 2]), none, none, some (.lreturn, 1, []), some (.aload_n 0, 1, []), some (.getfield 53, 3, [6, 0, 0]), none, none, some (.getfield 179, 3, [1, 0, 5]), none, none, some (.iload_n 1, 1, []), some (.invokestatic 183, 3, [0, 49, 2]), none, none, some (.i2l, 1, []), some (.lreturn, 1, []), some (.aload_n 0, 1, []), some (.getfield 53, 3, [6, 0, 0]), none, none, some (.iload_n 1, 1, []), some (.invokevirtual 186, 3, [0, 1, 5, 85]), none, none, some (.ifCond .eq 15, 3, []), none, none, some (.aload_n 0, 1, []), some (.getfield 53, 3, [6, 0, 0]), none, none, some (.iload_n 1, 1, []), some (.invokevirtual 190, 3, [0, 1, 5, 101]), none, none, some (.i2l, 1, []), some (.goto 6, 3, []), none, none, some (.ldc2_w 194, 3, [18446744073709551615]), none, none, some (.lreturn, 1, []), some (.new 126, 3, [1000, 13]), none, none, some (.dup, 1, []), some (.ldc 196, 2, [1, 16]), none, none, none, none, none]
/-- TwoWayGrammar$Sets.ruleHeight(I)I -/
def sb_101 : List (Option sm_I) := [some (.aload_n 0, 1, []), some (.getfield 22, 3, [4, 0, 5]), none, none, some (.iload_n 1, 1, []), some (.invokestatic 78, 3, [0, 49, 2]), none, none, some (.iconst 1, 1, []), some (.iadd, 1, []), some (.ireturn, 1, [])]
/-- TwoWayGrammar.parse()I -/
def sb_102 : List (Option sm_I) := [some (.aload_n 0, 1, []), some (.getfield 154, 3, [15, 0, 0]), none, none, some (.ifCond .ne 13, 3, []), none, none, some (.new 157, 3, [1000, 14]), none, none, some (.dup, 1, []), some (.ldc 198, 2, [1, 17]), none, none, none, none, none, some (.aload_n 0, 1, []), some (.getfield 84, 3, [11, 0, 0]), none, none, some (.invokevirtual 200, 3, [0, 0, 8, 103]), none, none, some (.aload_n 0, 1, []), some (.getfield 84, 3, [11, 0, 0]), none, none, some (.getfield 203, 3, [4, 0, 8, 9, 10]), none, none, some (.ifCond .eq 13, 3, []), none, none, some (.new 206, 3, [1000, 15]), none, none, some (.dup, 1, []), some (.ldc 208, 2, [1, 18]), none, none, none, none, none, some (.aload_n 0, 1, []), some (.getfield 84, 3, [11, 0, 0]), none, none, some (.getfield 211, 3, [11, 0, 8]), none, none, some (.iconst (-1), 1, []), some (.if_icmp .eq 13, 3, []), none, none, some (.iconst (-1), 1, []), some (.aload_n 0, 1, []), some (.getfield 84, 3, [11, 0, 0]), none, none, some (.getfield 211, 3, [11, 0, 8]), none, none, some (.isub, 1, []), some (.ireturn, 1, []), some (.aload_n 0, 1, []), some (.getfield 69, 3, [8, 0, 0]), none, none, some (.aload_n 0, 1, []), some (.getfield 76, 3, [10, 0, 0]), none, none, some (.invokevirtual 214, 3, [0, 1, 7, 93]), none, none, some (.aload_n 0, 1, []), some (.getfield 69, 3, [8, 0, 0]), none, none, some (.getfield 218, 3, [0, 0, 7]), none, none, some (.ireturn, 1, [])]
/-- TwoWayGrammar$Walk.walk()V -/
def sb_103 : List (Option sm_I) := [some (.aload_n 0, 1, []), some (.iconst 0, 1, []), some (.putfield 52, 3, [3, 3, 0, 8, 9, 10]), none, none, some (.aload_n 0, 1, []), some (.iconst 0, 1, []), some (.putfield 56, 3, [4, 3, 0, 8, 9, 10]), none, none, some (.aload_n 0, 1, []), some (.iconst 0, 1, []), some (.putfield 59, 3, [5, 0, 0, 8, 9, 10]), none, none, some (.aload_n 0, 1, []), none, none, none, some (.aload_n 0, 1, []), some (.getfield 52, 3, [3, 0, 8, 9, 10]), none, none, some (.ifCond .ne 9, 3, []), none, none, some (.aload_n 0, 1, []), some (.iconst 0, 1, []), some (.iconst 0, 1, []), none, none, none, some (.aload_n 0, 1, []), some (.getfield 52, 3, [3, 0, 8, 9, 10]), none, none, some (.ifCond .ne 7, 3, []), none, none, some (.aload_n 0, 1, []), some (.invokevirtual 68, 3, [0, 0, 9, 157, 8, 156, 10, 157]), none, none, some (.return_, 1, [])]
/-- TwoWayGrammar$Growing.begin()V -/
def sb_104 : List (Option sm_I) := [some (.aload_n 0, 1, []), some (.getfield 19, 3, [2, 0, 8, 9, 10]), none, none, some (.invokevirtual 23, 3, [0, 0, 7, 13]), none, none, some (.return_, 1, [])]
/-- TwoWayGrammar$Parsing.begin()V -/
def sb_105 : List (Option sm_I) := [some (.aload_n 0, 1, []), some (.getfield 15, 3, [2, 0, 8, 9, 10]), none, none, some (.invokevirtual 19, 3, [0, 0, 7, 13]), none, none, some (.aload_n 0, 1, []), some (.iconst (-1), 1, []), some (.putfield 25, 3, [11, 0, 0, 8]), none, none, some (.aload_n 0, 1, []), some (.iconst 0, 1, []), some (.putfield 29, 3, [7, 0, 0, 8]), none, none, some (.aload_n 0, 1, []), some (.invokevirtual 32, 3, [0, 0, 8, 106]), none, none, some (.return_, 1, [])]
/-- TwoWayGrammar$Parsing.takeToken()V -/
def sb_106 : List (Option sm_I) := [some (.aload_n 0, 1, []), some (.aload_n 0, 1, []), some (.getfield 9, 3, [6, 0, 8]), none, none, some (.aload_n 0, 1, []), some (.getfield 29, 3, [7, 0, 8]), none, none, some (.invokevirtual 48, 3, [0, 1, 1, 19]), none, none, some (.putfield 41, 3, [8, 0, 0, 8]), none, none, some (.aload_n 0, 1, []), some (.getfield 9, 3, [6, 0, 8]), none, none, some (.aload_n 0, 1, []), some (.getfield 41, 3, [8, 0, 8]), none, none, some (.invokevirtual 54, 3, [0, 1, 1, 20]), none, none, some (.istore_n 1, 1, []), some (.aload_n 0, 1, []), some (.getfield 41, 3, [8, 0, 8]), none, none, some (.aload_n 0, 1, []), some (.getfield 9, 3, [6, 0, 8]), none, none, some (.invokevirtual 58, 3, [0, 0, 1, 22]), none, none, some (.if_icmp .lt 19, 3, []), none, none, some (.aload_n 0, 1, []), some (.aload_n 0, 1, []), some (.getfield 41, 3, [8, 0, 8]), none, none, some (.putfield 29, 3, [7, 0, 0, 8]), none, none, some (.aload_n 0, 1, []), some (.iconst 0, 1, []), some (.putfield 35, 3, [9, 0, 0, 8]), none, none, some (.goto 54, 3, []), none, none, some (.iload_n 1, 1, []), some (.invokestatic 62, 3, [0, 37, 1]), none, none, some (.ifCond .eq 10, 3, []), none, none, some (.aload_n 0, 1, []), some (.invokevirtual 66, 3, [0, 0, 8, 107]), none, none, some (.goto 40, 3, []), none, none, some (.iload_n 1, 1, []), some (.invokestatic 69, 3, [0, 23, 1]), none, none, some (.ifCond .eq 10, 3, []), none, none, some (.aload_n 0, 1, []), some (.invokevirtual 72, 3, [0, 0, 8, 109]), none, none, some (.goto 26, 3, []), none, none, some (.aload_n 0, 1, []), some (.aload_n 0, 1, []), some (.getfield 41, 3, [8, 0, 8]), none, none, some (.iconst 1, 1, []), some (.iadd, 1, []), some (.putfield 29, 3, [7, 0, 0, 8]), none, none, some (.aload_n 0, 1, []), some (.aload_n 0, 1, []), some (.iconst (-1), 1, []), some (.iload_n 1, 1, []), some (.invokestatic 75, 3, [0, 38, 1]), none, none, some (.invokevirtual 79, 3, [0, 2, 8, 110]), none, none, some (.putfield 35, 3, [9, 0, 0, 8]), none, none, some (.aload_n 0, 1, []), some (.getfield 35, 3, [9, 0, 8]), none, none, some (.iconst (-1), 1, []), some (.if_icmp .ne 7, 3, []), none, none, some (.aload_n 0, 1, []), some (.invokevirtual 38, 3, [0, 0, 8, 111]), none, none, some (.return_, 1, [])]
/-- TwoWayGrammar$Parsing.takeNumber()V -/
def sb_107 : List (Option sm_I) := [some (.aload_n 0, 1, []), some (.aload_n 0, 1, []), some (.getfield 9, 3, [6, 0, 8]), none, none, some (.aload_n 0, 1, []), some (.getfield 41, 3, [8, 0, 8]), none, none, some (.invokevirtual 83, 3, [0, 1, 1, 108]), none, none, some (.putfield 29, 3, [7, 0, 0, 8]), none, none, some (.aload_n 0, 1, []), some (.aload_n 0, 1, []), some (.getfield 29, 3, [7, 0, 8]), none, none, some (.aload_n 0, 1, []), some (.getfield 41, 3, [8, 0, 8]), none, none, some (.isub, 1, []), some (.iconst 4, 1, []), some (.if_icmp .gt 7, 3, []), none, none, some (.iconst 1, 1, []), some (.goto 4, 3, []), none, none, some (.iconst (-1), 1, []), some (.putfield 35, 3, [9, 0, 0, 8]), none, none, some (.aload_n 0, 1, []), some (.iconst 0, 1, []), some (.putfield 86, 3, [10, 0, 0, 8]), none, none, some (.aload_n 0, 1, []), some (.getfield 41, 3, [8, 0, 8]), none, none, some (.istore_n 1, 1, []), some (.aload_n 0, 1, []), some (.getfield 35, 3, [9, 0, 8]), none, none, some (.iconst 1, 1, []), some (.if_icmp .ne 40, 3, []), none, none, some (.iload_n 1, 1, []), some (.aload_n 0, 1, []), some (.getfield 29, 3, [7, 0, 8]), none, none, some (.if_icmp .ge 32, 3, []), none, none, some (.aload_n 0, 1, []), some (.aload_n 0, 1, []), some (.getfield 86, 3, [10, 0, 8]), none, none, some (.bipush 10, 2, []), none, some (.imul, 1, []), some (.aload_n 0, 1, []), some (.getfield 9, 3, [6, 0, 8]), none, none, some (.iload_n 1, 1, []), some (.invokevirtual 54, 3, [0, 1, 1, 20]), none, none, some (.iadd, 1, []), some (.bipush 48, 2, []), none, some (.isub, 1, []), some (.putfield 86, 3, [10, 0, 0, 8]), none, none, some (.iinc 1 1, 3, []), none, none, some (.goto (-42), 3, []), none, none, some (.return_, 1, [])]
/-- TwoWayGrammar$Text.behindDigits(I)I -/
def sb_108 : List (Option sm_I) := [some (.iload_n 1, 1, []), some (.istore_n 2, 1, []), some (.iload_n 2, 1, []), some (.aload_n 0, 1, []), some (.getfield 19, 3, [1, 0, 1]), none, none, some (.if_icmp .ge 20, 3, []), none, none, some (.aload_n 0, 1, []), some (.iload_n 2, 1, []), some (.invokevirtual 40, 3, [0, 1, 1, 20]), none, none, some (.invokestatic 52, 3, [0, 37, 1]), none, none, some (.ifCond .eq 9, 3, []), none, none, some (.iinc 2 1, 3, []), none, none, some (.goto (-22), 3, []), none, none, some (.iload_n 2, 1, []), some (.ireturn, 1, [])]
/-- TwoWayGrammar$Parsing.takeWord()V -/
def sb_109 : List (Option sm_I) := [some (.aload_n 0, 1, []), some (.aload_n 0, 1, []), some (.getfield 9, 3, [6, 0, 8]), none, none, some (.aload_n 0, 1, []), some (.getfield 41, 3, [8, 0, 8]), none, none, some (.invokevirtual 89, 3, [0, 1, 1, 25]), none, none, some (.putfield 29, 3, [7, 0, 0, 8]), none, none, some (.aload_n 0, 1, []), some (.iconst (-1), 1, []), some (.putfield 35, 3, [9, 0, 0, 8]), none, none, some (.aload_n 0, 1, []), some (.getfield 29, 3, [7, 0, 8]), none, none, some (.aload_n 0, 1, []), some (.getfield 41, 3, [8, 0, 8]), none, none, some (.isub, 1, []), some (.bipush 6, 2, []), none, some (.if_icmp .gt 35, 3, []), none, none, some (.aload_n 0, 1, []), some (.aload_n 0, 1, []), some (.getfield 9, 3, [6, 0, 8]), none, none, some (.aload_n 0, 1, []), some (.getfield 41, 3, [8, 0, 8]), none, none, some (.aload_n 0, 1, []), some (.getfield 29, 3, [7, 0, 8]), none, none, some (.invokevirtual 92, 3, [0, 2, 1, 34]), none, none, some (.putfield 86, 3, [10, 0, 0, 8]), none, none, some (.aload_n 0, 1, []), some (.aload_n 0, 1, []), some (.iconst 2, 1, []), some (.aload_n 0, 1, []), some (.getfield 86, 3, [10, 0, 8]), none, none, some (.invokevirtual 79, 3, [0, 2, 8, 110]), none, none, some (.putfield 35, 3, [9, 0, 0, 8]), none, none, some (.return_, 1, [])]
/-- TwoWayGrammar$Parsing.literalOr(II)I -/
def sb_110 : List (Option sm_I) := [some (.aload_n 0, 1, []), some (.getfield 95, 3, [0, 0, 8, 9, 10]), none, none, some (.iload_n 2, 1, []), some (.invokevirtual 99, 3, [0, 1, 2, 58]), none, none, some (.istore_n 3, 1, []), some (.iload_n 3, 1, []), some (.iconst (-1), 1, []), some (.if_icmp .ne 7, 3, []), none, none, some (.iload_n 1, 1, []), some (.goto 6, 3, []), none, none, some (.iconst 3, 1, []), some (.iload_n 3, 1, []), some (.iadd, 1, []), some (.ireturn, 1, [])]
/-- TwoWayGrammar$Parsing.blame()V -/
def sb_111 : List (Option sm_I) := [some (.aload_n 0, 1, []), some (.aload_n 0, 1, []), some (.getfield 41, 3, [8, 0, 8]), none, none, some (.putfield 25, 3, [11, 0, 0, 8]), none, none, some (.aload_n 0, 1, []), some (.iconst 1, 1, []), some (.putfield 44, 3, [3, 3, 0, 8, 9, 10]), none, none, some (.return_, 1, [])]
/-- TwoWayGrammar$Printing.begin()V -/
def sb_112 : List (Option sm_I) := [some (.aload_n 0, 1, []), some (.getfield 9, 3, [6, 0, 10]), none, none, some (.invokevirtual 15, 3, [0, 0, 1, 90]), none, none, some (.aload_n 0, 1, []), some (.iconst 0, 1, []), some (.putfield 21, 3, [7, 0, 0, 10]), none, none, some (.aload_n 0, 1, []), some (.iconst 0, 1, []), some (.putfield 25, 3, [8, 0, 0, 10]), none, none, some (.aload_n 0, 1, []), some (.iconst 0, 1, []), some (.putfield 28, 3, [9, 3, 0, 10]), none, none, some (.aload_n 0, 1, []), some (.iconst 0, 1, []), some (.putfield 32, 3, [10, 3, 0, 10]), none, none, some (.aload_n 0, 1, []), some (.iconst 0, 1, []), some (.putfield 35, 3, [11, 3, 0, 10]), none, none, some (.aload_n 0, 1, []), some (.iconst 0, 1, []), some (.putfield 38, 3, [12, 3, 0, 10]), none, none, some (.return_, 1, [])]
/-- TwoWayGrammar$Walk.walkUse(II)V -/
def sb_113 : List (Option sm_I) := [some (.aload_n 0, 1, []), some (.getfield 59, 3, [5, 0, 8, 9, 10]), none, none, some (.bipush 12, 2, []), none, some (.if_icmp .lt 8, 3, []), none, none, some (.aload_n 0, 1, []), some (.invokevirtual 37, 3, [0, 0, 9, 114, 8, 114, 10, 114]), none, none, some (.return_, 1, []), some (.aload_n 0, 1, []), some (.iconst 1, 1, []), some (.iload_n 1, 1, []), some (.invokevirtual 71, 3, [0, 2, 9, 116, 8, 116, 10, 115]), none, none, some (.istore_n 3, 1, []), some (.aload_n 0, 1, []), some (.dup, 1, []), some (.getfield 59, 3, [5, 0, 8, 9, 10]), none, none, some (.iconst 1, 1, []), some (.iadd, 1, []), some (.putfield 59, 3, [5, 0, 0, 8, 9, 10]), none, none, some (.aload_n 0, 1, []), some (.invokevirtual 74, 3, [0, 0, 9, 118, 8, 119, 10, 119]), none, none, some (.aload_n 0, 1, []), some (.iload_n 1, 1, []), some (.iload_n 2, 1, []), none, none, none, some (.aload_n 0, 1, []), some (.dup, 1, []), some (.getfield 59, 3, [5, 0, 8, 9, 10]), none, none, some (.iconst 1, 1, []), some (.isub, 1, []), some (.putfield 59, 3, [5, 0, 0, 8, 9, 10]), none, none, some (.aload_n 0, 1, []), some (.iload_n 3, 1, []), some (.invokevirtual 80, 3, [0, 1, 9, 147, 8, 147, 10, 146]), none, none, some (.return_, 1, [])]
/-- TwoWayGrammar$Walk.passLimit()V -/
def sb_114 : List (Option sm_I) := [some (.aload_n 0, 1, []), some (.iconst 1, 1, []), some (.putfield 56, 3, [4, 3, 0, 8, 9, 10]), none, none, some (.aload_n 0, 1, []), some (.iconst 1, 1, []), some (.putfield 52, 3, [3, 3, 0, 8, 9, 10]), none, none, some (.return_, 1, [])]
/-- TwoWayGrammar$Printing.enter(II)I -/
def sb_115 : List (Option sm_I) := [some (.aload_n 0, 1, []), some (.dup, 1, []), some (.getfield 21, 3, [7, 0, 10]), none, none, some (.iconst 1, 1, []), some (.iadd, 1, []), some (.putfield 21, 3, [7, 0, 0, 10]), none, none, some (.aload_n 0, 1, []), some (.getfield 21, 3, [7, 0, 10]), none, none, some (.iconst 1, 1, []), some (.isub, 1, []), some (.ireturn, 1, [])]
/-- TwoWayGrammar$Walk.enter(II)I -/
def sb_116 : List (Option sm_I) := [some (.aload_n 0, 1, []), some (.getfield 19, 3, [2, 0, 8, 9, 10]), none, none, some (.iload_n 1, 1, []), some (.iload_n 2, 1, []), some (.invokevirtual 33, 3, [0, 2, 7, 117]), none, none, some (.istore_n 3, 1, []), some (.iload_n 3, 1, []), some (.iconst (-1), 1, []), some (.if_icmp .ne 7, 3, []), none, none, some (.aload_n 0, 1, []), some (.invokevirtual 37, 3, [0, 0, 9, 114, 8, 114, 10, 114]), none, none, some (.iload_n 3, 1, []), some (.ireturn, 1, [])]
/-- TwoWayGrammar$Tree.add(II)I -/
def sb_117 : List (Option sm_I) := [some (.aload_n 0, 1, []), some (.getfield 21, 3, [0, 0, 7]), none, none, some (.bipush 100, 2, []), none, some (.if_icmp .lt 5, 3, []), none, none, some (.iconst (-1), 1, []), some (.ireturn, 1, []), some (.aload_n 0, 1, []), some (.getfield 9, 3, [1, 0, 7]), none, none, some (.aload_n 0, 1, []), some (.getfield 21, 3, [0, 0, 7]), none, none, some (.iload_n 1, 1, []), some (.invokestatic 25, 3, [0, 16, 3]), none, none, some (.aload_n 0, 1, []), some (.getfield 15, 3, [2, 0, 7]), none, none, some (.aload_n 0, 1, []), some (.getfield 21, 3, [0, 0, 7]), none, none, some (.iload_n 2, 1, []), some (.invokestatic 25, 3, [0, 16, 3]), none, none, some (.aload_n 0, 1, []), some (.getfield 18, 3, [3, 0, 7]), none, none, some (.aload_n 0, 1, []), some (.getfield 21, 3, [0, 0, 7]), none, none, some (.iconst 0, 1, []), some (.invokestatic 25, 3, [0, 16, 3]), none, none, some (.aload_n 0, 1, []), some (.dup, 1, []), some (.getfield 21, 3, [0, 0, 7]), none, none, some (.iconst 1, 1, []), some (.iadd, 1, []), some (.putfield 21, 3, [0, 0, 0, 7]), none, none, some (.aload_n 0, 1, []), some (.getfield 21, 3, [0, 0, 7]), none, none, some (.iconst 1, 1, []), some (.isub, 1, []), some (.ireturn, 1, [])]
/-- TwoWayGrammar$Growing.useBegins()V -/
def sb_118 : List (Option sm_I) := [some (.aload_n 0, 1, []), some (.dup, 1, []), some (.getfield 15, 3, [7, 0, 9]), none, none, some (.iconst 1, 1, []), some (.isub, 1, []), some (.putfield 15, 3, [7, 0, 0, 9]), none, none, some (.return_, 1, [])]
/-- TwoWayGrammar$Walk.useBegins()V -/
def sb_119 : List (Option sm_I) := [some (.return_, 1, [])]
/-- TwoWayGrammar$Walk.walkForm(II)V -/
def sb_120 : List (Option sm_I) := [some (.aload_n 0, 1, []), some (.getfield 52, 3, [3, 0, 8, 9, 10]), none, none, some (.ifCond .ne 9, 3, []), none, none, some (.iload_n 2, 1, []), some (.bipush 60, 2, []), none, some (.if_icmp .lt 9, 3, []), none, none, some (.aload_n 0, 1, []), some (.iconst 1, 1, []), some (.putfield 52, 3, [3, 3, 0, 8, 9, 10]), none, none, some (.return_, 1, []), some (.aload_n 0, 1, []), some (.getfield 9, 3, [0, 0, 8, 9, 10]), none, none, some (.getfield 83, 3, [4, 0, 2]), none, none, some (.iload_n 1, 1, []), some (.invokestatic 29, 3, [0, 49, 2]), none, none, some (.iconst 1, 1, []), some (.if_icmp .le 7, 3, []), none, none, some (.iconst 1, 1, []), some (.goto 4, 3, []), none, none, some (.iconst 0, 1, []), some (.istore_n 3, 1, []), some (.iload_n 3, 1, []), some (.ifCond .eq 11, 3, []), none, none, some (.aload_n 0, 1, []), some (.iload_n 1, 1, []), none, none, none, some (.goto 4, 3, []), none, none, some (.iconst 0, 1, []), some (.istore 4, 2, []), none, some (.iload_n 3, 1, []), some (.ifCond .eq 20, 3, []), none, none, some (.aload_n 0, 1, []), some (.getfield 52, 3, [3, 0, 8, 9, 10]), none, none, some (.ifCond .ne 13, 3, []), none, none, some (.aload_n 0, 1, []), some (.iconst 4, 1, []), some (.iload 4, 2, []), none, some (.invokevirtual 71, 3, [0, 2, 9, 116, 8, 116, 10, 115]), none, none, some (.goto 4, 3, []), none, none, some (.iconst (-1), 1, []), some (.istore 5, 2, []), none, some (.aload_n 0, 1, []), some (.getfield 9, 3, [0, 0, 8, 9, 10]), none, none, some (.getfield 92, 3, [7, 0, 2]), none, none, some (.aload_n 0, 1, []), some (.getfield 9, 3, [0, 0, 8, 9, 10]), none, none, some (.iload_n 1, 1, []), some (.iload 4, 2, []), none, some (.invokevirtual 95, 3, [0, 2, 2, 127]), none, none, some (.invokestatic 29, 3, [0, 49, 2]), none, none, some (.istore 6, 2, []), none, some (.iconst 0, 1, []), some (.istore 7, 2, []), none, some (.aload_n 0, 1, []), some (.getfield 52, 3, [3, 0, 8, 9, 10]), none, none, some (.ifCond .ne 118, 3, []), none, none, some (.iload 6, 2, []), none, some (.iconst (-1), 1, []), some (.if_icmp .eq 112, 3, []), none, none, some (.iload 7, 2, []), none, some (.bipush 60, 2, []), none, some (.if_icmp .ge 105, 3, []), none, none, some (.iload 6, 2, []), none, some (.istore 8, 2, []), none, some (.aload_n 0, 1, []), some (.getfield 9, 3, [0, 0, 8, 9, 10]), none, none, some (.getfield 98, 3, [17, 0, 2]), none, none, some (.iload 6, 2, []), none, some (.invokestatic 29, 3, [0, 49, 2]), none, none, some (.iconst 1, 1, []), some (.if_icmp .ne 58, 3, []), none, none, some (.aload_n 0, 1, []), some (.getfield 9, 3, [0, 0, 8, 9, 10]), none, none, some (.getfield 101, 3, [14, 0, 2]), none, none, some (.iload 6, 2, []), none, some (.invokestatic 29, 3, [0, 49, 2]), none, none, some (.istore 8, 2, []), none, some (.aload_n 0, 1, []), some (.iload 8, 2, []), none, some (.invokevirtual 104, 3, [0, 1, 9, 130, 8, 130, 10, 128]), none, none, some (.istore 9, 2, []), none, some (.aload_n 0, 1, []), some (.iload 6, 2, []), none, some (.iload_n 2, 1, []), none, none, none, some (.aload_n 0, 1, []), some (.iload 9, 2, []), none, some (.invokevirtual 110, 3, [0, 1, 9, 150, 8, 150, 10, 149]), none, none, some (.istore 10, 2, []), none, some (.aload_n 0, 1, []), some (.iload 8, 2, []), none, some (.iload_n 2, 1, []), none, none, none, some (.aload_n 0, 1, []), some (.iload 9, 2, []), none, some (.iload 10, 2, []), none, some (.invokevirtual 113, 3, [0, 2, 9, 152, 8, 152, 10, 151]), none, none, some (.goto 10, 3, []), none, none, some (.aload_n 0, 1, []), some (.iload 6, 2, []), none, some (.iload_n 2, 1, []), none, none, none, some (.aload_n 0, 1, []), some (.getfield 9, 3, [0, 0, 8, 9, 10]), none, none, some (.getfield 101, 3, [14, 0, 2]), none, none, some (.iload 8, 2, []), none, some (.invokestatic 29, 3, [0, 49, 2]), none, none, some (.istore 6, 2, []), none, some (.iinc 7 1, 3, []), none, none, some (.goto (-119), 3, []), none, none, some (.iload 5, 2, []), none, some (.iconst (-1), 1, []), some (.if_icmp .eq 9, 3, []), none, none, some (.aload_n 0, 1, []), some (.iload 5, 2, []), none, some (.invokevirtual 80, 3, [0, 1, 9, 147, 8, 147, 10, 146]), none, none, some (.return_, 1, [])]
/-- TwoWayGrammar$Growing.chosen(I)I -/
def sb_121 : List (Option sm_I) := [some (.aload_n 0, 1, []), some (.getfield 15, 3, [7, 0, 9]), none, none, some (.ifCond .ge 11, 3, []), none, none, some (.aload_n 0, 1, []), some (.iload_n 1, 1, []), some (.invokevirtual 33, 3, [0, 1, 9, 122]), none, none, some (.goto 18, 3, []), none, none, some (.aload_n 0, 1, []), some (.aload_n 0, 1, []), some (.getfield 37, 3, [0, 0, 8, 9, 10]), none, none, some (.getfield 41, 3, [4, 0, 2]), none, none, some (.iload_n 1, 1, []), some (.invokestatic 47, 3, [0, 49, 2]), none, none, some (.invokevirtual 51, 3, [0, 1, 9, 123]), none, none, some (.ireturn, 1, [])]
/-- TwoWayGrammar$Growing.lowest(I)I -/
def sb_122 : List (Option sm_I) := [some (.iconst 0, 1, []), some (.istore_n 2, 1, []), some (.sipush 1000, 3, []), none, none, some (.istore_n 3, 1, []), some (.aload_n 0, 1, []), some (.getfield 37, 3, [0, 0, 8, 9, 10]), none, none, some (.getfield 54, 3, [3, 0, 2]), none, none, some (.iload_n 1, 1, []), some (.invokestatic 47, 3, [0, 49, 2]), none, none, some (.istore 4, 2, []), none, some (.iconst 0, 1, []), some (.istore 5, 2, []), none, some (.iload 5, 2, []), none, some (.aload_n 0, 1, []), some (.getfield 37, 3, [0, 0, 8, 9, 10]), none, none, some (.getfield 41, 3, [4, 0, 2]), none, none, some (.iload_n 1, 1, []), some (.invokestatic 47, 3, [0, 49, 2]), none, none, some (.if_icmp .ge 62, 3, []), none, none, some (.iload 5, 2, []), none, some (.bipush 6, 2, []), none, some (.if_icmp .ge 55, 3, []), none, none, some (.aload_n 0, 1, []), some (.getfield 57, 3, [1, 0, 8, 9, 10]), none, none, some (.getfield 61, 3, [9, 0, 5]), none, none, some (.iload 4, 2, []), none, some (.invokestatic 47, 3, [0, 49, 2]), none, none, some (.iload_n 3, 1, []), some (.if_icmp .ge 19, 3, []), none, none, some (.iload 5, 2, []), none, some (.istore_n 2, 1, []), some (.aload_n 0, 1, []), some (.getfield 57, 3, [1, 0, 8, 9, 10]), none, none, some (.getfield 61, 3, [9, 0, 5]), none, none, some (.iload 4, 2, []), none, some (.invokestatic 47, 3, [0, 49, 2]), none, none, some (.istore_n 3, 1, []), some (.aload_n 0, 1, []), some (.getfield 37, 3, [0, 0, 8, 9, 10]), none, none, some (.getfield 66, 3, [8, 0, 2]), none, none, some (.iload 4, 2, []), none, some (.invokestatic 47, 3, [0, 49, 2]), none, none, some (.istore 4, 2, []), none, some (.iinc 5 1, 3, []), none, none, some (.goto (-72), 3, []), none, none, some (.iload_n 2, 1, []), some (.ireturn, 1, [])]
/-- TwoWayGrammar$Growing.draw(I)I -/
def sb_123 : List (Option sm_I) := [some (.aload_n 0, 1, []), some (.aload_n 0, 1, []), some (.getfield 9, 3, [6, 0, 9]), none, none, some (.ldc2_w 29, 3, [6364136223846793005]), none, none, some (.lmul, 1, []), some (.ldc2_w 31, 3, [1442695040888963407]), none, none, some (.ladd, 1, []), some (.putfield 9, 3, [6, 1, 0, 9]), none, none, some (.iload_n 1, 1, []), some (.ifCond .le 17, 3, []), none, none, some (.aload_n 0, 1, []), some (.getfield 9, 3, [6, 0, 9]), none, none, some (.bipush 33, 2, []), none, some (.lushr, 1, []), some (.iload_n 1, 1, []), some (.i2l, 1, []), some (.lrem, 1, []), some (.l2i, 1, []), some (.goto 4, 3, []), none, none, some (.iconst 0, 1, []), some (.ireturn, 1, [])]
/-- TwoWayGrammar$Parsing.chosen(I)I -/
def sb_124 : List (Option sm_I) := [some (.aload_n 0, 1, []), some (.getfield 95, 3, [0, 0, 8, 9, 10]), none, none, some (.getfield 104, 3, [3, 0, 2]), none, none, some (.iload_n 1, 1, []), some (.invokestatic 108, 3, [0, 49, 2]), none, none, some (.istore_n 2, 1, []), some (.iconst 0, 1, []), some (.istore_n 3, 1, []), some (.iload_n 3, 1, []), some (.aload_n 0, 1, []), some (.getfield 95, 3, [0, 0, 8, 9, 10]), none, none, some (.getfield 111, 3, [4, 0, 2]), none, none, some (.iload_n 1, 1, []), some (.invokestatic 108, 3, [0, 49, 2]), none, none, some (.if_icmp .ge 47, 3, []), none, none, some (.iload_n 3, 1, []), some (.bipush 6, 2, []), none, some (.if_icmp .ge 41, 3, []), none, none, some (.aload_n 0, 1, []), some (.aload_n 0, 1, []), some (.getfield 114, 3, [1, 0, 8, 9, 10]), none, none, some (.getfield 118, 3, [10, 0, 5]), none, none, some (.iload_n 2, 1, []), some (.invokestatic 124, 3, [0, 72, 2]), none, none, some (.invokevirtual 127, 3, [0, 1, 8, 125]), none, none, some (.ifCond .eq 5, 3, []), none, none, some (.iload_n 3, 1, []), some (.ireturn, 1, []), some (.aload_n 0, 1, []), some (.getfield 95, 3, [0, 0, 8, 9, 10]), none, none, some (.getfield 131, 3, [8, 0, 2]), none, none, some (.iload_n 2, 1, []), some (.invokestatic 108, 3, [0, 49, 2]), none, none, some (.istore_n 2, 1, []), some (.iinc 3 1, 3, []), none, none, some (.goto (-56), 3, []), none, none, some (.aload_n 0, 1, []), some (.invokevirtual 38, 3, [0, 0, 8, 111]), none, none, some (.iconst 0, 1, []), some (.ireturn, 1, [])]
/-- TwoWayGrammar$Parsing.isNextIn(J)Z -/
def sb_125 : List (Option sm_I) := [some (.aload_n 0, 1, []), some (.getfield 35, 3, [9, 0, 8]), none, none, some (.ifCond .lt 20, 3, []), none, none, some (.lload_n 1, 1, []), some (.aload_n 0, 1, []), some (.getfield 35, 3, [9, 0, 8]), none, none, some (.lushr, 1, []), some (.lconst 1, 1, []), some (.land, 1, []), some (.lconst 0, 1, []), some (.lcmp, 1, []), some (.ifCond .eq 7, 3, []), none, none, some (.iconst 1, 1, []), some (.goto 4, 3, []), none, none, some (.iconst 0, 1, []), some (.ireturn, 1, [])]
/-- TwoWayGrammar$Printing.chosen(I)I -/
def sb_126 : List (Option sm_I) := [some (.aload_n 0, 1, []), some (.getfield 41, 3, [2, 0, 8, 9, 10]), none, none, some (.getfield 65, 3, [2, 0, 7]), none, none, some (.aload_n 0, 1, []), some (.getfield 21, 3, [7, 0, 10]), none, none, some (.invokestatic 55, 3, [0, 49, 2]), none, none, some (.ireturn, 1, [])]
end
section
/-- TwoWayGrammar$Grammar.alternativeOf(II)I -/
def sb_127 : List (Option sm_I) := [some (.aload_n 0, 1, []), some (.getfield 18, 3, [3, 0, 2]), none, none, some (.iload_n 1, 1, []), some (.invokestatic 77, 3, [0, 49, 2]), none, none, some (.istore_n 3, 1, []), some (.iconst 0, 1, []), some (.istore 4, 2, []), none, some (.iload 4, 2, []), none, some (.iload_n 2, 1, []), some (.if_icmp .ge 25, 3, []), none, none, some (.iload 4, 2, []), none, some (.bipush 6, 2, []), none, some (.if_icmp .ge 18, 3, []), none, none, some (.aload_n 0, 1, []), some (.getfield 27, 3, [8, 0, 2]), none, none, some (.iload_n 3, 1, []), some (.invokestatic 77, 3, [0, 49, 2]), none, none, some (.istore_n 3, 1, []), some (.iinc 4 1, 3, []), none, none, some (.goto (-25), 3, []), none, none, some (.iload_n 3, 1, []), some (.ireturn, 1, [])]
/-- TwoWayGrammar$Printing.pairBegins(I)I -/
def sb_128 : List (Option sm_I) := [some (.aload_n 0, 1, []), some (.getfield 21, 3, [7, 0, 10]), none, none, some (.istore_n 2, 1, []), some (.aload_n 0, 1, []), some (.aload_n 0, 1, []), some (.getfield 41, 3, [2, 0, 8, 9, 10]), none, none, some (.iload_n 2, 1, []), some (.aload_n 0, 1, []), some (.getfield 45, 3, [1, 0, 8, 9, 10]), none, none, some (.getfield 49, 3, [14, 0, 5]), none, none, some (.iload_n 1, 1, []), some (.invokestatic 55, 3, [0, 49, 2]), none, none, some (.invokevirtual 59, 3, [0, 2, 7, 129]), none, none, some (.putfield 21, 3, [7, 0, 0, 10]), none, none, some (.iload_n 2, 1, []), some (.ireturn, 1, [])]
/-- TwoWayGrammar$Tree.behind(II)I -/
def sb_129 : List (Option sm_I) := [some (.iload_n 1, 1, []), some (.istore_n 3, 1, []), some (.iconst 0, 1, []), some (.istore 4, 2, []), none, some (.iload 4, 2, []), none, some (.iload_n 2, 1, []), some (.if_icmp .ge 30, 3, []), none, none, some (.iload_n 3, 1, []), some (.aload_n 0, 1, []), some (.getfield 21, 3, [0, 0, 7]), none, none, some (.if_icmp .ge 22, 3, []), none, none, some (.iload_n 3, 1, []), some (.iconst 1, 1, []), some (.aload_n 0, 1, []), some (.getfield 18, 3, [3, 0, 7]), none, none, some (.iload_n 3, 1, []), some (.invokestatic 29, 3, [0, 49, 2]), none, none, some (.iadd, 1, []), some (.iadd, 1, []), some (.istore_n 3, 1, []), some (.iinc 4 1, 3, []), none, none, some (.goto (-30), 3, []), none, none, some (.iload_n 3, 1, []), some (.ireturn, 1, [])]
/-- TwoWayGrammar$Walk.pairBegins(I)I -/
def sb_130 : List (Option sm_I) := [some (.aload_n 0, 1, []), some (.getfield 19, 3, [2, 0, 8, 9, 10]), none, none, some (.getfield 44, 3, [0, 0, 7]), none, none, some (.ireturn, 1, [])]
/-- TwoWayGrammar$Walk.walkUnit(II)V -/
def sb_131 : List (Option sm_I) := [some (.aload_n 0, 1, []), some (.getfield 9, 3, [0, 0, 8, 9, 10]), none, none, some (.getfield 116, 3, [15, 0, 2]), none, none, some (.iload_n 1, 1, []), some (.invokestatic 29, 3, [0, 49, 2]), none, none, some (.istore_n 3, 1, []), some (.aload_n 0, 1, []), some (.getfield 52, 3, [3, 0, 8, 9, 10]), none, none, some (.ifCond .eq 4, 3, []), none, none, some (.return_, 1, []), some (.iload_n 3, 1, []), some (.ifCond .ne 10, 3, []), none, none, some (.aload_n 0, 1, []), some (.iload_n 1, 1, []), some (.iload_n 2, 1, []), none, none, none, some (.return_, 1, []), some (.aload_n 0, 1, []), some (.iload_n 3, 1, []), some (.aload_n 0, 1, []), some (.iload_n 3, 1, []), some (.invokevirtual 122, 3, [0, 1, 9, 142, 8, 143, 10, 143]), none, none, some (.invokevirtual 71, 3, [0, 2, 9, 116, 8, 116, 10, 115]), none, none, some (.istore 4, 2, []), none, some (.iload_n 3, 1, []), some (.iconst 5, 1, []), some (.if_icmp .ne 9, 3, []), none, none, some (.sipush 161, 3, []), none, none, some (.goto 4, 3, []), none, none, some (.iconst 1, 1, []), some (.istore 5, 2, []), none, some (.iconst 0, 1, []), some (.istore 6, 2, []), none, some (.aload_n 0, 1, []), some (.getfield 52, 3, [3, 0, 8, 9, 10]), none, none, some (.ifCond .ne 34, 3, []), none, none, some (.iload 6, 2, []), none, some (.iload 5, 2, []), none, some (.if_icmp .ge 27, 3, []), none, none, some (.aload_n 0, 1, []), some (.iload_n 1, 1, []), some (.iload 4, 2, []), none, some (.iload 6, 2, []), none, some (.invokevirtual 125, 3, [0, 3, 9, 145, 8, 144, 10, 145]), none, none, some (.ifCond .eq 15, 3, []), none, none, some (.aload_n 0, 1, []), some (.iload_n 1, 1, []), some (.iload_n 2, 1, []), none, none, none, some (.iinc 6 1, 3, []), none, none, some (.goto (-35), 3, []), none, none, some (.aload_n 0, 1, []), some (.iload 4, 2, []), none, some (.invokevirtual 80, 3, [0, 1, 9, 147, 8, 147, 10, 146]), none, none, some (.return_, 1, [])]
/-- TwoWayGrammar$Walk.walkPart(II)V -/
def sb_132 : List (Option sm_I) := [some (.aload_n 0, 1, []), some (.getfield 9, 3, [0, 0, 8, 9, 10]), none, none, some (.getfield 129, 3, [11, 0, 2]), none, none, some (.iload_n 1, 1, []), some (.invokestatic 29, 3, [0, 49, 2]), none, none, some (.istore_n 3, 1, []), some (.iload_n 3, 1, []), some (.bipush 9, 2, []), none, some (.if_icmp .ne 24, 3, []), none, none, some (.aload_n 0, 1, []), some (.aload_n 0, 1, []), some (.getfield 9, 3, [0, 0, 8, 9, 10]), none, none, some (.getfield 132, 3, [12, 0, 2]), none, none, some (.iload_n 1, 1, []), some (.invokestatic 29, 3, [0, 49, 2]), none, none, some (.iload_n 2, 1, []), some (.iconst 1, 1, []), some (.iadd, 1, []), none, none, none, some (.goto 35, 3, []), none, none, some (.iload_n 3, 1, []), some (.bipush 10, 2, []), none, some (.if_icmp .ne 24, 3, []), none, none, some (.aload_n 0, 1, []), some (.aload_n 0, 1, []), some (.getfield 9, 3, [0, 0, 8, 9, 10]), none, none, some (.getfield 132, 3, [12, 0, 2]), none, none, some (.iload_n 1, 1, []), some (.invokestatic 29, 3, [0, 49, 2]), none, none, some (.iload_n 2, 1, []), some (.iconst 1, 1, []), some (.iadd, 1, []), none, none, none, some (.goto 8, 3, []), none, none, some (.aload_n 0, 1, []), some (.iload_n 1, 1, []), none, none, none, some (.return_, 1, [])]
/-- TwoWayGrammar$Growing.leaf(I)V -/
def sb_133 : List (Option sm_I) := [some (.aload_n 0, 1, []), some (.getfield 37, 3, [0, 0, 8, 9, 10]), none, none, some (.getfield 69, 3, [11, 0, 2]), none, none, some (.iload_n 1, 1, []), some (.invokestatic 47, 3, [0, 49, 2]), none, none, some (.istore_n 2, 1, []), some (.iload_n 2, 1, []), some (.iconst 1, 1, []), some (.if_icmp .ne 19, 3, []), none, none, some (.aload_n 0, 1, []), some (.iconst 2, 1, []), some (.aload_n 0, 1, []), some (.sipush 10000, 3, []), none, none, some (.invokevirtual 51, 3, [0, 1, 9, 123]), none, none, some (.invokevirtual 72, 3, [0, 2, 9, 116]), none, none, some (.pop, 1, []), some (.goto 18, 3, []), none, none, some (.iload_n 2, 1, []), some (.iconst 2, 1, []), some (.if_icmp .ne 13, 3, []), none, none, some (.aload_n 0, 1, []), some (.iconst 3, 1, []), some (.aload_n 0, 1, []), some (.invokevirtual 76, 3, [0, 0, 9, 134]), none, none, some (.invokevirtual 72, 3, [0, 2, 9, 116]), none, none, some (.pop, 1, []), some (.return_, 1, [])]
/-- TwoWayGrammar$Growing.drawName()I -/
def sb_134 : List (Option sm_I) := [some (.iconst 1, 1, []), some (.aload_n 0, 1, []), some (.iconst 3, 1, []), some (.invokevirtual 51, 3, [0, 1, 9, 123]), none, none, some (.iadd, 1, []), some (.istore_n 1, 1, []), some (.iconst 0, 1, []), some (.istore_n 2, 1, []), some (.iconst 0, 1, []), some (.istore_n 3, 1, []), some (.iload_n 3, 1, []), some (.iload_n 1, 1, []), some (.if_icmp .ge 23, 3, []), none, none, some (.iload_n 2, 1, []), some (.iconst 1, 1, []), some (.aload_n 0, 1, []), some (.iconst 3, 1, []), some (.invokevirtual 51, 3, [0, 1, 9, 123]), none, none, some (.iadd, 1, []), some (.iconst 5, 1, []), some (.iload_n 3, 1, []), some (.imul, 1, []), some (.ishl, 1, []), some (.ior, 1, []), some (.istore_n 2, 1, []), some (.iinc 3 1, 3, []), none, none, some (.goto (-22), 3, []), none, none, some (.iload_n 1, 1, []), some (.istore_n 3, 1, []), some (.iload_n 3, 1, []), some (.bipush 6, 2, []), none, some (.if_icmp .ge 30, 3, []), none, none, some (.aload_n 0, 1, []), some (.getfield 37, 3, [0, 0, 8, 9, 10]), none, none, some (.iload_n 2, 1, []), some (.invokevirtual 80, 3, [0, 1, 2, 58]), none, none, some (.iconst (-1), 1, []), some (.if_icmp .eq 18, 3, []), none, none, some (.iload_n 2, 1, []), some (.bipush 26, 2, []), none, some (.iconst 5, 1, []), some (.iload_n 3, 1, []), some (.imul, 1, []), some (.ishl, 1, []), some (.ior, 1, []), some (.istore_n 2, 1, []), some (.iinc 3 1, 3, []), none, none, some (.goto (-30), 3, []), none, none, some (.iload_n 2, 1, []), some (.ireturn, 1, [])]
/-- TwoWayGrammar$Parsing.leaf(I)V -/
def sb_135 : List (Option sm_I) := [some (.aload_n 0, 1, []), some (.getfield 114, 3, [1, 0, 8, 9, 10]), none, none, some (.getfield 134, 3, [12, 0, 5]), none, none, some (.iload_n 1, 1, []), some (.invokestatic 124, 3, [0, 72, 2]), none, none, some (.lstore_n 2, 1, []), some (.lload_n 2, 1, []), some (.lconst 0, 1, []), some (.lcmp, 1, []), some (.ifCond .ne 4, 3, []), none, none, some (.return_, 1, []), some (.aload_n 0, 1, []), some (.lload_n 2, 1, []), some (.invokevirtual 127, 3, [0, 1, 8, 125]), none, none, some (.ifCond .ne 8, 3, []), none, none, some (.aload_n 0, 1, []), some (.invokevirtual 38, 3, [0, 0, 8, 111]), none, none, some (.return_, 1, []), some (.aload_n 0, 1, []), some (.getfield 35, 3, [9, 0, 8]), none, none, some (.iconst 1, 1, []), some (.if_icmp .ne 32, 3, []), none, none, some (.aload_n 0, 1, []), some (.iconst 2, 1, []), some (.aload_n 0, 1, []), some (.getfield 86, 3, [10, 0, 8]), none, none, some (.aload_n 0, 1, []), some (.getfield 95, 3, [0, 0, 8, 9, 10]), none, none, some (.getfield 144, 3, [12, 0, 2]), none, none, some (.iload_n 1, 1, []), some (.invokestatic 108, 3, [0, 49, 2]), none, none, some (.iadd, 1, []), some (.sipush 10000, 3, []), none, none, some (.irem, 1, []), some (.invokevirtual 147, 3, [0, 2, 8, 116]), none, none, some (.pop, 1, []), some (.goto 21, 3, []), none, none, some (.aload_n 0, 1, []), some (.getfield 35, 3, [9, 0, 8]), none, none, some (.iconst 2, 1, []), some (.if_icmp .ne 13, 3, []), none, none, some (.aload_n 0, 1, []), some (.iconst 3, 1, []), some (.aload_n 0, 1, []), some (.getfield 86, 3, [10, 0, 8]), none, none, some (.invokevirtual 147, 3, [0, 2, 8, 116]), none, none, some (.pop, 1, []), some (.aload_n 0, 1, []), some (.getfield 44, 3, [3, 0, 8, 9, 10]), none, none, some (.ifCond .ne 7, 3, []), none, none, some (.aload_n 0, 1, []), some (.invokevirtual 32, 3, [0, 0, 8, 106]), none, none, some (.return_, 1, [])]
/-- TwoWayGrammar$Printing.leaf(I)V -/
def sb_136 : List (Option sm_I) := [some (.aload_n 0, 1, []), some (.getfield 68, 3, [0, 0, 8, 9, 10]), none, none, some (.getfield 72, 3, [12, 0, 2]), none, none, some (.iload_n 1, 1, []), some (.invokestatic 55, 3, [0, 49, 2]), none, none, some (.istore_n 2, 1, []), some (.aload_n 0, 1, []), some (.getfield 68, 3, [0, 0, 8, 9, 10]), none, none, some (.getfield 77, 3, [11, 0, 2]), none, none, some (.iload_n 1, 1, []), some (.invokestatic 55, 3, [0, 49, 2]), none, none, some (.tableswitch 141 1 8 #[45, 66, 141, 95, 103, 111, 124, 77], 45, []), none, none, none, none, none, none, none, none, none, none, none, none, none, none, none, none, none, none, none, none, none, none, none, none, none, none, none, none, none, none, none, none, none, none, none, none, none, none, none, none, none, none, none, none, some (.aload_n 0, 1, []), some (.aload_n 0, 1, []), some (.invokevirtual 80, 3, [0, 0, 10, 137]), none, none, some (.iload_n 2, 1, []), some (.isub, 1, []), some (.sipush 10000, 3, []), none, none, some (.iadd, 1, []), some (.sipush 10000, 3, []), none, none, some (.irem, 1, []), some (.invokevirtual 84, 3, [0, 1, 10, 138]), none, none, some (.goto 78, 3, []), none, none, some (.aload_n 0, 1, []), some (.aload_n 0, 1, []), some (.invokevirtual 80, 3, [0, 0, 10, 137]), none, none, some (.invokevirtual 88, 3, [0, 1, 10, 141]), none, none, some (.goto 67, 3, []), none, none, some (.aload_n 0, 1, []), some (.aload_n 0, 1, []), some (.getfield 68, 3, [0, 0, 8, 9, 10]), none, none, some (.getfield 91, 3, [19, 0, 2]), none, none, some (.iload_n 2, 1, []), some (.invokestatic 55, 3, [0, 49, 2]), none, none, some (.invokevirtual 88, 3, [0, 1, 10, 141]), none, none, some (.goto 49, 3, []), none, none, some (.aload_n 0, 1, []), some (.iconst 1, 1, []), some (.putfield 32, 3, [10, 3, 0, 10]), none, none, some (.goto 41, 3, []), none, none, some (.aload_n 0, 1, []), some (.iconst 1, 1, []), some (.putfield 28, 3, [9, 3, 0, 10]), none, none, some (.goto 33, 3, []), none, none, some (.aload_n 0, 1, []), some (.dup, 1, []), some (.getfield 25, 3, [8, 0, 10]), none, none, some (.iconst 1, 1, []), some (.iadd, 1, []), some (.putfield 25, 3, [8, 0, 0, 10]), none, none, some (.goto 20, 3, []), none, none, some (.aload_n 0, 1, []), some (.aload_n 0, 1, []), some (.getfield 25, 3, [8, 0, 10]), none, none, some (.iconst 1, 1, []), some (.isub, 1, []), some (.iconst 0, 1, []), some (.invokestatic 94, 3, [7, 0]), none, none, some (.putfield 25, 3, [8, 0, 0, 10]), none, none, some (.goto 3, 3, []), none, none, some (.return_, 1, [])]
/-- TwoWayGrammar$Printing.nextValue()I -/
def sb_137 : List (Option sm_I) := [some (.aload_n 0, 1, []), some (.dup, 1, []), some (.getfield 21, 3, [7, 0, 10]), none, none, some (.iconst 1, 1, []), some (.iadd, 1, []), some (.putfield 21, 3, [7, 0, 0, 10]), none, none, some (.aload_n 0, 1, []), some (.getfield 41, 3, [2, 0, 8, 9, 10]), none, none, some (.getfield 65, 3, [2, 0, 7]), none, none, some (.aload_n 0, 1, []), some (.getfield 21, 3, [7, 0, 10]), none, none, some (.iconst 1, 1, []), some (.isub, 1, []), some (.invokestatic 55, 3, [0, 49, 2]), none, none, some (.ireturn, 1, [])]
/-- TwoWayGrammar$Printing.writeNumber(I)V -/
def sb_138 : List (Option sm_I) := [some (.aload_n 0, 1, []), some (.iconst 1, 1, []), some (.invokevirtual 109, 3, [0, 1, 10, 139]), none, none, some (.sipush 1000, 3, []), none, none, some (.istore_n 2, 1, []), some (.iload_n 2, 1, []), some (.ifCond .le 35, 3, []), none, none, some (.iload_n 1, 1, []), some (.iload_n 2, 1, []), some (.if_icmp .ge 8, 3, []), none, none, some (.iload_n 2, 1, []), some (.iconst 1, 1, []), some (.if_icmp .ne 17, 3, []), none, none, some (.aload_n 0, 1, []), some (.bipush 48, 2, []), none, some (.iload_n 1, 1, []), some (.iload_n 2, 1, []), some (.idiv, 1, []), some (.bipush 10, 2, []), none, some (.irem, 1, []), some (.iadd, 1, []), some (.i2c, 1, []), some (.invokevirtual 102, 3, [0, 1, 10, 140]), none, none, some (.iload_n 2, 1, []), some (.bipush 10, 2, []), none, some (.idiv, 1, []), some (.istore_n 2, 1, []), some (.goto (-33), 3, []), none, none, some (.return_, 1, [])]
/-- TwoWayGrammar$Printing.separate(Z)V -/
def sb_139 : List (Option sm_I) := [some (.aload_n 0, 1, []), some (.getfield 9, 3, [6, 0, 10]), none, none, some (.invokevirtual 99, 3, [0, 0, 1, 22]), none, none, some (.ifCond .le 50, 3, []), none, none, some (.aload_n 0, 1, []), some (.getfield 28, 3, [9, 0, 10]), none, none, some (.ifCond .eq 43, 3, []), none, none, some (.aload_n 0, 1, []), some (.bipush 10, 2, []), none, some (.invokevirtual 102, 3, [0, 1, 10, 140]), none, none, some (.iconst 0, 1, []), some (.istore_n 2, 1, []), some (.iload_n 2, 1, []), some (.iconst 2, 1, []), some (.aload_n 0, 1, []), some (.getfield 25, 3, [8, 0, 10]), none, none, some (.imul, 1, []), some (.if_icmp .ge 22, 3, []), none, none, some (.aload_n 0, 1, []), some (.getfield 106, 3, [3, 0, 8, 9, 10]), none, none, some (.ifCond .ne 15, 3, []), none, none, some (.aload_n 0, 1, []), some (.bipush 32, 2, []), none, some (.invokevirtual 102, 3, [0, 1, 10, 140]), none, none, some (.iinc 2 1, 3, []), none, none, some (.goto (-26), 3, []), none, none, some (.goto 37, 3, []), none, none, some (.aload_n 0, 1, []), some (.getfield 9, 3, [6, 0, 10]), none, none, some (.invokevirtual 99, 3, [0, 0, 1, 22]), none, none, some (.ifCond .le 27, 3, []), none, none, some (.aload_n 0, 1, []), some (.getfield 32, 3, [10, 0, 10]), none, none, some (.ifCond .ne 14, 3, []), none, none, some (.aload_n 0, 1, []), some (.getfield 35, 3, [11, 0, 10]), none, none, some (.ifCond .eq 13, 3, []), none, none, some (.iload_n 1, 1, []), some (.ifCond .eq 9, 3, []), none, none, some (.aload_n 0, 1, []), some (.bipush 32, 2, []), none, some (.invokevirtual 102, 3, [0, 1, 10, 140]), none, none, some (.aload_n 0, 1, []), some (.iconst 0, 1, []), some (.putfield 28, 3, [9, 3, 0, 10]), none, none, some (.aload_n 0, 1, []), some (.iconst 0, 1, []), some (.putfield 32, 3, [10, 3, 0, 10]), none, none, some (.aload_n 0, 1, []), some (.iload_n 1, 1, []), some (.putfield 35, 3, [11, 3, 0, 10]), none, none, some (.return_, 1, [])]
/-- TwoWayGrammar$Printing.write(C)V -/
def sb_140 : List (Option sm_I) := [some (.aload_n 0, 1, []), some (.getfield 9, 3, [6, 0, 10]), none, none, some (.iload_n 1, 1, []), some (.invokevirtual 113, 3, [0, 1, 1, 91]), none, none, some (.ifCond .ne 13, 3, []), none, none, some (.aload_n 0, 1, []), some (.iconst 1, 1, []), some (.putfield 38, 3, [12, 3, 0, 10]), none, none, some (.aload_n 0, 1, []), some (.iconst 1, 1, []), some (.putfield 106, 3, [3, 3, 0, 8, 9, 10]), none, none, some (.return_, 1, [])]
/-- TwoWayGrammar$Printing.writeCode(I)V -/
def sb_141 : List (Option sm_I) := [some (.aload_n 0, 1, []), some (.iload_n 1, 1, []), some (.ifCond .le 7, 3, []), none, none, some (.iconst 1, 1, []), some (.goto 4, 3, []), none, none, some (.iconst 0, 1, []), some (.invokevirtual 109, 3, [0, 1, 10, 139]), none, none, some (.iload_n 1, 1, []), some (.ifCond .ge 10, 3, []), none, none, some (.aload_n 0, 1, []), some (.iload_n 1, 1, []), some (.ineg, 1, []), some (.i2c, 1, []), some (.invokevirtual 102, 3, [0, 1, 10, 140]), none, none, some (.iload_n 1, 1, []), some (.iconst 0, 1, []), some (.invokestatic 94, 3, [7, 0]), none, none, some (.istore_n 2, 1, []), some (.iconst 0, 1, []), some (.istore_n 3, 1, []), some (.iload_n 3, 1, []), some (.bipush 6, 2, []), none, some (.if_icmp .ge 29, 3, []), none, none, some (.iload_n 2, 1, []), some (.ifCond .eq 25, 3, []), none, none, some (.aload_n 0, 1, []), some (.bipush 96, 2, []), none, some (.iload_n 2, 1, []), some (.bipush 31, 2, []), none, some (.iand, 1, []), some (.iadd, 1, []), some (.i2c, 1, []), some (.invokevirtual 102, 3, [0, 1, 10, 140]), none, none, some (.iload_n 2, 1, []), some (.iconst 5, 1, []), some (.iushr, 1, []), some (.istore_n 2, 1, []), some (.iinc 3 1, 3, []), none, none, some (.goto (-29), 3, []), none, none, some (.return_, 1, [])]
/-- TwoWayGrammar$Growing.timesAhead(I)I -/
def sb_142 : List (Option sm_I) := [some (.aload_n 0, 1, []), some (.getfield 15, 3, [7, 0, 9]), none, none, some (.ifCond .ge 7, 3, []), none, none, some (.iconst 0, 1, []), some (.goto 17, 3, []), none, none, some (.aload_n 0, 1, []), some (.iload_n 1, 1, []), some (.iconst 5, 1, []), some (.if_icmp .ne 7, 3, []), none, none, some (.iconst 3, 1, []), some (.goto 4, 3, []), none, none, some (.iconst 2, 1, []), some (.invokevirtual 51, 3, [0, 1, 9, 123]), none, none, some (.ireturn, 1, [])]
/-- TwoWayGrammar$Walk.timesAhead(I)I -/
def sb_143 : List (Option sm_I) := [some (.iconst 0, 1, []), some (.ireturn, 1, [])]
/-- TwoWayGrammar$Parsing.goesOn(III)Z -/
def sb_144 : List (Option sm_I) := [some (.aload_n 0, 1, []), some (.aload_n 0, 1, []), some (.getfield 114, 3, [1, 0, 8, 9, 10]), none, none, some (.getfield 134, 3, [12, 0, 5]), none, none, some (.iload_n 1, 1, []), some (.invokestatic 124, 3, [0, 72, 2]), none, none, some (.invokevirtual 127, 3, [0, 1, 8, 125]), none, none, some (.istore 4, 2, []), none, some (.iload 4, 2, []), none, some (.ifCond .eq 17, 3, []), none, none, some (.aload_n 0, 1, []), some (.getfield 15, 3, [2, 0, 8, 9, 10]), none, none, some (.getfield 137, 3, [2, 0, 7]), none, none, some (.iload_n 2, 1, []), some (.iload_n 3, 1, []), some (.iconst 1, 1, []), some (.iadd, 1, []), some (.invokestatic 140, 3, [0, 16, 3]), none, none, some (.iload 4, 2, []), none, some (.ireturn, 1, [])]
/-- TwoWayGrammar$Walk.goesOn(III)Z -/
def sb_145 : List (Option sm_I) := [some (.iload_n 3, 1, []), some (.aload_n 0, 1, []), some (.getfield 19, 3, [2, 0, 8, 9, 10]), none, none, some (.getfield 23, 3, [2, 0, 7]), none, none, some (.iload_n 2, 1, []), some (.invokestatic 29, 3, [0, 49, 2]), none, none, some (.if_icmp .ge 7, 3, []), none, none, some (.iconst 1, 1, []), some (.goto 4, 3, []), none, none, some (.iconst 0, 1, []), some (.ireturn, 1, [])]
/-- TwoWayGrammar$Printing.leave(I)V -/
def sb_146 : List (Option sm_I) := [some (.return_, 1, [])]
/-- TwoWayGrammar$Walk.leave(I)V -/
def sb_147 : List (Option sm_I) := [some (.aload_n 0, 1, []), some (.getfield 19, 3, [2, 0, 8, 9, 10]), none, none, some (.iload_n 1, 1, []), some (.invokevirtual 40, 3, [0, 1, 7, 148]), none, none, some (.return_, 1, [])]
/-- TwoWayGrammar$Tree.finish(I)V -/
def sb_148 : List (Option sm_I) := [some (.aload_n 0, 1, []), some (.getfield 18, 3, [3, 0, 7]), none, none, some (.iload_n 1, 1, []), some (.aload_n 0, 1, []), some (.getfield 21, 3, [0, 0, 7]), none, none, some (.iconst 1, 1, []), some (.isub, 1, []), some (.iload_n 1, 1, []), some (.isub, 1, []), some (.invokestatic 25, 3, [0, 16, 3]), none, none, some (.return_, 1, [])]
/-- TwoWayGrammar$Printing.pairTurns(I)I -/
def sb_149 : List (Option sm_I) := [some (.aload_n 0, 1, []), some (.getfield 21, 3, [7, 0, 10]), none, none, some (.istore_n 2, 1, []), some (.aload_n 0, 1, []), some (.iload_n 1, 1, []), some (.putfield 21, 3, [7, 0, 0, 10]), none, none, some (.iload_n 2, 1, []), some (.ireturn, 1, [])]
/-- TwoWayGrammar$Walk.pairTurns(I)I -/
def sb_150 : List (Option sm_I) := [some (.aload_n 0, 1, []), some (.getfield 19, 3, [2, 0, 8, 9, 10]), none, none, some (.getfield 44, 3, [0, 0, 7]), none, none, some (.ireturn, 1, [])]
/-- TwoWayGrammar$Printing.pairEnds(II)V -/
def sb_151 : List (Option sm_I) := [some (.aload_n 0, 1, []), some (.iload_n 2, 1, []), some (.putfield 21, 3, [7, 0, 0, 10]), none, none, some (.return_, 1, [])]
/-- TwoWayGrammar$Walk.pairEnds(II)V -/
def sb_152 : List (Option sm_I) := [some (.aload_n 0, 1, []), some (.getfield 19, 3, [2, 0, 8, 9, 10]), none, none, some (.iload_n 1, 1, []), some (.iload_n 2, 1, []), some (.invokevirtual 48, 3, [0, 2, 7, 153]), none, none, some (.return_, 1, [])]
/-- TwoWayGrammar$Tree.exchange(II)V -/
def sb_153 : List (Option sm_I) := [some (.aload_n 0, 1, []), some (.iload_n 1, 1, []), some (.iload_n 2, 1, []), some (.invokevirtual 33, 3, [0, 2, 7, 154]), none, none, some (.aload_n 0, 1, []), some (.iload_n 2, 1, []), some (.aload_n 0, 1, []), some (.getfield 21, 3, [0, 0, 7]), none, none, some (.invokevirtual 33, 3, [0, 2, 7, 154]), none, none, some (.aload_n 0, 1, []), some (.iload_n 1, 1, []), some (.aload_n 0, 1, []), some (.getfield 21, 3, [0, 0, 7]), none, none, some (.invokevirtual 33, 3, [0, 2, 7, 154]), none, none, some (.return_, 1, [])]
/-- TwoWayGrammar$Tree.turnRound(II)V -/
def sb_154 : List (Option sm_I) := [some (.iload_n 1, 1, []), some (.istore_n 3, 1, []), some (.iload_n 2, 1, []), some (.iconst 1, 1, []), some (.isub, 1, []), some (.istore 4, 2, []), none, some (.iload_n 3, 1, []), some (.iload 4, 2, []), none, some (.if_icmp .ge 42, 3, []), none, none, some (.aload_n 0, 1, []), some (.getfield 9, 3, [1, 0, 7]), none, none, some (.iload_n 3, 1, []), some (.iload 4, 2, []), none, some (.invokestatic 37, 3, [0, 155, 3]), none, none, some (.aload_n 0, 1, []), some (.getfield 15, 3, [2, 0, 7]), none, none, some (.iload_n 3, 1, []), some (.iload 4, 2, []), none, some (.invokestatic 37, 3, [0, 155, 3]), none, none, some (.aload_n 0, 1, []), some (.getfield 18, 3, [3, 0, 7]), none, none, some (.iload_n 3, 1, []), some (.iload 4, 2, []), none, some (.invokestatic 37, 3, [0, 155, 3]), none, none, some (.iinc 3 1, 3, []), none, none, some (.iinc 4 (-1), 3, []), none, none, some (.goto (-42), 3, []), none, none, some (.return_, 1, [])]
/-- TwoWayGrammar$Tree.exchangeIn([III)V -/
def sb_155 : List (Option sm_I) := [some (.aload_n 0, 1, []), some (.iload_n 1, 1, []), some (.invokestatic 29, 3, [0, 49, 2]), none, none, some (.istore_n 3, 1, []), some (.aload_n 0, 1, []), some (.iload_n 1, 1, []), some (.aload_n 0, 1, []), some (.iload_n 2, 1, []), some (.invokestatic 29, 3, [0, 49, 2]), none, none, some (.invokestatic 25, 3, [0, 16, 3]), none, none, some (.aload_n 0, 1, []), some (.iload_n 2, 1, []), some (.iload_n 3, 1, []), some (.invokestatic 25, 3, [0, 16, 3]), none, none, some (.return_, 1, [])]
/-- TwoWayGrammar$Parsing.end()V -/
def sb_156 : List (Option sm_I) := [some (.aload_n 0, 1, []), some (.getfield 35, 3, [9, 0, 8]), none, none, some (.ifCond .eq 7, 3, []), none, none, some (.aload_n 0, 1, []), some (.invokevirtual 38, 3, [0, 0, 8, 111]), none, none, some (.return_, 1, [])]
/-- TwoWayGrammar$Walk.end()V -/
def sb_157 : List (Option sm_I) := [some (.return_, 1, [])]
/-- TwoWayGrammar.grow(JI)I -/
def sb_158 : List (Option sm_I) := [some (.iload_n 3, 1, []), some (.ifCond .lt 9, 3, []), none, none, some (.iload_n 3, 1, []), some (.bipush 20, 2, []), none, some (.if_icmp .le 13, 3, []), none, none, some (.new 126, 3, [1000, 13]), none, none, some (.dup, 1, []), some (.ldc 221, 2, [1, 19]), none, none, none, none, none, some (.aload_n 0, 1, []), some (.getfield 154, 3, [15, 0, 0]), none, none, some (.ifCond .ne 13, 3, []), none, none, some (.new 157, 3, [1000, 14]), none, none, some (.dup, 1, []), some (.ldc 198, 2, [1, 17]), none, none, none, none, none, some (.aload_n 0, 1, []), some (.getfield 93, 3, [12, 0, 0]), none, none, some (.lload_n 1, 1, []), some (.iload_n 3, 1, []), some (.invokevirtual 223, 3, [0, 2, 9, 159]), none, none, some (.aload_n 0, 1, []), some (.getfield 93, 3, [12, 0, 0]), none, none, some (.invokevirtual 227, 3, [0, 0, 9, 103]), none, none, some (.aload_n 0, 1, []), some (.getfield 93, 3, [12, 0, 0]), none, none, some (.getfield 228, 3, [4, 0, 8, 9, 10]), none, none, some (.ifCond .eq 13, 3, []), none, none, some (.new 206, 3, [1000, 15]), none, none, some (.dup, 1, []), some (.ldc 208, 2, [1, 18]), none, none, none, none, none, some (.aload_n 0, 1, []), some (.getfield 69, 3, [8, 0, 0]), none, none, some (.aload_n 0, 1, []), some (.getfield 76, 3, [10, 0, 0]), none, none, some (.invokevirtual 214, 3, [0, 1, 7, 93]), none, none, some (.aload_n 0, 1, []), some (.getfield 69, 3, [8, 0, 0]), none, none, some (.getfield 218, 3, [0, 0, 7]), none, none, some (.ireturn, 1, [])]
/-- TwoWayGrammar$Growing.fill(JI)V -/
def sb_159 : List (Option sm_I) := [some (.aload_n 0, 1, []), some (.lload_n 1, 1, []), some (.putfield 9, 3, [6, 1, 0, 9]), none, none, some (.aload_n 0, 1, []), some (.iload_n 3, 1, []), some (.putfield 15, 3, [7, 0, 0, 9]), none, none, some (.return_, 1, [])]
/-- TwoWayGrammar.node(II)J -/
def sb_160 : List (Option sm_I) := [some (.iload_n 1, 1, []), some (.ifCond .lt 14, 3, []), none, none, some (.iload_n 1, 1, []), some (.aload_n 0, 1, []), some (.getfield 69, 3, [8, 0, 0]), none, none, some (.getfield 218, 3, [0, 0, 7]), none, none, some (.if_icmp .lt 13, 3, []), none, none, some (.new 229, 3, [1000, 16]), none, none, some (.dup, 1, []), some (.ldc 231, 2, [1, 20]), none, none, none, none, none, some (.iload_n 2, 1, []), some (.tableswitch 79 0 3 #[30, 43, 56, 66], 30, []), none, none, none, none, none, none, none, none, none, none, none, none, none, none, none, none, none, none, none, none, none, none, none, none, none, none, none, none, none, some (.aload_n 0, 1, []), some (.getfield 69, 3, [8, 0, 0]), none, none, some (.getfield 234, 3, [1, 0, 7]), none, none, some (.iload_n 1, 1, []), some (.invokestatic 183, 3, [0, 49, 2]), none, none, some (.i2l, 1, []), some (.lreturn, 1, []), some (.aload_n 0, 1, []), some (.getfield 69, 3, [8, 0, 0]), none, none, some (.getfield 237, 3, [2, 0, 7]), none, none, some (.iload_n 1, 1, []), some (.invokestatic 183, 3, [0, 49, 2]), none, none, some (.i2l, 1, []), some (.lreturn, 1, []), some (.aload_n 0, 1, []), some (.getfield 69, 3, [8, 0, 0]), none, none, some (.iload_n 1, 1, []), some (.invokevirtual 240, 3, [0, 1, 7, 161]), none, none, some (.i2l, 1, []), some (.lreturn, 1, []), some (.aload_n 0, 1, []), some (.getfield 69, 3, [8, 0, 0]), none, none, some (.getfield 243, 3, [3, 0, 7]), none, none, some (.iload_n 1, 1, []), some (.invokestatic 183, 3, [0, 49, 2]), none, none, some (.i2l, 1, []), some (.lreturn, 1, []), some (.new 126, 3, [1000, 13]), none, none, some (.dup, 1, []), some (.ldc 246, 2, [1, 21]), none, none, none, none, none]
/-- TwoWayGrammar$Tree.parent(I)I -/
def sb_161 : List (Option sm_I) := [some (.iload_n 1, 1, []), some (.iconst 1, 1, []), some (.isub, 1, []), some (.istore_n 2, 1, []), some (.iload_n 2, 1, []), some (.ifCond .lt 25, 3, []), none, none, some (.iload_n 2, 1, []), some (.aload_n 0, 1, []), some (.getfield 18, 3, [3, 0, 7]), none, none, some (.iload_n 2, 1, []), some (.invokestatic 29, 3, [0, 49, 2]), none, none, some (.iadd, 1, []), some (.iload_n 1, 1, []), some (.if_icmp .lt 5, 3, []), none, none, some (.iload_n 2, 1, []), some (.ireturn, 1, []), some (.iinc 2 (-1), 3, []), none, none, some (.goto (-23), 3, []), none, none, some (.iconst (-1), 1, []), some (.ireturn, 1, [])]
/-- TwoWayGrammar.set(IJ)Z -/
def sb_162 : List (Option sm_I) := [some (.iload_n 1, 1, []), some (.ifCond .lt 14, 3, []), none, none, some (.iload_n 1, 1, []), some (.aload_n 0, 1, []), some (.getfield 69, 3, [8, 0, 0]), none, none, some (.getfield 218, 3, [0, 0, 7]), none, none, some (.if_icmp .lt 13, 3, []), none, none, some (.new 229, 3, [1000, 16]), none, none, some (.dup, 1, []), some (.ldc 231, 2, [1, 20]), none, none, none, none, none, some (.aload_n 0, 1, []), some (.getfield 69, 3, [8, 0, 0]), none, none, some (.getfield 234, 3, [1, 0, 7]), none, none, some (.iload_n 1, 1, []), some (.invokestatic 183, 3, [0, 49, 2]), none, none, some (.istore 4, 2, []), none, some (.iload 4, 2, []), none, some (.iconst 2, 1, []), some (.if_icmp .ne 17, 3, []), none, none, some (.lload_n 2, 1, []), some (.lconst 0, 1, []), some (.lcmp, 1, []), some (.ifCond .lt 11, 3, []), none, none, some (.lload_n 2, 1, []), some (.ldc2_w 248, 3, [10000]), none, none, some (.lcmp, 1, []), some (.ifCond .lt 29, 3, []), none, none, some (.iload 4, 2, []), none, some (.iconst 3, 1, []), some (.if_icmp .ne 27, 3, []), none, none, some (.lload_n 2, 1, []), some (.invokestatic 250, 3, [0, 163, 1]), none, none, some (.ifCond .eq 20, 3, []), none, none, some (.aload_n 0, 1, []), some (.getfield 30, 3, [4, 0, 0]), none, none, some (.lload_n 2, 1, []), some (.l2i, 1, []), some (.invokevirtual 254, 3, [0, 1, 2, 58]), none, none, some (.iconst (-1), 1, []), some (.if_icmp .ne 7, 3, []), none, none, some (.iconst 1, 1, []), some (.goto 4, 3, []), none, none, some (.iconst 0, 1, []), some (.istore 5, 2, []), none, some (.iload 5, 2, []), none, some (.ifCond .eq 16, 3, []), none, none, some (.aload_n 0, 1, []), some (.getfield 69, 3, [8, 0, 0]), none, none, some (.getfield 237, 3, [2, 0, 7]), none, none, some (.iload_n 1, 1, []), some (.lload_n 2, 1, []), some (.l2i, 1, []), some (.invokestatic 257, 3, [0, 16, 3]), none, none, some (.iload 5, 2, []), none, some (.ireturn, 1, [])]
/-- TwoWayGrammar.isName(J)Z -/
def sb_163 : List (Option sm_I) := [some (.lload_n 0, 1, []), some (.lconst 0, 1, []), some (.lcmp, 1, []), some (.ifCond .le 11, 3, []), none, none, some (.lload_n 0, 1, []), some (.ldc2_w 285, 3, [1073741824]), none, none, some (.lcmp, 1, []), some (.ifCond .lt 5, 3, []), none, none, some (.iconst 0, 1, []), some (.ireturn, 1, []), some (.lload_n 0, 1, []), some (.lstore_n 2, 1, []), some (.iconst 0, 1, []), some (.istore 4, 2, []), none, some (.iload 4, 2, []), none, some (.bipush 6, 2, []), none, some (.if_icmp .ge 44, 3, []), none, none, some (.lload_n 2, 1, []), some (.lconst 0, 1, []), some (.lcmp, 1, []), some (.ifCond .eq 38, 3, []), none, none, some (.lload_n 2, 1, []), some (.ldc2_w 287, 3, [31]), none, none, some (.land, 1, []), some (.lstore 5, 2, []), none, some (.lload 5, 2, []), none, some (.lconst 1, 1, []), some (.lcmp, 1, []), some (.ifCond .lt 12, 3, []), none, none, some (.lload 5, 2, []), none, some (.ldc2_w 289, 3, [26]), none, none, some (.lcmp, 1, []), some (.ifCond .le 5, 3, []), none, none, some (.iconst 0, 1, []), some (.ireturn, 1, []), some (.lload_n 2, 1, []), some (.iconst 5, 1, []), some (.lushr, 1, []), some (.lstore_n 2, 1, []), some (.iinc 4 1, 3, []), none, none, some (.goto (-45), 3, []), none, none, some (.iconst 1, 1, []), some (.ireturn, 1, [])]
/-- TwoWayGrammar.print()I -/
def sb_164 : List (Option sm_I) := [some (.aload_n 0, 1, []), some (.getfield 69, 3, [8, 0, 0]), none, none, some (.getfield 218, 3, [0, 0, 7]), none, none, some (.ifCond .ne 14, 3, []), none, none, some (.new 157, 3, [1000, 14]), none, none, some (.dup, 1, []), none, none, none, none, none, none, none, some (.aload_n 0, 1, []), some (.getfield 100, 3, [13, 0, 0]), none, none, some (.invokevirtual 263, 3, [0, 0, 10, 103]), none, none, some (.aload_n 0, 1, []), some (.getfield 100, 3, [13, 0, 0]), none, none, some (.getfield 264, 3, [12, 0, 10]), none, none, some (.ifCond .eq 14, 3, []), none, none, some (.new 206, 3, [1000, 15]), none, none, some (.dup, 1, []), none, none, none, none, none, none, none, some (.aload_n 0, 1, []), some (.getfield 21, 3, [2, 0, 0]), none, none, some (.aload_n 0, 1, []), some (.getfield 24, 3, [3, 0, 0]), none, none, some (.invokevirtual 269, 3, [0, 1, 1, 89]), none, none, some (.aload_n 0, 1, []), some (.getfield 21, 3, [2, 0, 0]), none, none, some (.invokevirtual 119, 3, [0, 0, 1, 22]), none, none, some (.ireturn, 1, [])]
/-- TwoWayGrammar.output(I)C -/
def sb_165 : List (Option sm_I) := [some (.iload_n 1, 1, []), some (.ifCond .lt 14, 3, []), none, none, some (.iload_n 1, 1, []), some (.aload_n 0, 1, []), some (.getfield 21, 3, [2, 0, 0]), none, none, some (.invokevirtual 119, 3, [0, 0, 1, 22]), none, none, some (.if_icmp .lt 14, 3, []), none, none, some (.new 104, 3, [1000, 12]), none, none, some (.dup, 1, []), none, none, none, none, none, none, none, some (.aload_n 0, 1, []), some (.getfield 21, 3, [2, 0, 0]), none, none, some (.iload_n 1, 1, []), some (.invokevirtual 273, 3, [0, 1, 1, 20]), none, none, some (.ireturn, 1, [])]
/-- TwoWayGrammar.compare()I -/
def sb_166 : List (Option sm_I) := [some (.aload_n 0, 1, []), some (.getfield 69, 3, [8, 0, 0]), none, none, some (.getfield 218, 3, [0, 0, 7]), none, none, some (.ifCond .eq 13, 3, []), none, none, some (.aload_n 0, 1, []), some (.getfield 73, 3, [9, 0, 0]), none, none, some (.getfield 218, 3, [0, 0, 7]), none, none, some (.ifCond .ne 14, 3, []), none, none, some (.new 157, 3, [1000, 14]), none, none, some (.dup, 1, []), none, none, none, none, none, none, none, some (.aload_n 0, 1, []), some (.getfield 69, 3, [8, 0, 0]), none, none, some (.aload_n 0, 1, []), some (.getfield 73, 3, [9, 0, 0]), none, none, some (.invokevirtual 278, 3, [0, 1, 7, 167]), none, none, some (.ireturn, 1, [])]
/-- TwoWayGrammar$Tree.against(LTwoWayGrammar$Tree;)I -/
def sb_167 : List (Option sm_I) := [some (.iconst 0, 1, []), some (.istore_n 2, 1, []), some (.iload_n 2, 1, []), some (.aload_n 0, 1, []), some (.getfield 21, 3, [0, 0, 7]), none, none, some (.if_icmp .ge 75, 3, []), none, none, some (.iload_n 2, 1, []), some (.aload_n 1, 1, []), some (.getfield 21, 3, [0, 0, 7]), none, none, some (.if_icmp .ge 67, 3, []), none, none, some (.aload_n 0, 1, []), some (.getfield 9, 3, [1, 0, 7]), none, none, some (.iload_n 2, 1, []), some (.invokestatic 29, 3, [0, 49, 2]), none, none, some (.aload_n 1, 1, []), some (.getfield 9, 3, [1, 0, 7]), none, none, some (.iload_n 2, 1, []), some (.invokestatic 29, 3, [0, 49, 2]), none, none, some (.invokestatic 40, 3, [0, 168, 2]), none, none, some (.istore_n 3, 1, []), some (.iload_n 3, 1, []), some (.ifCond .ne 23, 3, []), none, none, some (.aload_n 0, 1, []), some (.getfield 15, 3, [2, 0, 7]), none, none, some (.iload_n 2, 1, []), some (.invokestatic 29, 3, [0, 49, 2]), none, none, some (.aload_n 1, 1, []), some (.getfield 15, 3, [2, 0, 7]), none, none, some (.iload_n 2, 1, []), some (.invokestatic 29, 3, [0, 49, 2]), none, none, some (.invokestatic 40, 3, [0, 168, 2]), none, none, some (.istore_n 3, 1, []), some (.iload_n 3, 1, []), some (.ifCond .eq 13, 3, []), none, none, some (.iload_n 3, 1, []), some (.ifCond .ge 7, 3, []), none, none, some (.iconst (-1), 1, []), some (.goto 4, 3, []), none, none, some (.iconst 1, 1, []), some (.ireturn, 1, []), some (.iinc 2 1, 3, []), none, none, some (.goto (-77), 3, []), none, none, some (.aload_n 0, 1, []), some (.getfield 21, 3, [0, 0, 7]), none, none, some (.aload_n 1, 1, []), some (.getfield 21, 3, [0, 0, 7]), none, none, some (.if_icmp .ne 7, 3, []), none, none, some (.iconst 0, 1, []), some (.goto 19, 3, []), none, none, some (.aload_n 0, 1, []), some (.getfield 21, 3, [0, 0, 7]), none, none, some (.aload_n 1, 1, []), some (.getfield 21, 3, [0, 0, 7]), none, none, some (.if_icmp .ge 7, 3, []), none, none, some (.iconst (-1), 1, []), some (.goto 4, 3, []), none, none, some (.iconst 1, 1, []), some (.ireturn, 1, [])]
/-- java/lang/Integer.compare(II)I -/
def sb_168 : List (Option sm_I) := [some (.iload_n 0, 1, []), some (.iload_n 1, 1, []), some (.if_icmp .ge 7, 3, []), none, none, some (.iconst (-1), 1, []), some (.goto 13, 3, []), none, none, some (.iload_n 0, 1, []), some (.iload_n 1, 1, []), some (.if_icmp .ne 7, 3, []), none, none, some (.iconst 0, 1, []), some (.goto 4, 3, []), none, none, some (.iconst 1, 1, []), some (.ireturn, 1, [])]
/-- TwoWayGrammarModel.<init>()V -/
def sb_169 : List (Option sm_I) := [some (.aload_n 0, 1, []), some (.invokespecial 1, 3, [2]), none, none, some (.aload_n 0, 1, []), some (.sipush 240, 3, []), none, none, some (.newarray .int, 2, [0]), none, some (.putfield 7, 3, [4, 2, 1, 11]), none, none, some (.aload_n 0, 1, []), some (.sipush 160, 3, []), none, none, some (.newarray .int, 2, [0]), none, some (.putfield 13, 3, [5, 2, 1, 11]), none, none, some (.aload_n 0, 1, []), some (.sipush 160, 3, []), none, none, some (.newarray .int, 2, [0]), none, some (.putfield 16, 3, [6, 2, 1, 11]), none, none, some (.aload_n 0, 1, []), some (.bipush 10, 2, []), none, some (.newarray .int, 2, [0]), none, some (.putfield 19, 3, [14, 2, 1, 11]), none, none, some (.aload_n 0, 1, []), some (.bipush 10, 2, []), none, some (.newarray .int, 2, [0]), none, some (.putfield 22, 3, [15, 2, 1, 11]), none, none, some (.aload_n 0, 1, []), some (.bipush 26, 2, []), none, some (.newarray .int, 2, [0]), none, some (.putfield 25, 3, [16, 2, 1, 11]), none, none, some (.aload_n 0, 1, []), some (.bipush 10, 2, []), none, some (.newarray .int, 2, [0]), none, some (.putfield 28, 3, [17, 2, 1, 11]), none, none, some (.aload_n 0, 1, []), some (.bipush 20, 2, []), none, some (.newarray .int, 2, [0]), none, some (.putfield 31, 3, [18, 2, 1, 11]), none, none, some (.aload_n 0, 1, []), some (.bipush 20, 2, []), none, some (.newarray .long, 2, [1]), none, some (.putfield 34, 3, [19, 2, 1, 11]), none, none, some (.aload_n 0, 1, []), some (.bipush 60, 2, []), none, some (.newarray .int, 2, [0]), none, some (.putfield 38, 3, [20, 2, 1, 11]), none, none, some (.aload_n 0, 1, []), some (.bipush 60, 2, []), none, some (.newarray .int, 2, [0]), none, some (.putfield 41, 3, [21, 2, 1, 11]), none, none, some (.aload_n 0, 1, []), some (.bipush 60, 2, []), none, some (.newarray .int, 2, [0]), none, some (.putfield 44, 3, [22, 2, 1, 11]), none, none, some (.aload_n 0, 1, []), some (.bipush 60, 2, []), none, some (.newarray .int, 2, [0]), none, some (.putfield 47, 3, [23, 2, 1, 11]), none, none, some (.aload_n 0, 1, []), some (.bipush 60, 2, []), none, some (.newarray .int, 2, [0]), none, some (.putfield 50, 3, [24, 2, 1, 11]), none, none, some (.aload_n 0, 1, []), some (.bipush 60, 2, []), none, some (.newarray .int, 2, [0]), none, some (.putfield 53, 3, [25, 2, 1, 11]), none, none, some (.aload_n 0, 1, []), some (.bipush 60, 2, []), none, some (.newarray .int, 2, [0]), none, some (.putfield 56, 3, [26, 2, 1, 11]), none, none, some (.aload_n 0, 1, []), some (.bipush 80, 2, []), none, some (.newarray .int, 2, [0]), none, some (.putfield 59, 3, [27, 2, 1, 11]), none, none, some (.aload_n 0, 1, []), some (.bipush 80, 2, []), none, some (.newarray .int, 2, [0]), none, some (.putfield 62, 3, [28, 2, 1, 11]), none, none, some (.aload_n 0, 1, []), some (.bipush 80, 2, []), none, some (.newarray .int, 2, [0]), none, some (.putfield 65, 3, [29, 2, 1, 11]), none, none, some (.aload_n 0, 1, []), some (.bipush 80, 2, []), none, some (.newarray .int, 2, [0]), none, some (.putfield 68, 3, [30, 2, 1, 11]), none, none, some (.aload_n 0, 1, []), some (.bipush 80, 2, []), none, some (.newarray .int, 2, [0]), none, some (.putfield 71, 3, [31, 2, 1, 11]), none, none, some (.aload_n 0, 1, []), some (.bipush 60, 2, []), none, some (.newarray .boolean, 2, [3]), none, some (.putfield 74, 3, [32, 2, 1, 11]), none, none, some (.aload_n 0, 1, []), some (.bipush 80, 2, []), none, some (.newarray .boolean, 2, [3]), none, some (.putfield 78, 3, [33, 2, 1, 11]), none, none, some (.aload_n 0, 1, []), some (.bipush 80, 2, []), none, some (.newarray .boolean, 2, [3]), none, some (.putfield 81, 3, [34, 2, 1, 11]), none, none, some (.aload_n 0, 1, []), some (.bipush 60, 2, []), none, some (.newarray .long, 2, [1]), none, some (.putfield 84, 3, [35, 2, 1, 11]), none, none, some (.aload_n 0, 1, []), some (.bipush 80, 2, []), none, some (.newarray .long, 2, [1]), none, some (.putfield 87, 3, [36, 2, 1, 11]), none, none, some (.aload_n 0, 1, []), some (.bipush 80, 2, []), none, some (.newarray .long, 2, [1]), none, some (.putfield 90, 3, [37, 2, 1, 11]), none, none, some (.aload_n 0, 1, []), some (.bipush 60, 2, []), none, some (.newarray .long, 2, [1]), none, some (.putfield 93, 3, [38, 2, 1, 11]), none, none, some (.aload_n 0, 1, []), some (.bipush 80, 2, []), none, some (.newarray .long, 2, [1]), none, some (.putfield 96, 3, [39, 2, 1, 11]), none, none, some (.aload_n 0, 1, []), some (.bipush 60, 2, []), none, some (.newarray .int, 2, [0]), none, some (.putfield 99, 3, [40, 2, 1, 11]), none, none, some (.aload_n 0, 1, []), some (.bipush 80, 2, []), none, some (.newarray .int, 2, [0]), none, some (.putfield 102, 3, [41, 2, 1, 11]), none, none, some (.aload_n 0, 1, []), some (.bipush 80, 2, []), none, some (.newarray .int, 2, [0]), none, some (.putfield 105, 3, [42, 2, 1, 11]), none, none, some (.aload_n 0, 1, []), some (.bipush 60, 2, []), none, some (.newarray .int, 2, [0]), none, some (.putfield 108, 3, [43, 2, 1, 11]), none, none, some (.aload_n 0, 1, []), some (.bipush 80, 2, []), none, some (.newarray .int, 2, [0]), none, some (.putfield 111, 3, [44, 2, 1, 11]), none, none, some (.aload_n 0, 1, []), some (.bipush 80, 2, []), none, some (.newarray .int, 2, [0]), none, some (.putfield 114, 3, [45, 2, 1, 11]), none, none, some (.aload_n 0, 1, []), some (.bipush 100, 2, []), none, some (.newarray .int, 2, [0]), none, some (.putfield 117, 3, [46, 2, 1, 11]), none, none, some (.aload_n 0, 1, []), some (.bipush 6, 2, []), none, some (.newarray .int, 2, [0]), none, some (.putfield 120, 3, [53, 2, 1, 11]), none, none, some (.aload_n 0, 1, []), some (.bipush 6, 2, []), none, some (.newarray .int, 2, [0]), none, some (.putfield 123, 3, [54, 2, 1, 11]), none, none, some (.aload_n 0, 1, []), some (.bipush 6, 2, []), none, some (.newarray .int, 2, [0]), none, some (.putfield 126, 3, [55, 2, 1, 11]), none, none, some (.aload_n 0, 1, []), some (.bipush 6, 2, []), none, some (.newarray .int, 2, [0]), none, some (.putfield 129, 3, [56, 2, 1, 11]), none, none, some (.aload_n 0, 1, []), some (.bipush 6, 2, []), none, some (.newarray .int, 2, [0]), none, some (.putfield 132, 3, [57, 2, 1, 11]), none, none, some (.aload_n 0, 1, []), some (.bipush 6, 2, []), none, some (.newarray .boolean, 2, [3]), none, some (.putfield 135, 3, [58, 2, 1, 11]), none, none, some (.aload_n 0, 1, []), some (.sipush 161, 3, []), none, none, some (.newarray .int, 2, [0]), none, some (.putfield 138, 3, [60, 2, 1, 11]), none, none, some (.aload_n 0, 1, []), some (.sipush 161, 3, []), none, none, some (.newarray .int, 2, [0]), none, some (.putfield 141, 3, [61, 2, 1, 11]), none, none, some (.aload_n 0, 1, []), some (.sipush 161, 3, []), none, none, some (.newarray .long, 2, [1]), none, some (.putfield 144, 3, [62, 2, 1, 11]), none, none, some (.aload_n 0, 1, []), some (.bipush 100, 2, []), none, some (.newarray .int, 2, [0]), none, some (.putfield 147, 3, [66, 2, 1, 11]), none, none, some (.aload_n 0, 1, []), some (.bipush 100, 2, []), none, some (.newarray .int, 2, [0]), none, some (.putfield 150, 3, [67, 2, 1, 11]), none, none, some (.aload_n 0, 1, []), some (.bipush 100, 2, []), none, some (.newarray .int, 2, [0]), none, some (.putfield 153, 3, [68, 2, 1, 11]), none, none, some (.aload_n 0, 1, []), some (.bipush 100, 2, []), none, some (.newarray .int, 2, [0]), none, some (.putfield 156, 3, [69, 2, 1, 11]), none, none, some (.aload_n 0, 1, []), some (.bipush 100, 2, []), none, some (.newarray .int, 2, [0]), none, some (.putfield 159, 3, [70, 2, 1, 11]), none, none, some (.aload_n 0, 1, []), some (.bipush 100, 2, []), none, some (.newarray .int, 2, [0]), none, some (.putfield 162, 3, [71, 2, 1, 11]), none, none, some (.aload_n 0, 1, []), some (.bipush 100, 2, []), none, some (.newarray .int, 2, [0]), none, some (.putfield 165, 3, [72, 2, 1, 11]), none, none, some (.aload_n 0, 1, []), some (.bipush 100, 2, []), none, some (.newarray .long, 2, [1]), none, some (.putfield 168, 3, [73, 2, 1, 11]), none, none, some (.aload_n 0, 1, []), some (.bipush 100, 2, []), none, some (.newarray .long, 2, [1]), none, some (.putfield 171, 3, [74, 2, 1, 11]), none, none, some (.aload_n 0, 1, []), some (.bipush 100, 2, []), none, some (.newarray .long, 2, [1]), none, some (.putfield 174, 3, [75, 2, 1, 11]), none, none, some (.aload_n 0, 1, []), some (.sipush 3000, 3, []), none, none, some (.newarray .int, 2, [0]), none, some (.putfield 177, 3, [86, 2, 1, 11]), none, none, some (.aload_n 0, 1, []), some (.sipush 3000, 3, []), none, none, some (.newarray .int, 2, [0]), none, some (.putfield 180, 3, [87, 2, 1, 11]), none, none, some (.aload_n 0, 1, []), some (.sipush 3000, 3, []), none, none, some (.newarray .int, 2, [0]), none, some (.putfield 183, 3, [88, 2, 1, 11]), none, none, some (.aload_n 0, 1, []), some (.bipush 64, 2, []), none, some (.newarray .int, 2, [0]), none, some (.putfield 186, 3, [89, 2, 1, 11]), none, none, some (.aload_n 0, 1, []), some (.bipush 64, 2, []), none, some (.newarray .int, 2, [0]), none, some (.putfield 189, 3, [90, 2, 1, 11]), none, none, some (.aload_n 0, 1, []), some (.sipush 160, 3, []), none, none, some (.newarray .int, 2, [0]), none, some (.putfield 192, 3, [91, 2, 1, 11]), none, none, some (.return_, 1, [])]
/-- TwoWayGrammarModel.thrown()I -/
def sb_170 : List (Option sm_I) := [some (.aload_n 0, 1, []), some (.getfield 195, 3, [0, 0, 11]), none, none, some (.ireturn, 1, [])]
/-- TwoWayGrammarModel.type(IC)Z -/
def sb_171 : List (Option sm_I) := [some (.aload_n 0, 1, []), some (.iload_n 1, 1, []), some (.ifCond .lt 8, 3, []), none, none, some (.iload_n 1, 1, []), some (.iconst 1, 1, []), some (.if_icmp .le 7, 3, []), none, none, some (.iconst 1, 1, []), some (.goto 4, 3, []), none, none, some (.iconst 0, 1, []), some (.putfield 195, 3, [0, 0, 0, 11]), none, none, some (.aload_n 0, 1, []), some (.getfield 195, 3, [0, 0, 11]), none, none, some (.ifCond .gt 21, 3, []), none, none, some (.iload_n 2, 1, []), some (.bipush 10, 2, []), none, some (.if_icmp .eq 17, 3, []), none, none, some (.iload_n 2, 1, []), some (.bipush 32, 2, []), none, some (.if_icmp .lt 9, 3, []), none, none, some (.iload_n 2, 1, []), some (.bipush 126, 2, []), none, some (.if_icmp .le 5, 3, []), none, none, some (.iconst 0, 1, []), some (.ireturn, 1, []), some (.iload_n 1, 1, []), some (.ifCond .ne 16, 3, []), none, none, some (.aload_n 0, 1, []), some (.getfield 199, 3, [1, 0, 11]), none, none, some (.sipush 240, 3, []), none, none, some (.if_icmp .ne 18, 3, []), none, none, some (.goto 13, 3, []), none, none, some (.aload_n 0, 1, []), some (.getfield 202, 3, [2, 0, 11]), none, none, some (.sipush 160, 3, []), none, none, some (.if_icmp .ne 5, 3, []), none, none, some (.iconst 0, 1, []), some (.ireturn, 1, []), some (.iload_n 1, 1, []), some (.ifCond .ne 23, 3, []), none, none, some (.aload_n 0, 1, []), some (.getfield 7, 3, [4, 0, 11]), none, none, some (.aload_n 0, 1, []), some (.dup, 1, []), some (.getfield 199, 3, [1, 0, 11]), none, none, some (.dup_x1, 1, []), some (.iconst 1, 1, []), some (.iadd, 1, []), some (.putfield 199, 3, [1, 0, 0, 11]), none, none, some (.iload_n 2, 1, []), some (.iastore, 1, []), some (.goto 20, 3, []), none, none, some (.aload_n 0, 1, []), some (.getfield 13, 3, [5, 0, 11]), none, none, some (.aload_n 0, 1, []), some (.dup, 1, []), some (.getfield 202, 3, [2, 0, 11]), none, none, some (.dup_x1, 1, []), some (.iconst 1, 1, []), some (.iadd, 1, []), some (.putfield 202, 3, [2, 0, 0, 11]), none, none, some (.iload_n 2, 1, []), some (.iastore, 1, []), some (.iconst 1, 1, []), some (.ireturn, 1, [])]
/-- TwoWayGrammarModel.clear(I)I -/
def sb_172 : List (Option sm_I) := [some (.aload_n 0, 1, []), some (.iload_n 1, 1, []), some (.ifCond .lt 8, 3, []), none, none, some (.iload_n 1, 1, []), some (.iconst 1, 1, []), some (.if_icmp .le 7, 3, []), none, none, some (.iconst 1, 1, []), some (.goto 4, 3, []), none, none, some (.iconst 0, 1, []), some (.putfield 195, 3, [0, 0, 0, 11]), none, none, some (.aload_n 0, 1, []), some (.getfield 195, 3, [0, 0, 11]), none, none, some (.ifCond .le 5, 3, []), none, none, some (.iconst 0, 1, []), some (.ireturn, 1, []), some (.iload_n 1, 1, []), some (.ifCond .ne 10, 3, []), none, none, some (.aload_n 0, 1, []), some (.getfield 199, 3, [1, 0, 11]), none, none, some (.goto 7, 3, []), none, none, some (.aload_n 0, 1, []), some (.getfield 202, 3, [2, 0, 11]), none, none, some (.istore_n 2, 1, []), some (.aload_n 0, 1, []), some (.iload_n 1, 1, []), some (.ifCond .ne 7, 3, []), none, none, some (.iconst 0, 1, []), some (.goto 7, 3, []), none, none, some (.aload_n 0, 1, []), some (.getfield 199, 3, [1, 0, 11]), none, none, some (.putfield 199, 3, [1, 0, 0, 11]), none, none, some (.aload_n 0, 1, []), some (.iload_n 1, 1, []), some (.iconst 1, 1, []), some (.if_icmp .ne 7, 3, []), none, none, some (.iconst 0, 1, []), some (.goto 7, 3, []), none, none, some (.aload_n 0, 1, []), some (.getfield 202, 3, [2, 0, 11]), none, none, some (.putfield 202, 3, [2, 0, 0, 11]), none, none, some (.iload_n 2, 1, []), some (.ireturn, 1, [])]
/-- TwoWayGrammarModel.sample(I)I -/
def sb_173 : List (Option sm_I) := [some (.aload_n 0, 1, []), some (.iload_n 1, 1, []), some (.ifCond .lt 8, 3, []), none, none, some (.iload_n 1, 1, []), some (.iconst 2, 1, []), some (.if_icmp .le 7, 3, []), none, none, some (.iconst 1, 1, []), some (.goto 4, 3, []), none, none, some (.iconst 0, 1, []), some (.putfield 195, 3, [0, 0, 0, 11]), none, none, some (.aload_n 0, 1, []), some (.getfield 195, 3, [0, 0, 11]), none, none, some (.ifCond .le 5, 3, []), none, none, some (.iconst 0, 1, []), some (.ireturn, 1, []), some (.aload_n 0, 1, []), some (.iconst 0, 1, []), some (.putfield 199, 3, [1, 0, 0, 11]), none, none, some (.iload_n 1, 1, []), some (.ifCond .ne 83, 3, []), none, none, some (.aload_n 0, 1, []), some (.ldc2_w 207, 3, [2317137553972338757]), none, none, some (.invokevirtual 209, 3, [0, 1, 11, 174]), none, none, some (.aload_n 0, 1, []), some (.ldc2_w 213, 3, [2819389844338712616]), none, none, some (.invokevirtual 209, 3, [0, 1, 11, 174]), none, none, some (.aload_n 0, 1, []), some (.ldc2_w 215, 3, [3037994969327018029]), none, none, some (.invokevirtual 209, 3, [0, 1, 11, 174]), none, none, some (.aload_n 0, 1, []), some (.ldc2_w 217, 3, [5053105990967900960]), none, none, some (.invokevirtual 209, 3, [0, 1, 11, 174]), none, none, some (.aload_n 0, 1, []), some (.ldc2_w 219, 3, [2317707977301174304]), none, none, some (.invokevirtual 209, 3, [0, 1, 11, 174]), none, none, some (.aload_n 0, 1, []), some (.ldc2_w 221, 3, [5053084000116482172]), none, none, some (.invokevirtual 209, 3, [0, 1, 11, 174]), none, none, some (.aload_n 0, 1, []), some (.ldc2_w 223, 3, [2325557506642422048]), none, none, some (.invokevirtual 209, 3, [0, 1, 11, 174]), none, none, some (.aload_n 0, 1, []), some (.ldc2_w 225, 3, [8243102915232669757]), none, none, some (.invokevirtual 209, 3, [0, 1, 11, 174]), none, none, some (.aload_n 0, 1, []), some (.ldc2_w 227, 3, [2334392247088348192]), none, none, some (.invokevirtual 209, 3, [0, 1, 11, 174]), none, none, some (.aload_n 0, 1, []), some (.ldc2_w 229, 3, [2819329371148853372]), none, none, some (.invokevirtual 209, 3, [0, 1, 11, 174]), none, none, some (.aload_n 0, 1, []), some (.ldc2_w 231, 3, [171647017]), none, none, some (.invokevirtual 209, 3, [0, 1, 11, 174]), none, none, some (.goto 214, 3, []), none, none, some (.iload_n 1, 1, []), some (.iconst 1, 1, []), some (.if_icmp .ne 125, 3, []), none, none, some (.aload_n 0, 1, []), some (.ldc2_w 233, 3, [7214902011022352464]), none, none, some (.invokevirtual 209, 3, [0, 1, 11, 174]), none, none, some (.aload_n 0, 1, []), some (.ldc2_w 235, 3, [2317137683982345573]), none, none, some (.invokevirtual 209, 3, [0, 1, 11, 174]), none, none, some (.aload_n 0, 1, []), some (.ldc2_w 237, 3, [2963459953415580012]), none, none, some (.invokevirtual 209, 3, [0, 1, 11, 174]), none, none, some (.aload_n 0, 1, []), some (.ldc2_w 239, 3, [7791345429930713130]), none, none, some (.invokevirtual 209, 3, [0, 1, 11, 174]), none, none, some (.aload_n 0, 1, []), some (.ldc2_w 241, 3, [4260542854493204073]), none, none, some (.invokevirtual 209, 3, [0, 1, 11, 174]), none, none, some (.aload_n 0, 1, []), some (.ldc2_w 243, 3, [7308253817175298826]), none, none, some (.invokevirtual 209, 3, [0, 1, 11, 174]), none, none, some (.aload_n 0, 1, []), some (.ldc2_w 245, 3, [2334392247088325236]), none, none, some (.invokevirtual 209, 3, [0, 1, 11, 174]), none, none, some (.aload_n 0, 1, []), some (.ldc2_w 247, 3, [4406526406190787682]), none, none, some (.invokevirtual 209, 3, [0, 1, 11, 174]), none, none, some (.aload_n 0, 1, []), some (.ldc2_w 249, 3, [6206078408341611040]), none, none, some (.invokevirtual 209, 3, [0, 1, 11, 174]), none, none, some (.aload_n 0, 1, []), some (.ldc2_w 251, 3, [7215365270489736992]), none, none, some (.invokevirtual 209, 3, [0, 1, 11, 174]), none, none, some (.aload_n 0, 1, []), some (.ldc2_w 253, 3, [2459101874769371759]), none, none, some (.invokevirtual 209, 3, [0, 1, 11, 174]), none, none, some (.aload_n 0, 1, []), some (.ldc2_w 255, 3, [2819348062750930288]), none, none, some (.invokevirtual 209, 3, [0, 1, 11, 174]), none, none, some (.aload_n 0, 1, []), some (.ldc2_w 257, 3, [2323048536703967291]), none, none, some (.invokevirtual 209, 3, [0, 1, 11, 174]), none, none, some (.aload_n 0, 1, []), some (.ldc2_w 259, 3, [7935479022009278830]), none, none, some (.invokevirtual 209, 3, [0, 1, 11, 174]), none, none, some (.aload_n 0, 1, []), some (.ldc2_w 261, 3, [2317982108911562101]), none, none, some (.invokevirtual 209, 3, [0, 1, 11, 174]), none, none, some (.aload_n 0, 1, []), some (.ldc2_w 263, 3, [6206009932588523569]), none, none, some (.invokevirtual 209, 3, [0, 1, 11, 174]), none, none, some (.aload_n 0, 1, []), some (.ldc2_w 265, 3, [670496]), none, none, some (.invokevirtual 209, 3, [0, 1, 11, 174]), none, none, some (.goto 87, 3, []), none, none, some (.aload_n 0, 1, []), some (.ldc2_w 267, 3, [2891411184374587460]), none, none, some (.invokevirtual 209, 3, [0, 1, 11, 174]), none, none, some (.aload_n 0, 1, []), some (.ldc2_w 269, 3, [2318270927254606368]), none, none, some (.invokevirtual 209, 3, [0, 1, 11, 174]), none, none, some (.aload_n 0, 1, []), some (.ldc2_w 271, 3, [2328959603089435746]), none, none, some (.invokevirtual 209, 3, [0, 1, 11, 174]), none, none, some (.aload_n 0, 1, []), some (.ldc2_w 273, 3, [6712369225264015913]), none, none, some (.invokevirtual 209, 3, [0, 1, 11, 174]), none, none, some (.aload_n 0, 1, []), some (.ldc2_w 275, 3, [7935409752451463968]), none, none, some (.invokevirtual 209, 3, [0, 1, 11, 174]), none, none, some (.aload_n 0, 1, []), some (.ldc2_w 277, 3, [2891374900493512033]), none, none, some (.invokevirtual 209, 3, [0, 1, 11, 174]), none, none, some (.aload_n 0, 1, []), some (.ldc2_w 279, 3, [2338042629976321568]), none, none, some (.invokevirtual 209, 3, [0, 1, 11, 174]), none, none, some (.aload_n 0, 1, []), some (.ldc2_w 281, 3, [737218325013405822]), none, none, some (.invokevirtual 209, 3, [0, 1, 11, 174]), none, none, some (.aload_n 0, 1, []), some (.ldc2_w 283, 3, [7935381194378387541]), none, none, some (.invokevirtual 209, 3, [0, 1, 11, 174]), none, none, some (.aload_n 0, 1, []), some (.ldc2_w 285, 3, [2819389844678339937]), none, none, some (.invokevirtual 209, 3, [0, 1, 11, 174]), none, none, some (.aload_n 0, 1, []), some (.ldc2_w 287, 3, [8390326386895364132]), none, none, some (.invokevirtual 209, 3, [0, 1, 11, 174]), none, none, some (.aload_n 0, 1, []), some (.ldc2_w 289, 3, [171647097]), none, none, some (.invokevirtual 209, 3, [0, 1, 11, 174]), none, none, some (.aload_n 0, 1, []), some (.getfield 199, 3, [1, 0, 11]), none, none, some (.ireturn, 1, [])]
/-- TwoWayGrammarModel.say(J)V -/
def sb_174 : List (Option sm_I) := [some (.iconst 0, 1, []), some (.istore_n 3, 1, []), some (.iload_n 3, 1, []), some (.bipush 8, 2, []), none, some (.if_icmp .ge 45, 3, []), none, none, some (.lload_n 1, 1, []), some (.bipush 8, 2, []), none, some (.iload_n 3, 1, []), some (.imul, 1, []), some (.lshr, 1, []), some (.ldc2_w 205, 3, [255]), none, none, some (.land, 1, []), some (.l2i, 1, []), some (.istore 4, 2, []), none, some (.iload 4, 2, []), none, some (.ifCond .le 21, 3, []), none, none, some (.aload_n 0, 1, []), some (.getfield 7, 3, [4, 0, 11]), none, none, some (.aload_n 0, 1, []), some (.dup, 1, []), some (.getfield 199, 3, [1, 0, 11]), none, none, some (.dup_x1, 1, []), some (.iconst 1, 1, []), some (.iadd, 1, []), some (.putfield 199, 3, [1, 0, 0, 11]), none, none, some (.iload 4, 2, []), none, some (.iastore, 1, []), some (.iinc 3 1, 3, []), none, none, some (.goto (-45), 3, []), none, none, some (.return_, 1, [])]
/-- TwoWayGrammarModel.compile()I -/
def sb_175 : List (Option sm_I) := [some (.aload_n 0, 1, []), some (.iconst 0, 1, []), some (.putfield 195, 3, [0, 0, 0, 11]), none, none, some (.aload_n 0, 1, []), some (.invokevirtual 432, 3, [0, 0, 11, 176]), none, none, some (.aload_n 0, 1, []), some (.aload_n 0, 1, []), some (.aload_n 0, 1, []), some (.iconst 0, 1, []), some (.dup_x1, 1, []), some (.putfield 435, 3, [7, 0, 0, 11]), none, none, some (.dup_x1, 1, []), some (.putfield 438, 3, [65, 0, 0, 11]), none, none, some (.putfield 441, 3, [63, 0, 0, 11]), none, none, some (.aload_n 0, 1, []), some (.getfield 325, 3, [8, 0, 11]), none, none, some (.ifCond .le 13, 3, []), none, none, some (.aload_n 0, 1, []), some (.aload_n 0, 1, []), some (.iconst 0, 1, []), some (.dup_x1, 1, []), some (.putfield 351, 3, [10, 0, 0, 11]), none, none, some (.putfield 392, 3, [9, 0, 0, 11]), none, none, some (.aload_n 0, 1, []), some (.getfield 325, 3, [8, 0, 11]), none, none, some (.ifCond .le 8, 3, []), none, none, some (.aload_n 0, 1, []), some (.getfield 325, 3, [8, 0, 11]), none, none, some (.ireturn, 1, []), some (.aload_n 0, 1, []), some (.invokevirtual 444, 3, [0, 0, 11, 194]), none, none, some (.aload_n 0, 1, []), some (.invokevirtual 447, 3, [0, 0, 11, 201]), none, none, some (.istore_n 1, 1, []), some (.aload_n 0, 1, []), some (.iload_n 1, 1, []), some (.ifCond .ne 7, 3, []), none, none, some (.iconst 2, 1, []), some (.goto 4, 3, []), none, none, some (.iconst 1, 1, []), some (.putfield 435, 3, [7, 0, 0, 11]), none, none, some (.iload_n 1, 1, []), some (.ireturn, 1, [])]
/-- TwoWayGrammarModel.read()V -/
def sb_176 : List (Option sm_I) := [some (.aload_n 0, 1, []), some (.aload_n 0, 1, []), some (.aload_n 0, 1, []), some (.aload_n 0, 1, []), some (.aload_n 0, 1, []), some (.aload_n 0, 1, []), some (.aload_n 0, 1, []), some (.iconst 0, 1, []), some (.dup_x1, 1, []), some (.putfield 342, 3, [13, 0, 0, 11]), none, none, some (.dup_x1, 1, []), some (.putfield 345, 3, [12, 0, 0, 11]), none, none, some (.dup_x1, 1, []), some (.putfield 358, 3, [11, 0, 0, 11]), none, none, some (.dup_x1, 1, []), some (.putfield 351, 3, [10, 0, 0, 11]), none, none, some (.dup_x1, 1, []), some (.putfield 392, 3, [9, 0, 0, 11]), none, none, some (.dup_x1, 1, []), some (.putfield 325, 3, [8, 0, 0, 11]), none, none, some (.putfield 291, 3, [48, 0, 0, 11]), none, none, some (.iconst 0, 1, []), some (.istore_n 1, 1, []), some (.iload_n 1, 1, []), some (.bipush 26, 2, []), none, some (.if_icmp .ge 16, 3, []), none, none, some (.aload_n 0, 1, []), some (.getfield 25, 3, [16, 0, 11]), none, none, some (.iload_n 1, 1, []), some (.iconst (-1), 1, []), some (.iastore, 1, []), some (.iinc 1 1, 3, []), none, none, some (.goto (-16), 3, []), none, none, some (.iconst 1, 1, []), some (.istore_n 1, 1, []), some (.iconst 0, 1, []), some (.istore_n 2, 1, []), some (.iload_n 2, 1, []), some (.bipush 12, 2, []), none, some (.if_icmp .ge 52, 3, []), none, none, some (.iload_n 1, 1, []), some (.ifCond .eq 48, 3, []), none, none, some (.aload_n 0, 1, []), some (.getfield 325, 3, [8, 0, 11]), none, none, some (.ifCond .ne 41, 3, []), none, none, some (.aload_n 0, 1, []), some (.invokevirtual 379, 3, [0, 0, 11, 177]), none, none, some (.aload_n 0, 1, []), some (.getfield 309, 3, [49, 0, 11]), none, none, some (.ifCond .ne 10, 3, []), none, none, some (.aload_n 0, 1, []), some (.getfield 392, 3, [9, 0, 11]), none, none, some (.ifCond .ne 7, 3, []), none, none, some (.iconst 1, 1, []), some (.goto 4, 3, []), none, none, some (.iconst 0, 1, []), some (.istore_n 1, 1, []), some (.iload_n 1, 1, []), some (.ifCond .eq 7, 3, []), none, none, some (.aload_n 0, 1, []), some (.invokevirtual 395, 3, [0, 0, 11, 183]), none, none, some (.iinc 2 1, 3, []), none, none, some (.goto (-52), 3, []), none, none, some (.iconst 0, 1, []), some (.istore_n 2, 1, []), some (.iload_n 2, 1, []), some (.aload_n 0, 1, []), some (.getfield 358, 3, [11, 0, 11]), none, none, some (.if_icmp .ge 52, 3, []), none, none, some (.aload_n 0, 1, []), some (.getfield 325, 3, [8, 0, 11]), none, none, some (.ifCond .ne 45, 3, []), none, none, some (.aload_n 0, 1, []), some (.getfield 38, 3, [20, 0, 11]), none, none, some (.iload_n 2, 1, []), some (.iaload, 1, []), some (.bipush 9, 2, []), none, some (.if_icmp .ne 28, 3, []), none, none, some (.aload_n 0, 1, []), some (.getfield 25, 3, [16, 0, 11]), none, none, some (.aload_n 0, 1, []), some (.getfield 41, 3, [21, 0, 11]), none, none, some (.iload_n 2, 1, []), some (.iaload, 1, []), some (.iaload, 1, []), some (.ifCond .ge 14, 3, []), none, none, some (.aload_n 0, 1, []), some (.iconst 4, 1, []), some (.aload_n 0, 1, []), some (.getfield 44, 3, [22, 0, 11]), none, none, some (.iload_n 2, 1, []), some (.iaload, 1, []), some (.invokevirtual 361, 3, [0, 2, 11, 184]), none, none, some (.iinc 2 1, 3, []), none, none, some (.goto (-54), 3, []), none, none, some (.return_, 1, [])]
/-- TwoWayGrammarModel.scan()V -/
def sb_177 : List (Option sm_I) := [some (.aload_n 0, 1, []), some (.getfield 291, 3, [48, 0, 11]), none, none, some (.aload_n 0, 1, []), some (.getfield 199, 3, [1, 0, 11]), none, none, some (.if_icmp .ge 31, 3, []), none, none, some (.aload_n 0, 1, []), some (.getfield 7, 3, [4, 0, 11]), none, none, some (.aload_n 0, 1, []), some (.getfield 291, 3, [48, 0, 11]), none, none, some (.iaload, 1, []), some (.invokestatic 294, 3, [0, 178, 1]), none, none, some (.ifCond .eq 16, 3, []), none, none, some (.aload_n 0, 1, []), some (.dup, 1, []), some (.getfield 291, 3, [48, 0, 11]), none, none, some (.iconst 1, 1, []), some (.iadd, 1, []), some (.putfield 291, 3, [48, 0, 0, 11]), none, none, some (.goto (-36), 3, []), none, none, some (.aload_n 0, 1, []), some (.aload_n 0, 1, []), some (.getfield 291, 3, [48, 0, 11]), none, none, some (.putfield 298, 3, [50, 0, 0, 11]), none, none, some (.aload_n 0, 1, []), some (.lconst 0, 1, []), some (.putfield 301, 3, [52, 1, 0, 11]), none, none, some (.aload_n 0, 1, []), some (.aload_n 0, 1, []), some (.getfield 291, 3, [48, 0, 11]), none, none, some (.invokevirtual 305, 3, [0, 1, 11, 179]), none, none, some (.istore_n 1, 1, []), some (.aload_n 0, 1, []), some (.dup, 1, []), some (.getfield 291, 3, [48, 0, 11]), none, none, some (.iconst 1, 1, []), some (.iadd, 1, []), some (.putfield 291, 3, [48, 0, 0, 11]), none, none, some (.aload_n 0, 1, []), some (.getfield 298, 3, [50, 0, 11]), none, none, some (.aload_n 0, 1, []), some (.getfield 199, 3, [1, 0, 11]), none, none, some (.if_icmp .ne 11, 3, []), none, none, some (.aload_n 0, 1, []), some (.iconst 0, 1, []), some (.putfield 309, 3, [49, 0, 0, 11]), none, none, some (.goto 323, 3, []), none, none, some (.iload_n 1, 1, []), some (.invokestatic 312, 3, [0, 180, 1]), none, none, some (.ifCond .eq 23, 3, []), none, none, some (.aload_n 0, 1, []), some (.aload_n 0, 1, []), some (.aload_n 0, 1, []), some (.getfield 298, 3, [50, 0, 11]), none, none, some (.invokevirtual 315, 3, [0, 1, 11, 181]), none, none, some (.putfield 291, 3, [48, 0, 0, 11]), none, none, some (.aload_n 0, 1, []), some (.iconst 1, 1, []), some (.putfield 309, 3, [49, 0, 0, 11]), none, none, some (.goto 296, 3, []), none, none, some (.iload_n 1, 1, []), some (.bipush 65, 2, []), none, some (.if_icmp .lt 26, 3, []), none, none, some (.iload_n 1, 1, []), some (.bipush 90, 2, []), none, some (.if_icmp .gt 20, 3, []), none, none, some (.aload_n 0, 1, []), some (.iconst 2, 1, []), some (.putfield 309, 3, [49, 0, 0, 11]), none, none, some (.aload_n 0, 1, []), some (.iload_n 1, 1, []), some (.bipush 65, 2, []), none, some (.isub, 1, []), some (.i2l, 1, []), some (.putfield 301, 3, [52, 1, 0, 11]), none, none, some (.goto 267, 3, []), none, none, some (.iload_n 1, 1, []), some (.invokestatic 318, 3, [0, 182, 1]), none, none, some (.ifCond .eq 20, 3, []), none, none, some (.aload_n 0, 1, []), some (.iconst 5, 1, []), some (.putfield 309, 3, [49, 0, 0, 11]), none, none, some (.aload_n 0, 1, []), some (.iload_n 1, 1, []), some (.bipush 48, 2, []), none, some (.isub, 1, []), some (.i2l, 1, []), some (.putfield 301, 3, [52, 1, 0, 11]), none, none, some (.goto 243, 3, []), none, none, some (.iload_n 1, 1, []), some (.bipush 34, 2, []), none, some (.if_icmp .ne 71, 3, []), none, none, some (.aload_n 0, 1, []), some (.aload_n 0, 1, []), some (.getfield 291, 3, [48, 0, 11]), none, none, some (.invokevirtual 315, 3, [0, 1, 11, 181]), none, none, some (.istore_n 2, 1, []), some (.iload_n 2, 1, []), some (.aload_n 0, 1, []), some (.getfield 291, 3, [48, 0, 11]), none, none, some (.if_icmp .le 28, 3, []), none, none, some (.iload_n 2, 1, []), some (.aload_n 0, 1, []), some (.getfield 291, 3, [48, 0, 11]), none, none, some (.isub, 1, []), some (.bipush 6, 2, []), none, some (.if_icmp .ge 17, 3, []), none, none, some (.aload_n 0, 1, []), some (.iload_n 2, 1, []), some (.invokevirtual 305, 3, [0, 1, 11, 179]), none, none, some (.bipush 34, 2, []), none, some (.if_icmp .ne 7, 3, []), none, none, some (.iconst 1, 1, []), some (.goto 4, 3, []), none, none, some (.iconst 0, 1, []), some (.istore_n 3, 1, []), some (.aload_n 0, 1, []), some (.iload_n 3, 1, []), some (.ifCond .eq 7, 3, []), none, none, some (.iconst 3, 1, []), some (.goto 5, 3, []), none, none, some (.bipush 6, 2, []), none, some (.putfield 309, 3, [49, 0, 0, 11]), none, none, some (.aload_n 0, 1, []), some (.iload_n 2, 1, []), some (.iconst 1, 1, []), some (.iadd, 1, []), some (.putfield 291, 3, [48, 0, 0, 11]), none, none, some (.goto 169, 3, []), none, none, some (.iload_n 1, 1, []), some (.bipush 39, 2, []), none, some (.if_icmp .ne 89, 3, []), none, none, some (.aload_n 0, 1, []), some (.aload_n 0, 1, []), some (.getfield 291, 3, [48, 0, 11]), none, none, some (.invokevirtual 305, 3, [0, 1, 11, 179]), none, none, some (.istore_n 2, 1, []), some (.iload_n 2, 1, []), some (.bipush 32, 2, []), none, some (.if_icmp .le 39, 3, []), none, none, some (.iload_n 2, 1, []), some (.bipush 127, 2, []), none, some (.if_icmp .ge 33, 3, []), none, none, some (.iload_n 2, 1, []), some (.invokestatic 312, 3, [0, 180, 1]), none, none, some (.ifCond .ne 26, 3, []), none, none, some (.iload_n 2, 1, []), some (.invokestatic 318, 3, [0, 182, 1]), none, none, some (.ifCond .ne 19, 3, []), none, none, some (.iload_n 2, 1, []), some (.bipush 65, 2, []), none, some (.if_icmp .lt 9, 3, []), none, none, some (.iload_n 2, 1, []), some (.bipush 90, 2, []), none, some (.if_icmp .le 7, 3, []), none, none, some (.iconst 1, 1, []), some (.goto 4, 3, []), none, none, some (.iconst 0, 1, []), some (.istore_n 3, 1, []), some (.aload_n 0, 1, []), some (.iload_n 3, 1, []), some (.ifCond .eq 7, 3, []), none, none, some (.iconst 4, 1, []), some (.goto 5, 3, []), none, none, some (.bipush 6, 2, []), none, some (.putfield 309, 3, [49, 0, 0, 11]), none, none, some (.aload_n 0, 1, []), some (.iload_n 2, 1, []), some (.i2l, 1, []), some (.putfield 301, 3, [52, 1, 0, 11]), none, none, some (.aload_n 0, 1, []), some (.dup, 1, []), some (.getfield 291, 3, [48, 0, 11]), none, none, some (.iconst 1, 1, []), some (.iadd, 1, []), some (.putfield 291, 3, [48, 0, 0, 11]), none, none, some (.goto 77, 3, []), none, none, some (.iload_n 1, 1, []), some (.bipush 61, 2, []), none, some (.if_icmp .eq 51, 3, []), none, none, some (.iload_n 1, 1, []), some (.bipush 59, 2, []), none, some (.if_icmp .eq 45, 3, []), none, none, some (.iload_n 1, 1, []), some (.bipush 124, 2, []), none, some (.if_icmp .eq 39, 3, []), none, none, some (.iload_n 1, 1, []), some (.bipush 42, 2, []), none, some (.if_icmp .eq 33, 3, []), none, none, some (.iload_n 1, 1, []), some (.bipush 63, 2, []), none, some (.if_icmp .eq 27, 3, []), none, none, some (.iload_n 1, 1, []), some (.bipush 40, 2, []), none, some (.if_icmp .eq 21, 3, []), none, none, some (.iload_n 1, 1, []), some (.bipush 41, 2, []), none, some (.if_icmp .eq 15, 3, []), none, none, some (.iload_n 1, 1, []), some (.bipush 126, 2, []), none, some (.if_icmp .eq 9, 3, []), none, none, some (.iload_n 1, 1, []), some (.bipush 43, 2, []), none, some (.if_icmp .ne 7, 3, []), none, none, some (.iconst 1, 1, []), some (.goto 4, 3, []), none, none, some (.iconst 0, 1, []), some (.istore_n 2, 1, []), some (.aload_n 0, 1, []), some (.iload_n 2, 1, []), some (.ifCond .eq 7, 3, []), none, none, some (.iload_n 1, 1, []), some (.goto 5, 3, []), none, none, some (.bipush 6, 2, []), none, some (.putfield 309, 3, [49, 0, 0, 11]), none, none, some (.return_, 1, [])]
end
section
/-- TwoWayGrammarModel.isBlank(I)Z -/
def sb_178 : List (Option sm_I) := [some (.iload_n 0, 1, []), some (.bipush 32, 2, []), none, some (.if_icmp .eq 9, 3, []), none, none, some (.iload_n 0, 1, []), some (.bipush 10, 2, []), none, some (.if_icmp .ne 7, 3, []), none, none, some (.iconst 1, 1, []), some (.goto 4, 3, []), none, none, some (.iconst 0, 1, []), some (.ireturn, 1, [])]
/-- TwoWayGrammarModel.charAt(I)I -/
def sb_179 : List (Option sm_I) := [some (.iload_n 1, 1, []), some (.aload_n 0, 1, []), some (.getfield 199, 3, [1, 0, 11]), none, none, some (.if_icmp .ge 12, 3, []), none, none, some (.aload_n 0, 1, []), some (.getfield 7, 3, [4, 0, 11]), none, none, some (.iload_n 1, 1, []), some (.iaload, 1, []), some (.goto 4, 3, []), none, none, some (.iconst 0, 1, []), some (.ireturn, 1, [])]
/-- TwoWayGrammarModel.isLow(I)Z -/
def sb_180 : List (Option sm_I) := [some (.iload_n 0, 1, []), some (.bipush 97, 2, []), none, some (.if_icmp .lt 13, 3, []), none, none, some (.iload_n 0, 1, []), some (.bipush 122, 2, []), none, some (.if_icmp .gt 7, 3, []), none, none, some (.iconst 1, 1, []), some (.goto 4, 3, []), none, none, some (.iconst 0, 1, []), some (.ireturn, 1, [])]
/-- TwoWayGrammarModel.letters(I)I -/
def sb_181 : List (Option sm_I) := [some (.iload_n 1, 1, []), some (.istore_n 2, 1, []), some (.iload_n 2, 1, []), some (.aload_n 0, 1, []), some (.getfield 199, 3, [1, 0, 11]), none, none, some (.if_icmp .ge 21, 3, []), none, none, some (.aload_n 0, 1, []), some (.getfield 7, 3, [4, 0, 11]), none, none, some (.iload_n 2, 1, []), some (.iaload, 1, []), some (.invokestatic 312, 3, [0, 180, 1]), none, none, some (.ifCond .eq 9, 3, []), none, none, some (.iinc 2 1, 3, []), none, none, some (.goto (-23), 3, []), none, none, some (.aload_n 0, 1, []), some (.ldc2_w 321, 3, [18446744073709551615]), none, none, some (.putfield 301, 3, [52, 1, 0, 11]), none, none, some (.iload_n 2, 1, []), some (.iload_n 1, 1, []), some (.isub, 1, []), some (.bipush 6, 2, []), none, some (.if_icmp .le 5, 3, []), none, none, some (.iload_n 2, 1, []), some (.ireturn, 1, []), some (.aload_n 0, 1, []), some (.lconst 0, 1, []), some (.putfield 301, 3, [52, 1, 0, 11]), none, none, some (.iload_n 2, 1, []), some (.iconst 1, 1, []), some (.isub, 1, []), some (.istore_n 3, 1, []), some (.iload_n 3, 1, []), some (.iload_n 1, 1, []), some (.if_icmp .lt 31, 3, []), none, none, some (.aload_n 0, 1, []), some (.aload_n 0, 1, []), some (.getfield 301, 3, [52, 0, 11]), none, none, some (.iconst 5, 1, []), some (.lshl, 1, []), some (.aload_n 0, 1, []), some (.getfield 7, 3, [4, 0, 11]), none, none, some (.iload_n 3, 1, []), some (.iaload, 1, []), some (.i2l, 1, []), some (.ldc2_w 323, 3, [96]), none, none, some (.lsub, 1, []), some (.lor, 1, []), some (.putfield 301, 3, [52, 1, 0, 11]), none, none, some (.iinc 3 (-1), 3, []), none, none, some (.goto (-30), 3, []), none, none, some (.iload_n 2, 1, []), some (.ireturn, 1, [])]
/-- TwoWayGrammarModel.isDigit(I)Z -/
def sb_182 : List (Option sm_I) := [some (.iload_n 0, 1, []), some (.bipush 48, 2, []), none, some (.if_icmp .lt 13, 3, []), none, none, some (.iload_n 0, 1, []), some (.bipush 57, 2, []), none, some (.if_icmp .gt 7, 3, []), none, none, some (.iconst 1, 1, []), some (.goto 4, 3, []), none, none, some (.iconst 0, 1, []), some (.ireturn, 1, [])]
/-- TwoWayGrammarModel.readRule()V -/
def sb_183 : List (Option sm_I) := [some (.aload_n 0, 1, []), some (.getfield 298, 3, [50, 0, 11]), none, none, some (.istore_n 1, 1, []), some (.aload_n 0, 1, []), some (.getfield 301, 3, [52, 0, 11]), none, none, some (.l2i, 1, []), some (.istore_n 2, 1, []), some (.aload_n 0, 1, []), some (.getfield 309, 3, [49, 0, 11]), none, none, some (.iconst 2, 1, []), some (.if_icmp .eq 10, 3, []), none, none, some (.aload_n 0, 1, []), some (.iconst 1, 1, []), some (.iload_n 1, 1, []), some (.invokevirtual 361, 3, [0, 2, 11, 184]), none, none, some (.return_, 1, []), some (.aload_n 0, 1, []), some (.getfield 25, 3, [16, 0, 11]), none, none, some (.iload_n 2, 1, []), some (.iaload, 1, []), some (.ifCond .ge 12, 3, []), none, none, some (.aload_n 0, 1, []), some (.getfield 392, 3, [9, 0, 11]), none, none, some (.bipush 10, 2, []), none, some (.if_icmp .ne 23, 3, []), none, none, some (.aload_n 0, 1, []), some (.aload_n 0, 1, []), some (.getfield 25, 3, [16, 0, 11]), none, none, some (.iload_n 2, 1, []), some (.iaload, 1, []), some (.ifCond .lt 7, 3, []), none, none, some (.iconst 2, 1, []), some (.goto 4, 3, []), none, none, some (.iconst 3, 1, []), some (.iload_n 1, 1, []), some (.invokevirtual 361, 3, [0, 2, 11, 184]), none, none, some (.return_, 1, []), some (.aload_n 0, 1, []), some (.invokevirtual 379, 3, [0, 0, 11, 177]), none, none, some (.aload_n 0, 1, []), some (.getfield 309, 3, [49, 0, 11]), none, none, some (.bipush 61, 2, []), none, some (.if_icmp .eq 13, 3, []), none, none, some (.aload_n 0, 1, []), some (.iconst 1, 1, []), some (.aload_n 0, 1, []), some (.getfield 298, 3, [50, 0, 11]), none, none, some (.invokevirtual 361, 3, [0, 2, 11, 184]), none, none, some (.return_, 1, []), some (.aload_n 0, 1, []), some (.getfield 25, 3, [16, 0, 11]), none, none, some (.iload_n 2, 1, []), some (.aload_n 0, 1, []), some (.getfield 392, 3, [9, 0, 11]), none, none, some (.iastore, 1, []), some (.aload_n 0, 1, []), some (.getfield 19, 3, [14, 0, 11]), none, none, some (.aload_n 0, 1, []), some (.getfield 392, 3, [9, 0, 11]), none, none, some (.iload_n 1, 1, []), some (.iastore, 1, []), some (.aload_n 0, 1, []), some (.iconst 0, 1, []), some (.putfield 348, 3, [51, 0, 0, 11]), none, none, some (.aload_n 0, 1, []), some (.getfield 120, 3, [53, 0, 11]), none, none, some (.iconst 0, 1, []), some (.aload_n 0, 1, []), some (.invokevirtual 373, 3, [0, 0, 11, 185]), none, none, some (.iastore, 1, []), some (.aload_n 0, 1, []), some (.getfield 22, 3, [15, 0, 11]), none, none, some (.aload_n 0, 1, []), some (.getfield 392, 3, [9, 0, 11]), none, none, some (.aload_n 0, 1, []), some (.getfield 120, 3, [53, 0, 11]), none, none, some (.iconst 0, 1, []), some (.iaload, 1, []), some (.iastore, 1, []), some (.aload_n 0, 1, []), some (.dup, 1, []), some (.getfield 392, 3, [9, 0, 11]), none, none, some (.iconst 1, 1, []), some (.iadd, 1, []), some (.putfield 392, 3, [9, 0, 0, 11]), none, none, some (.aload_n 0, 1, []), some (.invokevirtual 398, 3, [0, 0, 11, 186]), none, none, some (.return_, 1, [])]
/-- TwoWayGrammarModel.blame(II)V -/
def sb_184 : List (Option sm_I) := [some (.aload_n 0, 1, []), some (.getfield 325, 3, [8, 0, 11]), none, none, some (.ifCond .ne 13, 3, []), none, none, some (.aload_n 0, 1, []), some (.iload_n 1, 1, []), some (.bipush 16, 2, []), none, some (.iload_n 2, 1, []), some (.imul, 1, []), some (.iadd, 1, []), some (.putfield 325, 3, [8, 0, 0, 11]), none, none, some (.return_, 1, [])]
/-- TwoWayGrammarModel.newForm()I -/
def sb_185 : List (Option sm_I) := [some (.aload_n 0, 1, []), some (.getfield 68, 3, [30, 0, 11]), none, none, some (.aload_n 0, 1, []), some (.getfield 342, 3, [13, 0, 11]), none, none, some (.iconst (-1), 1, []), some (.iastore, 1, []), some (.aload_n 0, 1, []), some (.getfield 71, 3, [31, 0, 11]), none, none, some (.aload_n 0, 1, []), some (.getfield 342, 3, [13, 0, 11]), none, none, some (.iconst 0, 1, []), some (.iastore, 1, []), some (.aload_n 0, 1, []), some (.dup, 1, []), some (.getfield 342, 3, [13, 0, 11]), none, none, some (.dup_x1, 1, []), some (.iconst 1, 1, []), some (.iadd, 1, []), some (.putfield 342, 3, [13, 0, 0, 11]), none, none, some (.ireturn, 1, [])]
/-- TwoWayGrammarModel.form()V -/
def sb_186 : List (Option sm_I) := [some (.aload_n 0, 1, []), some (.iconst 0, 1, []), some (.putfield 348, 3, [51, 0, 0, 11]), none, none, some (.aload_n 0, 1, []), some (.iconst 0, 1, []), some (.invokevirtual 376, 3, [0, 1, 11, 187]), none, none, some (.iconst 1, 1, []), some (.istore_n 1, 1, []), some (.iconst 0, 1, []), some (.istore_n 2, 1, []), some (.iconst 0, 1, []), some (.istore_n 3, 1, []), some (.iconst 1, 1, []), some (.istore 4, 2, []), none, some (.iconst 0, 1, []), some (.istore 5, 2, []), none, some (.iload 5, 2, []), none, some (.sipush 300, 3, []), none, none, some (.if_icmp .ge 403, 3, []), none, none, some (.iload 4, 2, []), none, some (.ifCond .eq 398, 3, []), none, none, some (.aload_n 0, 1, []), some (.getfield 325, 3, [8, 0, 11]), none, none, some (.ifCond .ne 391, 3, []), none, none, some (.aload_n 0, 1, []), some (.invokevirtual 379, 3, [0, 0, 11, 177]), none, none, some (.aload_n 0, 1, []), some (.getfield 135, 3, [58, 0, 11]), none, none, some (.aload_n 0, 1, []), some (.getfield 348, 3, [51, 0, 11]), none, none, some (.baload, 1, []), some (.istore 6, 2, []), none, some (.aload_n 0, 1, []), some (.invokevirtual 382, 3, [0, 0, 11, 188]), none, none, some (.ifCond .eq 98, 3, []), none, none, some (.aload_n 0, 1, []), some (.getfield 309, 3, [49, 0, 11]), none, none, some (.bipush 40, 2, []), none, some (.if_icmp .ne 7, 3, []), none, none, some (.iconst 1, 1, []), some (.goto 4, 3, []), none, none, some (.iconst 0, 1, []), some (.istore 7, 2, []), none, some (.aload_n 0, 1, []), some (.getfield 309, 3, [49, 0, 11]), none, none, some (.iconst 1, 1, []), some (.if_icmp .ne 18, 3, []), none, none, some (.aload_n 0, 1, []), some (.getfield 301, 3, [52, 0, 11]), none, none, some (.invokestatic 354, 3, [0, 189, 1]), none, none, some (.iconst 1, 1, []), some (.if_icmp .ne 7, 3, []), none, none, some (.iconst 1, 1, []), some (.goto 4, 3, []), none, none, some (.iconst 0, 1, []), some (.istore 8, 2, []), none, some (.aload_n 0, 1, []), some (.invokevirtual 386, 3, [0, 0, 11, 190]), none, none, some (.iload 8, 2, []), none, some (.ifCond .eq 14, 3, []), none, none, some (.aload_n 0, 1, []), some (.getfield 325, 3, [8, 0, 11]), none, none, some (.ifCond .ne 7, 3, []), none, none, some (.aload_n 0, 1, []), some (.invokevirtual 389, 3, [0, 0, 11, 193]), none, none, some (.iload 7, 2, []), none, some (.istore_n 1, 1, []), some (.iload 7, 2, []), none, some (.ifCond .ne 7, 3, []), none, none, some (.iconst 1, 1, []), some (.goto 4, 3, []), none, none, some (.iconst 0, 1, []), some (.istore_n 2, 1, []), some (.iload 7, 2, []), none, some (.ifCond .ne 12, 3, []), none, none, some (.iload 6, 2, []), none, some (.ifCond .ne 7, 3, []), none, none, some (.iconst 1, 1, []), some (.goto 4, 3, []), none, none, some (.iconst 0, 1, []), some (.istore_n 3, 1, []), some (.goto 268, 3, []), none, none, some (.iload_n 1, 1, []), some (.ifCond .eq 15, 3, []), none, none, some (.aload_n 0, 1, []), some (.iconst 1, 1, []), some (.aload_n 0, 1, []), some (.getfield 298, 3, [50, 0, 11]), none, none, some (.invokevirtual 361, 3, [0, 2, 11, 184]), none, none, some (.goto 252, 3, []), none, none, some (.aload_n 0, 1, []), some (.getfield 309, 3, [49, 0, 11]), none, none, some (.bipush 42, 2, []), none, some (.if_icmp .eq 12, 3, []), none, none, some (.aload_n 0, 1, []), some (.getfield 309, 3, [49, 0, 11]), none, none, some (.bipush 63, 2, []), none, some (.if_icmp .ne 55, 3, []), none, none, some (.iload_n 2, 1, []), some (.ifCond .eq 51, 3, []), none, none, some (.aload_n 0, 1, []), some (.getfield 132, 3, [57, 0, 11]), none, none, some (.aload_n 0, 1, []), some (.getfield 348, 3, [51, 0, 11]), none, none, some (.iaload, 1, []), some (.istore 7, 2, []), none, some (.aload_n 0, 1, []), some (.getfield 47, 3, [23, 0, 11]), none, none, some (.iload 7, 2, []), none, some (.aload_n 0, 1, []), some (.getfield 309, 3, [49, 0, 11]), none, none, some (.bipush 42, 2, []), none, some (.if_icmp .ne 7, 3, []), none, none, some (.iconst 1, 1, []), some (.goto 4, 3, []), none, none, some (.iconst 2, 1, []), some (.iastore, 1, []), some (.aload_n 0, 1, []), some (.getfield 50, 3, [24, 0, 11]), none, none, some (.iload 7, 2, []), none, some (.aload_n 0, 1, []), some (.getfield 298, 3, [50, 0, 11]), none, none, some (.iastore, 1, []), some (.iconst 0, 1, []), some (.istore_n 2, 1, []), some (.goto 182, 3, []), none, none, some (.aload_n 0, 1, []), some (.getfield 309, 3, [49, 0, 11]), none, none, some (.bipush 126, 2, []), none, some (.if_icmp .ne 26, 3, []), none, none, some (.iload_n 3, 1, []), some (.ifCond .eq 22, 3, []), none, none, some (.aload_n 0, 1, []), some (.getfield 135, 3, [58, 0, 11]), none, none, some (.aload_n 0, 1, []), some (.getfield 348, 3, [51, 0, 11]), none, none, some (.iconst 1, 1, []), some (.bastore, 1, []), some (.iconst 1, 1, []), some (.istore_n 1, 1, []), some (.iconst 0, 1, []), some (.istore_n 2, 1, []), some (.iconst 0, 1, []), some (.istore_n 3, 1, []), some (.goto 150, 3, []), none, none, some (.aload_n 0, 1, []), some (.getfield 309, 3, [49, 0, 11]), none, none, some (.bipush 124, 2, []), none, some (.if_icmp .ne 47, 3, []), none, none, some (.aload_n 0, 1, []), some (.getfield 71, 3, [31, 0, 11]), none, none, some (.aload_n 0, 1, []), some (.getfield 120, 3, [53, 0, 11]), none, none, some (.aload_n 0, 1, []), some (.getfield 348, 3, [51, 0, 11]), none, none, some (.iaload, 1, []), some (.iaload, 1, []), some (.bipush 6, 2, []), none, some (.if_icmp .ne 15, 3, []), none, none, some (.aload_n 0, 1, []), some (.iconst 3, 1, []), some (.aload_n 0, 1, []), some (.getfield 298, 3, [50, 0, 11]), none, none, some (.invokevirtual 361, 3, [0, 2, 11, 184]), none, none, some (.goto 11, 3, []), none, none, some (.aload_n 0, 1, []), some (.aload_n 0, 1, []), some (.getfield 298, 3, [50, 0, 11]), none, none, some (.invokevirtual 376, 3, [0, 1, 11, 187]), none, none, some (.iconst 1, 1, []), some (.istore_n 1, 1, []), some (.goto 97, 3, []), none, none, some (.aload_n 0, 1, []), some (.getfield 309, 3, [49, 0, 11]), none, none, some (.bipush 41, 2, []), none, some (.if_icmp .ne 60, 3, []), none, none, some (.aload_n 0, 1, []), some (.getfield 348, 3, [51, 0, 11]), none, none, some (.ifCond .le 53, 3, []), none, none, some (.aload_n 0, 1, []), some (.getfield 126, 3, [55, 0, 11]), none, none, some (.aload_n 0, 1, []), some (.getfield 348, 3, [51, 0, 11]), none, none, some (.iaload, 1, []), some (.istore 7, 2, []), none, some (.aload_n 0, 1, []), some (.dup, 1, []), some (.getfield 348, 3, [51, 0, 11]), none, none, some (.iconst 1, 1, []), some (.isub, 1, []), some (.putfield 348, 3, [51, 0, 0, 11]), none, none, some (.aload_n 0, 1, []), some (.getfield 135, 3, [58, 0, 11]), none, none, some (.aload_n 0, 1, []), some (.getfield 348, 3, [51, 0, 11]), none, none, some (.baload, 1, []), some (.ifCond .ne 7, 3, []), none, none, some (.iconst 1, 1, []), some (.goto 4, 3, []), none, none, some (.iconst 0, 1, []), some (.istore_n 3, 1, []), some (.aload_n 0, 1, []), some (.iload 7, 2, []), none, some (.invokevirtual 369, 3, [0, 1, 11, 192]), none, none, some (.iconst 1, 1, []), some (.istore_n 2, 1, []), some (.goto 31, 3, []), none, none, some (.iconst 0, 1, []), some (.istore 4, 2, []), none, some (.aload_n 0, 1, []), some (.getfield 309, 3, [49, 0, 11]), none, none, some (.bipush 59, 2, []), none, some (.if_icmp .ne 10, 3, []), none, none, some (.aload_n 0, 1, []), some (.getfield 348, 3, [51, 0, 11]), none, none, some (.ifCond .le 12, 3, []), none, none, some (.aload_n 0, 1, []), some (.iconst 1, 1, []), some (.aload_n 0, 1, []), some (.getfield 298, 3, [50, 0, 11]), none, none, some (.invokevirtual 361, 3, [0, 2, 11, 184]), none, none, some (.iinc 5 1, 3, []), none, none, some (.goto (-405), 3, []), none, none, some (.return_, 1, [])]
/-- TwoWayGrammarModel.begin(I)V -/
def sb_187 : List (Option sm_I) := [some (.aload_n 0, 1, []), some (.dup, 1, []), some (.getfield 345, 3, [12, 0, 11]), none, none, some (.dup_x1, 1, []), some (.iconst 1, 1, []), some (.iadd, 1, []), some (.putfield 345, 3, [12, 0, 0, 11]), none, none, some (.istore_n 2, 1, []), some (.aload_n 0, 1, []), some (.getfield 59, 3, [27, 0, 11]), none, none, some (.iload_n 2, 1, []), some (.aload_n 0, 1, []), some (.getfield 65, 3, [29, 0, 11]), none, none, some (.iload_n 2, 1, []), some (.iconst (-1), 1, []), some (.dup_x2, 1, []), some (.iastore, 1, []), some (.iastore, 1, []), some (.aload_n 0, 1, []), some (.getfield 62, 3, [28, 0, 11]), none, none, some (.iload_n 2, 1, []), some (.iload_n 1, 1, []), some (.iastore, 1, []), some (.aload_n 0, 1, []), some (.getfield 120, 3, [53, 0, 11]), none, none, some (.aload_n 0, 1, []), some (.getfield 348, 3, [51, 0, 11]), none, none, some (.iaload, 1, []), some (.istore_n 3, 1, []), some (.aload_n 0, 1, []), some (.getfield 71, 3, [31, 0, 11]), none, none, some (.iload_n 3, 1, []), some (.iaload, 1, []), some (.ifCond .ne 13, 3, []), none, none, some (.aload_n 0, 1, []), some (.getfield 68, 3, [30, 0, 11]), none, none, some (.iload_n 3, 1, []), some (.iload_n 2, 1, []), some (.iastore, 1, []), some (.goto 18, 3, []), none, none, some (.aload_n 0, 1, []), some (.getfield 65, 3, [29, 0, 11]), none, none, some (.aload_n 0, 1, []), some (.getfield 123, 3, [54, 0, 11]), none, none, some (.aload_n 0, 1, []), some (.getfield 348, 3, [51, 0, 11]), none, none, some (.iaload, 1, []), some (.iload_n 2, 1, []), some (.iastore, 1, []), some (.aload_n 0, 1, []), some (.getfield 71, 3, [31, 0, 11]), none, none, some (.iload_n 3, 1, []), some (.dup2, 1, []), some (.iaload, 1, []), some (.iconst 1, 1, []), some (.iadd, 1, []), some (.iastore, 1, []), some (.aload_n 0, 1, []), some (.getfield 123, 3, [54, 0, 11]), none, none, some (.aload_n 0, 1, []), some (.getfield 348, 3, [51, 0, 11]), none, none, some (.iload_n 2, 1, []), some (.iastore, 1, []), some (.aload_n 0, 1, []), some (.getfield 129, 3, [56, 0, 11]), none, none, some (.aload_n 0, 1, []), some (.getfield 348, 3, [51, 0, 11]), none, none, some (.aload_n 0, 1, []), some (.getfield 132, 3, [57, 0, 11]), none, none, some (.aload_n 0, 1, []), some (.getfield 348, 3, [51, 0, 11]), none, none, some (.iconst (-1), 1, []), some (.dup_x2, 1, []), some (.iastore, 1, []), some (.iastore, 1, []), some (.aload_n 0, 1, []), some (.getfield 135, 3, [58, 0, 11]), none, none, some (.aload_n 0, 1, []), some (.getfield 348, 3, [51, 0, 11]), none, none, some (.iconst 0, 1, []), some (.bastore, 1, []), some (.return_, 1, [])]
/-- TwoWayGrammarModel.isPart()Z -/
def sb_188 : List (Option sm_I) := [some (.aload_n 0, 1, []), some (.getfield 309, 3, [49, 0, 11]), none, none, some (.iconst 1, 1, []), some (.if_icmp .ne 13, 3, []), none, none, some (.aload_n 0, 1, []), some (.getfield 301, 3, [52, 0, 11]), none, none, some (.invokestatic 354, 3, [0, 189, 1]), none, none, some (.ifCond .gt 36, 3, []), none, none, some (.aload_n 0, 1, []), some (.getfield 309, 3, [49, 0, 11]), none, none, some (.iconst 2, 1, []), some (.if_icmp .eq 28, 3, []), none, none, some (.aload_n 0, 1, []), some (.getfield 309, 3, [49, 0, 11]), none, none, some (.iconst 3, 1, []), some (.if_icmp .eq 20, 3, []), none, none, some (.aload_n 0, 1, []), some (.getfield 309, 3, [49, 0, 11]), none, none, some (.iconst 4, 1, []), some (.if_icmp .eq 12, 3, []), none, none, some (.aload_n 0, 1, []), some (.getfield 309, 3, [49, 0, 11]), none, none, some (.bipush 40, 2, []), none, some (.if_icmp .ne 7, 3, []), none, none, some (.iconst 1, 1, []), some (.goto 4, 3, []), none, none, some (.iconst 0, 1, []), some (.ireturn, 1, [])]
/-- TwoWayGrammarModel.sortOf(J)I -/
def sb_189 : List (Option sm_I) := [some (.lload_n 0, 1, []), some (.ldc2_w 328, 3, [609302190]), none, none, some (.lcmp, 1, []), some (.ifCond .ne 7, 3, []), none, none, some (.iconst 1, 1, []), some (.goto 78, 3, []), none, none, some (.lload_n 0, 1, []), some (.ldc2_w 330, 3, [177198]), none, none, some (.lcmp, 1, []), some (.ifCond .ne 7, 3, []), none, none, some (.iconst 2, 1, []), some (.goto 66, 3, []), none, none, some (.lload_n 0, 1, []), some (.ldc2_w 332, 3, [26886565]), none, none, some (.lcmp, 1, []), some (.ifCond .ne 7, 3, []), none, none, some (.iconst 3, 1, []), some (.goto 54, 3, []), none, none, some (.lload_n 0, 1, []), some (.ldc2_w 334, 3, [11994498]), none, none, some (.lcmp, 1, []), some (.ifCond .ne 7, 3, []), none, none, some (.iconst 4, 1, []), some (.goto 42, 3, []), none, none, some (.lload_n 0, 1, []), some (.ldc2_w 336, 3, [178476]), none, none, some (.lcmp, 1, []), some (.ifCond .ne 7, 3, []), none, none, some (.iconst 5, 1, []), some (.goto 30, 3, []), none, none, some (.lload_n 0, 1, []), some (.ldc2_w 338, 3, [609752228]), none, none, some (.lcmp, 1, []), some (.ifCond .ne 8, 3, []), none, none, some (.bipush 6, 2, []), none, some (.goto 17, 3, []), none, none, some (.lload_n 0, 1, []), some (.ldc2_w 340, 3, [363554]), none, none, some (.lcmp, 1, []), some (.ifCond .ne 8, 3, []), none, none, some (.bipush 7, 2, []), none, some (.goto 4, 3, []), none, none, some (.iconst (-1), 1, []), some (.ireturn, 1, [])]
/-- TwoWayGrammarModel.part()V -/
def sb_190 : List (Option sm_I) := [some (.aload_n 0, 1, []), some (.getfield 358, 3, [11, 0, 11]), none, none, some (.bipush 60, 2, []), none, some (.if_icmp .eq 20, 3, []), none, none, some (.aload_n 0, 1, []), some (.getfield 309, 3, [49, 0, 11]), none, none, some (.bipush 40, 2, []), none, some (.if_icmp .ne 21, 3, []), none, none, some (.aload_n 0, 1, []), some (.getfield 348, 3, [51, 0, 11]), none, none, some (.iconst 4, 1, []), some (.if_icmp .ne 13, 3, []), none, none, some (.aload_n 0, 1, []), some (.iconst 3, 1, []), some (.aload_n 0, 1, []), some (.getfield 298, 3, [50, 0, 11]), none, none, some (.invokevirtual 361, 3, [0, 2, 11, 184]), none, none, some (.return_, 1, []), some (.aload_n 0, 1, []), some (.dup, 1, []), some (.getfield 358, 3, [11, 0, 11]), none, none, some (.dup_x1, 1, []), some (.iconst 1, 1, []), some (.iadd, 1, []), some (.putfield 358, 3, [11, 0, 0, 11]), none, none, some (.istore_n 1, 1, []), some (.aload_n 0, 1, []), some (.getfield 38, 3, [20, 0, 11]), none, none, some (.iload_n 1, 1, []), some (.aload_n 0, 1, []), some (.getfield 309, 3, [49, 0, 11]), none, none, some (.iconst 1, 1, []), some (.if_icmp .ne 13, 3, []), none, none, some (.aload_n 0, 1, []), some (.getfield 301, 3, [52, 0, 11]), none, none, some (.invokestatic 354, 3, [0, 189, 1]), none, none, some (.goto 32, 3, []), none, none, some (.aload_n 0, 1, []), some (.getfield 309, 3, [49, 0, 11]), none, none, some (.iconst 2, 1, []), some (.if_icmp .ne 8, 3, []), none, none, some (.bipush 9, 2, []), none, some (.goto 19, 3, []), none, none, some (.aload_n 0, 1, []), some (.getfield 309, 3, [49, 0, 11]), none, none, some (.bipush 40, 2, []), none, some (.if_icmp .ne 8, 3, []), none, none, some (.bipush 10, 2, []), none, some (.goto 5, 3, []), none, none, some (.bipush 8, 2, []), none, some (.iastore, 1, []), some (.aload_n 0, 1, []), some (.getfield 41, 3, [21, 0, 11]), none, none, some (.iload_n 1, 1, []), some (.aload_n 0, 1, []), some (.getfield 309, 3, [49, 0, 11]), none, none, some (.iconst 2, 1, []), some (.if_icmp .ne 11, 3, []), none, none, some (.aload_n 0, 1, []), some (.getfield 301, 3, [52, 0, 11]), none, none, some (.l2i, 1, []), some (.goto 4, 3, []), none, none, some (.iconst 0, 1, []), some (.iastore, 1, []), some (.aload_n 0, 1, []), some (.getfield 44, 3, [22, 0, 11]), none, none, some (.iload_n 1, 1, []), some (.aload_n 0, 1, []), some (.getfield 298, 3, [50, 0, 11]), none, none, some (.iastore, 1, []), some (.aload_n 0, 1, []), some (.getfield 47, 3, [23, 0, 11]), none, none, some (.iload_n 1, 1, []), some (.iconst 0, 1, []), some (.iastore, 1, []), some (.aload_n 0, 1, []), some (.getfield 53, 3, [25, 0, 11]), none, none, some (.iload_n 1, 1, []), some (.aload_n 0, 1, []), some (.getfield 56, 3, [26, 0, 11]), none, none, some (.iload_n 1, 1, []), some (.iconst (-1), 1, []), some (.dup_x2, 1, []), some (.iastore, 1, []), some (.iastore, 1, []), some (.aload_n 0, 1, []), some (.getfield 38, 3, [20, 0, 11]), none, none, some (.iload_n 1, 1, []), some (.iaload, 1, []), some (.bipush 8, 2, []), none, some (.if_icmp .ne 33, 3, []), none, none, some (.aload_n 0, 1, []), some (.getfield 41, 3, [21, 0, 11]), none, none, some (.iload_n 1, 1, []), some (.aload_n 0, 1, []), some (.invokevirtual 365, 3, [0, 0, 11, 191]), none, none, some (.iastore, 1, []), some (.aload_n 0, 1, []), some (.getfield 41, 3, [21, 0, 11]), none, none, some (.iload_n 1, 1, []), some (.iaload, 1, []), some (.bipush 20, 2, []), none, some (.if_icmp .ne 12, 3, []), none, none, some (.aload_n 0, 1, []), some (.iconst 3, 1, []), some (.aload_n 0, 1, []), some (.getfield 298, 3, [50, 0, 11]), none, none, some (.invokevirtual 361, 3, [0, 2, 11, 184]), none, none, some (.aload_n 0, 1, []), some (.getfield 38, 3, [20, 0, 11]), none, none, some (.iload_n 1, 1, []), some (.iaload, 1, []), some (.bipush 10, 2, []), none, some (.if_icmp .eq 9, 3, []), none, none, some (.aload_n 0, 1, []), some (.iload_n 1, 1, []), some (.invokevirtual 369, 3, [0, 1, 11, 192]), none, none, some (.return_, 1, []), some (.aload_n 0, 1, []), some (.dup, 1, []), some (.getfield 348, 3, [51, 0, 11]), none, none, some (.iconst 1, 1, []), some (.iadd, 1, []), some (.putfield 348, 3, [51, 0, 0, 11]), none, none, some (.aload_n 0, 1, []), some (.getfield 126, 3, [55, 0, 11]), none, none, some (.aload_n 0, 1, []), some (.getfield 348, 3, [51, 0, 11]), none, none, some (.iload_n 1, 1, []), some (.iastore, 1, []), some (.aload_n 0, 1, []), some (.getfield 120, 3, [53, 0, 11]), none, none, some (.aload_n 0, 1, []), some (.getfield 348, 3, [51, 0, 11]), none, none, some (.aload_n 0, 1, []), some (.invokevirtual 373, 3, [0, 0, 11, 185]), none, none, some (.iastore, 1, []), some (.aload_n 0, 1, []), some (.getfield 41, 3, [21, 0, 11]), none, none, some (.iload_n 1, 1, []), some (.aload_n 0, 1, []), some (.getfield 120, 3, [53, 0, 11]), none, none, some (.aload_n 0, 1, []), some (.getfield 348, 3, [51, 0, 11]), none, none, some (.iaload, 1, []), some (.iastore, 1, []), some (.aload_n 0, 1, []), some (.iconst 0, 1, []), some (.invokevirtual 376, 3, [0, 1, 11, 187]), none, none, some (.return_, 1, [])]
/-- TwoWayGrammarModel.literal()I -/
def sb_191 : List (Option sm_I) := [some (.iconst 0, 1, []), some (.istore_n 1, 1, []), some (.iload_n 1, 1, []), some (.aload_n 0, 1, []), some (.getfield 351, 3, [10, 0, 11]), none, none, some (.if_icmp .ge 62, 3, []), none, none, some (.aload_n 0, 1, []), some (.getfield 309, 3, [49, 0, 11]), none, none, some (.iconst 3, 1, []), some (.if_icmp .ne 20, 3, []), none, none, some (.aload_n 0, 1, []), some (.getfield 34, 3, [19, 0, 11]), none, none, some (.iload_n 1, 1, []), some (.laload, 1, []), some (.aload_n 0, 1, []), some (.getfield 301, 3, [52, 0, 11]), none, none, some (.lcmp, 1, []), some (.ifCond .ne 34, 3, []), none, none, some (.goto 29, 3, []), none, none, some (.aload_n 0, 1, []), some (.getfield 34, 3, [19, 0, 11]), none, none, some (.iload_n 1, 1, []), some (.laload, 1, []), some (.lconst 0, 1, []), some (.lcmp, 1, []), some (.ifCond .ne 20, 3, []), none, none, some (.aload_n 0, 1, []), some (.getfield 31, 3, [18, 0, 11]), none, none, some (.iload_n 1, 1, []), some (.iaload, 1, []), some (.i2l, 1, []), some (.aload_n 0, 1, []), some (.getfield 301, 3, [52, 0, 11]), none, none, some (.lcmp, 1, []), some (.ifCond .ne 5, 3, []), none, none, some (.iload_n 1, 1, []), some (.ireturn, 1, []), some (.iinc 1 1, 3, []), none, none, some (.goto (-64), 3, []), none, none, some (.aload_n 0, 1, []), some (.getfield 351, 3, [10, 0, 11]), none, none, some (.bipush 20, 2, []), none, some (.if_icmp .ne 6, 3, []), none, none, some (.bipush 20, 2, []), none, some (.ireturn, 1, []), some (.aload_n 0, 1, []), some (.getfield 34, 3, [19, 0, 11]), none, none, some (.aload_n 0, 1, []), some (.getfield 351, 3, [10, 0, 11]), none, none, some (.aload_n 0, 1, []), some (.getfield 309, 3, [49, 0, 11]), none, none, some (.iconst 3, 1, []), some (.if_icmp .ne 10, 3, []), none, none, some (.aload_n 0, 1, []), some (.getfield 301, 3, [52, 0, 11]), none, none, some (.goto 4, 3, []), none, none, some (.lconst 0, 1, []), some (.lastore, 1, []), some (.aload_n 0, 1, []), some (.getfield 31, 3, [18, 0, 11]), none, none, some (.aload_n 0, 1, []), some (.getfield 351, 3, [10, 0, 11]), none, none, some (.aload_n 0, 1, []), some (.getfield 309, 3, [49, 0, 11]), none, none, some (.iconst 4, 1, []), some (.if_icmp .ne 11, 3, []), none, none, some (.aload_n 0, 1, []), some (.getfield 301, 3, [52, 0, 11]), none, none, some (.l2i, 1, []), some (.goto 4, 3, []), none, none, some (.iconst 0, 1, []), some (.iastore, 1, []), some (.aload_n 0, 1, []), some (.dup, 1, []), some (.getfield 351, 3, [10, 0, 11]), none, none, some (.dup_x1, 1, []), some (.iconst 1, 1, []), some (.iadd, 1, []), some (.putfield 351, 3, [10, 0, 0, 11]), none, none, some (.ireturn, 1, [])]
/-- TwoWayGrammarModel.put(I)V -/
def sb_192 : List (Option sm_I) := [some (.aload_n 0, 1, []), some (.getfield 135, 3, [58, 0, 11]), none, none, some (.aload_n 0, 1, []), some (.getfield 348, 3, [51, 0, 11]), none, none, some (.baload, 1, []), some (.ifCond .eq 21, 3, []), none, none, some (.aload_n 0, 1, []), some (.getfield 53, 3, [25, 0, 11]), none, none, some (.aload_n 0, 1, []), some (.getfield 129, 3, [56, 0, 11]), none, none, some (.aload_n 0, 1, []), some (.getfield 348, 3, [51, 0, 11]), none, none, some (.iaload, 1, []), some (.iload_n 1, 1, []), some (.iastore, 1, []), some (.goto 48, 3, []), none, none, some (.aload_n 0, 1, []), some (.getfield 129, 3, [56, 0, 11]), none, none, some (.aload_n 0, 1, []), some (.getfield 348, 3, [51, 0, 11]), none, none, some (.iaload, 1, []), some (.ifCond .ge 21, 3, []), none, none, some (.aload_n 0, 1, []), some (.getfield 59, 3, [27, 0, 11]), none, none, some (.aload_n 0, 1, []), some (.getfield 123, 3, [54, 0, 11]), none, none, some (.aload_n 0, 1, []), some (.getfield 348, 3, [51, 0, 11]), none, none, some (.iaload, 1, []), some (.iload_n 1, 1, []), some (.iastore, 1, []), some (.goto 18, 3, []), none, none, some (.aload_n 0, 1, []), some (.getfield 56, 3, [26, 0, 11]), none, none, some (.aload_n 0, 1, []), some (.getfield 129, 3, [56, 0, 11]), none, none, some (.aload_n 0, 1, []), some (.getfield 348, 3, [51, 0, 11]), none, none, some (.iaload, 1, []), some (.iload_n 1, 1, []), some (.iastore, 1, []), some (.aload_n 0, 1, []), some (.getfield 129, 3, [56, 0, 11]), none, none, some (.aload_n 0, 1, []), some (.getfield 348, 3, [51, 0, 11]), none, none, some (.aload_n 0, 1, []), some (.getfield 135, 3, [58, 0, 11]), none, none, some (.aload_n 0, 1, []), some (.getfield 348, 3, [51, 0, 11]), none, none, some (.baload, 1, []), some (.ifCond .eq 15, 3, []), none, none, some (.aload_n 0, 1, []), some (.getfield 129, 3, [56, 0, 11]), none, none, some (.aload_n 0, 1, []), some (.getfield 348, 3, [51, 0, 11]), none, none, some (.iaload, 1, []), some (.goto 4, 3, []), none, none, some (.iload_n 1, 1, []), some (.iastore, 1, []), some (.aload_n 0, 1, []), some (.getfield 132, 3, [57, 0, 11]), none, none, some (.aload_n 0, 1, []), some (.getfield 348, 3, [51, 0, 11]), none, none, some (.iload_n 1, 1, []), some (.iastore, 1, []), some (.aload_n 0, 1, []), some (.getfield 135, 3, [58, 0, 11]), none, none, some (.aload_n 0, 1, []), some (.getfield 348, 3, [51, 0, 11]), none, none, some (.iconst 0, 1, []), some (.bastore, 1, []), some (.return_, 1, [])]
/-- TwoWayGrammarModel.plus()V -/
def sb_193 : List (Option sm_I) := [some (.aload_n 0, 1, []), some (.getfield 291, 3, [48, 0, 11]), none, none, some (.istore_n 1, 1, []), some (.aload_n 0, 1, []), some (.invokevirtual 379, 3, [0, 0, 11, 177]), none, none, some (.aload_n 0, 1, []), some (.getfield 309, 3, [49, 0, 11]), none, none, some (.bipush 43, 2, []), none, some (.if_icmp .eq 9, 3, []), none, none, some (.aload_n 0, 1, []), some (.iload_n 1, 1, []), some (.putfield 291, 3, [48, 0, 0, 11]), none, none, some (.return_, 1, []), some (.aload_n 0, 1, []), some (.invokevirtual 379, 3, [0, 0, 11, 177]), none, none, some (.aload_n 0, 1, []), some (.getfield 309, 3, [49, 0, 11]), none, none, some (.iconst 5, 1, []), some (.if_icmp .ne 22, 3, []), none, none, some (.aload_n 0, 1, []), some (.getfield 41, 3, [21, 0, 11]), none, none, some (.aload_n 0, 1, []), some (.getfield 358, 3, [11, 0, 11]), none, none, some (.iconst 1, 1, []), some (.isub, 1, []), some (.aload_n 0, 1, []), some (.getfield 301, 3, [52, 0, 11]), none, none, some (.l2i, 1, []), some (.iastore, 1, []), some (.goto 12, 3, []), none, none, some (.aload_n 0, 1, []), some (.iconst 1, 1, []), some (.aload_n 0, 1, []), some (.getfield 298, 3, [50, 0, 11]), none, none, some (.invokevirtual 361, 3, [0, 2, 11, 184]), none, none, some (.return_, 1, [])]
/-- TwoWayGrammarModel.study()V -/
def sb_194 : List (Option sm_I) := [some (.iconst 0, 1, []), some (.istore_n 1, 1, []), some (.iload_n 1, 1, []), some (.aload_n 0, 1, []), some (.getfield 342, 3, [13, 0, 11]), none, none, some (.if_icmp .ge 60, 3, []), none, none, some (.aload_n 0, 1, []), some (.getfield 81, 3, [34, 0, 11]), none, none, some (.iload_n 1, 1, []), some (.iconst 0, 1, []), some (.bastore, 1, []), some (.aload_n 0, 1, []), some (.getfield 90, 3, [37, 0, 11]), none, none, some (.iload_n 1, 1, []), some (.lconst 0, 1, []), some (.lastore, 1, []), some (.aload_n 0, 1, []), some (.getfield 105, 3, [42, 0, 11]), none, none, some (.iload_n 1, 1, []), some (.iconst 0, 1, []), some (.iastore, 1, []), some (.aload_n 0, 1, []), some (.getfield 114, 3, [45, 0, 11]), none, none, some (.iload_n 1, 1, []), some (.sipush 1000, 3, []), none, none, some (.iastore, 1, []), some (.aload_n 0, 1, []), some (.getfield 96, 3, [39, 0, 11]), none, none, some (.iload_n 1, 1, []), some (.iload_n 1, 1, []), some (.aload_n 0, 1, []), some (.getfield 22, 3, [15, 0, 11]), none, none, some (.iconst 0, 1, []), some (.iaload, 1, []), some (.if_icmp .ne 7, 3, []), none, none, some (.lconst 1, 1, []), some (.goto 4, 3, []), none, none, some (.lconst 0, 1, []), some (.lastore, 1, []), some (.iinc 1 1, 3, []), none, none, some (.goto (-62), 3, []), none, none, some (.aload_n 0, 1, []), some (.iconst 1, 1, []), some (.putfield 407, 3, [47, 3, 0, 11]), none, none, some (.iconst 0, 1, []), some (.istore_n 1, 1, []), some (.iload_n 1, 1, []), some (.sipush 900, 3, []), none, none, some (.if_icmp .ge 84, 3, []), none, none, some (.aload_n 0, 1, []), some (.getfield 407, 3, [47, 0, 11]), none, none, some (.ifCond .eq 77, 3, []), none, none, some (.aload_n 0, 1, []), some (.iconst 0, 1, []), some (.putfield 407, 3, [47, 3, 0, 11]), none, none, some (.iconst 0, 1, []), some (.istore_n 2, 1, []), some (.iload_n 2, 1, []), some (.aload_n 0, 1, []), some (.getfield 358, 3, [11, 0, 11]), none, none, some (.if_icmp .ge 14, 3, []), none, none, some (.aload_n 0, 1, []), some (.iload_n 2, 1, []), some (.invokevirtual 411, 3, [0, 1, 11, 195]), none, none, some (.iinc 2 1, 3, []), none, none, some (.goto (-16), 3, []), none, none, some (.iconst 0, 1, []), some (.istore_n 2, 1, []), some (.iload_n 2, 1, []), some (.aload_n 0, 1, []), some (.getfield 345, 3, [12, 0, 11]), none, none, some (.if_icmp .ge 14, 3, []), none, none, some (.aload_n 0, 1, []), some (.iload_n 2, 1, []), some (.invokevirtual 414, 3, [0, 1, 11, 196]), none, none, some (.iinc 2 1, 3, []), none, none, some (.goto (-16), 3, []), none, none, some (.iconst 0, 1, []), some (.istore_n 2, 1, []), some (.iload_n 2, 1, []), some (.aload_n 0, 1, []), some (.getfield 342, 3, [13, 0, 11]), none, none, some (.if_icmp .ge 14, 3, []), none, none, some (.aload_n 0, 1, []), some (.iload_n 2, 1, []), some (.invokevirtual 417, 3, [0, 1, 11, 199]), none, none, some (.iinc 2 1, 3, []), none, none, some (.goto (-16), 3, []), none, none, some (.iinc 1 1, 3, []), none, none, some (.goto (-85), 3, []), none, none, some (.aload_n 0, 1, []), some (.iconst 1, 1, []), some (.putfield 407, 3, [47, 3, 0, 11]), none, none, some (.iconst 0, 1, []), some (.istore_n 1, 1, []), some (.iload_n 1, 1, []), some (.sipush 900, 3, []), none, none, some (.if_icmp .ge 69, 3, []), none, none, some (.aload_n 0, 1, []), some (.getfield 407, 3, [47, 0, 11]), none, none, some (.ifCond .eq 62, 3, []), none, none, some (.aload_n 0, 1, []), some (.iconst 0, 1, []), some (.putfield 407, 3, [47, 3, 0, 11]), none, none, some (.iconst 0, 1, []), some (.istore_n 2, 1, []), some (.iload_n 2, 1, []), some (.aload_n 0, 1, []), some (.getfield 342, 3, [13, 0, 11]), none, none, some (.if_icmp .ge 41, 3, []), none, none, some (.aload_n 0, 1, []), some (.getfield 68, 3, [30, 0, 11]), none, none, some (.iload_n 2, 1, []), some (.iaload, 1, []), some (.istore_n 3, 1, []), some (.iload_n 3, 1, []), some (.ifCond .lt 24, 3, []), none, none, some (.aload_n 0, 1, []), some (.iload_n 3, 1, []), some (.aload_n 0, 1, []), some (.getfield 96, 3, [39, 0, 11]), none, none, some (.iload_n 2, 1, []), some (.laload, 1, []), some (.invokevirtual 420, 3, [0, 2, 11, 200]), none, none, some (.aload_n 0, 1, []), some (.getfield 65, 3, [29, 0, 11]), none, none, some (.iload_n 3, 1, []), some (.iaload, 1, []), some (.istore_n 3, 1, []), some (.goto (-22), 3, []), none, none, some (.iinc 2 1, 3, []), none, none, some (.goto (-43), 3, []), none, none, some (.iinc 1 1, 3, []), none, none, some (.goto (-70), 3, []), none, none, some (.iconst 0, 1, []), some (.istore_n 1, 1, []), some (.iload_n 1, 1, []), some (.aload_n 0, 1, []), some (.getfield 392, 3, [9, 0, 11]), none, none, some (.if_icmp .ge 26, 3, []), none, none, some (.aload_n 0, 1, []), some (.getfield 28, 3, [17, 0, 11]), none, none, some (.iload_n 1, 1, []), some (.aload_n 0, 1, []), some (.getfield 105, 3, [42, 0, 11]), none, none, some (.aload_n 0, 1, []), some (.getfield 22, 3, [15, 0, 11]), none, none, some (.iload_n 1, 1, []), some (.iaload, 1, []), some (.iaload, 1, []), some (.iastore, 1, []), some (.iinc 1 1, 3, []), none, none, some (.goto (-28), 3, []), none, none, some (.iconst 0, 1, []), some (.istore_n 1, 1, []), some (.iload_n 1, 1, []), some (.aload_n 0, 1, []), some (.getfield 392, 3, [9, 0, 11]), none, none, some (.if_icmp .ge 67, 3, []), none, none, some (.iconst 0, 1, []), some (.istore_n 2, 1, []), some (.iload_n 2, 1, []), some (.aload_n 0, 1, []), some (.getfield 392, 3, [9, 0, 11]), none, none, some (.if_icmp .ge 51, 3, []), none, none, some (.aload_n 0, 1, []), some (.getfield 28, 3, [17, 0, 11]), none, none, some (.iload_n 2, 1, []), some (.aload_n 0, 1, []), some (.getfield 28, 3, [17, 0, 11]), none, none, some (.iload_n 2, 1, []), some (.iaload, 1, []), some (.iload_n 1, 1, []), some (.ishr, 1, []), some (.iconst 1, 1, []), some (.iand, 1, []), some (.iconst 1, 1, []), some (.if_icmp .ne 19, 3, []), none, none, some (.aload_n 0, 1, []), some (.getfield 28, 3, [17, 0, 11]), none, none, some (.iload_n 2, 1, []), some (.iaload, 1, []), some (.aload_n 0, 1, []), some (.getfield 28, 3, [17, 0, 11]), none, none, some (.iload_n 1, 1, []), some (.iaload, 1, []), some (.ior, 1, []), some (.goto 9, 3, []), none, none, some (.aload_n 0, 1, []), some (.getfield 28, 3, [17, 0, 11]), none, none, some (.iload_n 2, 1, []), some (.iaload, 1, []), some (.iastore, 1, []), some (.iinc 2 1, 3, []), none, none, some (.goto (-53), 3, []), none, none, some (.iinc 1 1, 3, []), none, none, some (.goto (-69), 3, []), none, none, some (.return_, 1, [])]
/-- TwoWayGrammarModel.weigh(I)V -/
def sb_195 : List (Option sm_I) := [some (.aload_n 0, 1, []), some (.getfield 38, 3, [20, 0, 11]), none, none, some (.iload_n 1, 1, []), some (.iaload, 1, []), some (.istore_n 2, 1, []), some (.iload_n 2, 1, []), some (.bipush 10, 2, []), none, some (.if_icmp .ne 12, 3, []), none, none, some (.aload_n 0, 1, []), some (.getfield 41, 3, [21, 0, 11]), none, none, some (.iload_n 1, 1, []), some (.iaload, 1, []), some (.goto 29, 3, []), none, none, some (.iload_n 2, 1, []), some (.bipush 9, 2, []), none, some (.if_icmp .ne 22, 3, []), none, none, some (.aload_n 0, 1, []), some (.getfield 22, 3, [15, 0, 11]), none, none, some (.aload_n 0, 1, []), some (.getfield 25, 3, [16, 0, 11]), none, none, some (.aload_n 0, 1, []), some (.getfield 41, 3, [21, 0, 11]), none, none, some (.iload_n 1, 1, []), some (.iaload, 1, []), some (.iaload, 1, []), some (.iaload, 1, []), some (.goto 4, 3, []), none, none, some (.iconst (-1), 1, []), some (.istore_n 3, 1, []), some (.aload_n 0, 1, []), some (.getfield 74, 3, [32, 0, 11]), none, none, some (.iload_n 1, 1, []), some (.iload_n 3, 1, []), some (.ifCond .lt 12, 3, []), none, none, some (.aload_n 0, 1, []), some (.getfield 81, 3, [34, 0, 11]), none, none, some (.iload_n 3, 1, []), some (.baload, 1, []), some (.goto 19, 3, []), none, none, some (.iload_n 2, 1, []), some (.iconst 2, 1, []), some (.if_icmp .le 13, 3, []), none, none, some (.iload_n 2, 1, []), some (.bipush 8, 2, []), none, some (.if_icmp .ge 7, 3, []), none, none, some (.iconst 1, 1, []), some (.goto 4, 3, []), none, none, some (.iconst 0, 1, []), some (.bastore, 1, []), some (.aload_n 0, 1, []), some (.getfield 84, 3, [35, 0, 11]), none, none, some (.iload_n 1, 1, []), some (.iload_n 3, 1, []), some (.ifCond .lt 12, 3, []), none, none, some (.aload_n 0, 1, []), some (.getfield 90, 3, [37, 0, 11]), none, none, some (.iload_n 3, 1, []), some (.laload, 1, []), some (.goto 39, 3, []), none, none, some (.iload_n 2, 1, []), some (.iconst 1, 1, []), some (.if_icmp .eq 8, 3, []), none, none, some (.iload_n 2, 1, []), some (.iconst 2, 1, []), some (.if_icmp .ne 9, 3, []), none, none, some (.lconst 1, 1, []), some (.iload_n 2, 1, []), some (.lshl, 1, []), some (.goto 23, 3, []), none, none, some (.iload_n 2, 1, []), some (.bipush 8, 2, []), none, some (.if_icmp .ne 16, 3, []), none, none, some (.lconst 1, 1, []), some (.iconst 3, 1, []), some (.aload_n 0, 1, []), some (.getfield 41, 3, [21, 0, 11]), none, none, some (.iload_n 1, 1, []), some (.iaload, 1, []), some (.iadd, 1, []), some (.lshl, 1, []), some (.goto 4, 3, []), none, none, some (.lconst 0, 1, []), some (.lastore, 1, []), some (.aload_n 0, 1, []), some (.getfield 99, 3, [40, 0, 11]), none, none, some (.iload_n 1, 1, []), some (.iload_n 2, 1, []), some (.bipush 9, 2, []), none, some (.if_icmp .ne 19, 3, []), none, none, some (.iconst 1, 1, []), some (.aload_n 0, 1, []), some (.getfield 25, 3, [16, 0, 11]), none, none, some (.aload_n 0, 1, []), some (.getfield 41, 3, [21, 0, 11]), none, none, some (.iload_n 1, 1, []), some (.iaload, 1, []), some (.iaload, 1, []), some (.ishl, 1, []), some (.goto 17, 3, []), none, none, some (.iload_n 3, 1, []), some (.ifCond .lt 12, 3, []), none, none, some (.aload_n 0, 1, []), some (.getfield 105, 3, [42, 0, 11]), none, none, some (.iload_n 3, 1, []), some (.iaload, 1, []), some (.goto 4, 3, []), none, none, some (.iconst 0, 1, []), some (.iastore, 1, []), some (.aload_n 0, 1, []), some (.getfield 108, 3, [43, 0, 11]), none, none, some (.iload_n 1, 1, []), some (.iload_n 2, 1, []), some (.bipush 9, 2, []), none, some (.if_icmp .ne 14, 3, []), none, none, some (.aload_n 0, 1, []), some (.getfield 114, 3, [45, 0, 11]), none, none, some (.iload_n 3, 1, []), some (.iaload, 1, []), some (.iconst 1, 1, []), some (.iadd, 1, []), some (.goto 17, 3, []), none, none, some (.iload_n 3, 1, []), some (.ifCond .lt 12, 3, []), none, none, some (.aload_n 0, 1, []), some (.getfield 114, 3, [45, 0, 11]), none, none, some (.iload_n 3, 1, []), some (.iaload, 1, []), some (.goto 4, 3, []), none, none, some (.iconst 0, 1, []), some (.iastore, 1, []), some (.return_, 1, [])]
/-- TwoWayGrammarModel.alternative(I)V -/
def sb_196 : List (Option sm_I) := [some (.aload_n 0, 1, []), some (.iload_n 1, 1, []), some (.invokevirtual 401, 3, [0, 1, 11, 197]), none, none, some (.istore_n 2, 1, []), some (.iconst 1, 1, []), some (.istore_n 3, 1, []), some (.lconst 0, 1, []), some (.lstore 4, 2, []), none, some (.iconst 0, 1, []), some (.istore 6, 2, []), none, some (.iconst 0, 1, []), some (.istore 7, 2, []), none, some (.iconst 0, 1, []), some (.istore 8, 2, []), none, some (.iload 8, 2, []), none, some (.iload_n 2, 1, []), some (.if_icmp .ge 118, 3, []), none, none, some (.aload_n 0, 1, []), some (.getfield 117, 3, [46, 0, 11]), none, none, some (.iload 8, 2, []), none, some (.iaload, 1, []), some (.istore 9, 2, []), none, some (.iload_n 3, 1, []), some (.ifCond .eq 16, 3, []), none, none, some (.lload 4, 2, []), none, some (.aload_n 0, 1, []), some (.getfield 84, 3, [35, 0, 11]), none, none, some (.iload 9, 2, []), none, some (.laload, 1, []), some (.lor, 1, []), some (.goto 5, 3, []), none, none, some (.lload 4, 2, []), none, some (.lstore 4, 2, []), none, some (.iload_n 3, 1, []), some (.ifCond .eq 16, 3, []), none, none, some (.iload 6, 2, []), none, some (.aload_n 0, 1, []), some (.getfield 99, 3, [40, 0, 11]), none, none, some (.iload 9, 2, []), none, some (.iaload, 1, []), some (.ior, 1, []), some (.goto 5, 3, []), none, none, some (.iload 6, 2, []), none, some (.istore 6, 2, []), none, some (.iload_n 3, 1, []), some (.ifCond .eq 16, 3, []), none, none, some (.aload_n 0, 1, []), some (.iload 9, 2, []), none, some (.invokevirtual 404, 3, [0, 1, 11, 198]), none, none, some (.ifCond .eq 7, 3, []), none, none, some (.iconst 1, 1, []), some (.goto 4, 3, []), none, none, some (.iconst 0, 1, []), some (.istore_n 3, 1, []), some (.aload_n 0, 1, []), some (.getfield 47, 3, [23, 0, 11]), none, none, some (.iload 9, 2, []), none, some (.iaload, 1, []), some (.ifCond .le 7, 3, []), none, none, some (.iconst 0, 1, []), some (.goto 10, 3, []), none, none, some (.aload_n 0, 1, []), some (.getfield 108, 3, [43, 0, 11]), none, none, some (.iload 9, 2, []), none, some (.iaload, 1, []), some (.istore 10, 2, []), none, some (.iload 10, 2, []), none, some (.iload 7, 2, []), none, some (.if_icmp .le 8, 3, []), none, none, some (.iload 10, 2, []), none, some (.goto 5, 3, []), none, none, some (.iload 7, 2, []), none, some (.istore 7, 2, []), none, some (.iinc 8 1, 3, []), none, none, some (.goto (-118), 3, []), none, none, some (.aload_n 0, 1, []), some (.getfield 78, 3, [33, 0, 11]), none, none, some (.iload_n 1, 1, []), some (.iload_n 3, 1, []), some (.bastore, 1, []), some (.aload_n 0, 1, []), some (.getfield 87, 3, [36, 0, 11]), none, none, some (.iload_n 1, 1, []), some (.lload 4, 2, []), none, some (.lastore, 1, []), some (.aload_n 0, 1, []), some (.getfield 102, 3, [41, 0, 11]), none, none, some (.iload_n 1, 1, []), some (.iload 6, 2, []), none, some (.iastore, 1, []), some (.aload_n 0, 1, []), some (.getfield 111, 3, [44, 0, 11]), none, none, some (.iload_n 1, 1, []), some (.iload 7, 2, []), none, some (.sipush 1000, 3, []), none, none, some (.if_icmp .le 9, 3, []), none, none, some (.sipush 1000, 3, []), none, none, some (.goto 5, 3, []), none, none, some (.iload 7, 2, []), none, some (.iastore, 1, []), some (.return_, 1, [])]
/-- TwoWayGrammarModel.line(I)I -/
def sb_197 : List (Option sm_I) := [some (.iconst 0, 1, []), some (.istore_n 2, 1, []), some (.aload_n 0, 1, []), some (.getfield 59, 3, [27, 0, 11]), none, none, some (.iload_n 1, 1, []), some (.iaload, 1, []), some (.istore_n 3, 1, []), some (.iload_n 3, 1, []), some (.ifCond .lt 47, 3, []), none, none, some (.aload_n 0, 1, []), some (.getfield 117, 3, [46, 0, 11]), none, none, some (.iload_n 2, 1, []), some (.iinc 2 1, 3, []), none, none, some (.iload_n 3, 1, []), some (.iastore, 1, []), some (.aload_n 0, 1, []), some (.getfield 53, 3, [25, 0, 11]), none, none, some (.iload_n 3, 1, []), some (.iaload, 1, []), some (.ifCond .lt 18, 3, []), none, none, some (.aload_n 0, 1, []), some (.getfield 117, 3, [46, 0, 11]), none, none, some (.iload_n 2, 1, []), some (.iinc 2 1, 3, []), none, none, some (.aload_n 0, 1, []), some (.getfield 53, 3, [25, 0, 11]), none, none, some (.iload_n 3, 1, []), some (.iaload, 1, []), some (.iastore, 1, []), some (.aload_n 0, 1, []), some (.getfield 56, 3, [26, 0, 11]), none, none, some (.iload_n 3, 1, []), some (.iaload, 1, []), some (.istore_n 3, 1, []), some (.goto (-45), 3, []), none, none, some (.iload_n 2, 1, []), some (.ireturn, 1, [])]
/-- TwoWayGrammarModel.isVoid(I)Z -/
def sb_198 : List (Option sm_I) := [some (.aload_n 0, 1, []), some (.getfield 47, 3, [23, 0, 11]), none, none, some (.iload_n 1, 1, []), some (.iaload, 1, []), some (.ifCond .gt 12, 3, []), none, none, some (.aload_n 0, 1, []), some (.getfield 74, 3, [32, 0, 11]), none, none, some (.iload_n 1, 1, []), some (.baload, 1, []), some (.ifCond .eq 7, 3, []), none, none, some (.iconst 1, 1, []), some (.goto 4, 3, []), none, none, some (.iconst 0, 1, []), some (.ireturn, 1, [])]
/-- TwoWayGrammarModel.formOf(I)V -/
def sb_199 : List (Option sm_I) := [some (.iconst 0, 1, []), some (.istore_n 2, 1, []), some (.lconst 0, 1, []), some (.lstore_n 3, 1, []), some (.iconst 0, 1, []), some (.istore 5, 2, []), none, some (.sipush 1000, 3, []), none, none, some (.istore 6, 2, []), none, some (.aload_n 0, 1, []), some (.getfield 68, 3, [30, 0, 11]), none, none, some (.iload_n 1, 1, []), some (.iaload, 1, []), some (.istore 7, 2, []), none, some (.iload 7, 2, []), none, some (.ifCond .lt 83, 3, []), none, none, some (.iload_n 2, 1, []), some (.ifCond .ne 13, 3, []), none, none, some (.aload_n 0, 1, []), some (.getfield 78, 3, [33, 0, 11]), none, none, some (.iload 7, 2, []), none, some (.baload, 1, []), some (.ifCond .eq 7, 3, []), none, none, some (.iconst 1, 1, []), some (.goto 4, 3, []), none, none, some (.iconst 0, 1, []), some (.istore_n 2, 1, []), some (.lload_n 3, 1, []), some (.aload_n 0, 1, []), some (.getfield 87, 3, [36, 0, 11]), none, none, some (.iload 7, 2, []), none, some (.laload, 1, []), some (.lor, 1, []), some (.lstore_n 3, 1, []), some (.iload 5, 2, []), none, some (.aload_n 0, 1, []), some (.getfield 102, 3, [41, 0, 11]), none, none, some (.iload 7, 2, []), none, some (.iaload, 1, []), some (.ior, 1, []), some (.istore 5, 2, []), none, some (.aload_n 0, 1, []), some (.getfield 111, 3, [44, 0, 11]), none, none, some (.iload 7, 2, []), none, some (.iaload, 1, []), some (.iload 6, 2, []), none, some (.if_icmp .ge 13, 3, []), none, none, some (.aload_n 0, 1, []), some (.getfield 111, 3, [44, 0, 11]), none, none, some (.iload 7, 2, []), none, some (.iaload, 1, []), some (.goto 5, 3, []), none, none, some (.iload 6, 2, []), none, some (.istore 6, 2, []), none, some (.aload_n 0, 1, []), some (.getfield 65, 3, [29, 0, 11]), none, none, some (.iload 7, 2, []), none, some (.iaload, 1, []), some (.istore 7, 2, []), none, some (.goto (-82), 3, []), none, none, some (.aload_n 0, 1, []), some (.aload_n 0, 1, []), some (.getfield 407, 3, [47, 0, 11]), none, none, some (.ifCond .ne 46, 3, []), none, none, some (.iload_n 2, 1, []), some (.aload_n 0, 1, []), some (.getfield 81, 3, [34, 0, 11]), none, none, some (.iload_n 1, 1, []), some (.baload, 1, []), some (.if_icmp .ne 36, 3, []), none, none, some (.lload_n 3, 1, []), some (.aload_n 0, 1, []), some (.getfield 90, 3, [37, 0, 11]), none, none, some (.iload_n 1, 1, []), some (.laload, 1, []), some (.lcmp, 1, []), some (.ifCond .ne 25, 3, []), none, none, some (.iload 5, 2, []), none, some (.aload_n 0, 1, []), some (.getfield 105, 3, [42, 0, 11]), none, none, some (.iload_n 1, 1, []), some (.iaload, 1, []), some (.if_icmp .ne 14, 3, []), none, none, some (.iload 6, 2, []), none, some (.aload_n 0, 1, []), some (.getfield 114, 3, [45, 0, 11]), none, none, some (.iload_n 1, 1, []), some (.iaload, 1, []), some (.if_icmp .eq 7, 3, []), none, none, some (.iconst 1, 1, []), some (.goto 4, 3, []), none, none, some (.iconst 0, 1, []), some (.putfield 407, 3, [47, 3, 0, 11]), none, none, some (.aload_n 0, 1, []), some (.getfield 81, 3, [34, 0, 11]), none, none, some (.iload_n 1, 1, []), some (.iload_n 2, 1, []), some (.bastore, 1, []), some (.aload_n 0, 1, []), some (.getfield 90, 3, [37, 0, 11]), none, none, some (.iload_n 1, 1, []), some (.lload_n 3, 1, []), some (.lastore, 1, []), some (.aload_n 0, 1, []), some (.getfield 105, 3, [42, 0, 11]), none, none, some (.iload_n 1, 1, []), some (.iload 5, 2, []), none, some (.iastore, 1, []), some (.aload_n 0, 1, []), some (.getfield 114, 3, [45, 0, 11]), none, none, some (.iload_n 1, 1, []), some (.iload 6, 2, []), none, some (.iastore, 1, []), some (.return_, 1, [])]
/-- TwoWayGrammarModel.behind(IJ)V -/
def sb_200 : List (Option sm_I) := [some (.lload_n 2, 1, []), some (.lstore 4, 2, []), none, some (.aload_n 0, 1, []), some (.iload_n 1, 1, []), some (.invokevirtual 401, 3, [0, 1, 11, 197]), none, none, some (.iconst 1, 1, []), some (.isub, 1, []), some (.istore 6, 2, []), none, some (.iload 6, 2, []), none, some (.ifCond .lt 200, 3, []), none, none, some (.aload_n 0, 1, []), some (.getfield 117, 3, [46, 0, 11]), none, none, some (.iload 6, 2, []), none, some (.iaload, 1, []), some (.istore 7, 2, []), none, some (.aload_n 0, 1, []), some (.getfield 93, 3, [38, 0, 11]), none, none, some (.iload 7, 2, []), none, some (.lload 4, 2, []), none, some (.lastore, 1, []), some (.aload_n 0, 1, []), some (.getfield 47, 3, [23, 0, 11]), none, none, some (.iload 7, 2, []), none, some (.iaload, 1, []), some (.iconst 1, 1, []), some (.if_icmp .ne 16, 3, []), none, none, some (.lload 4, 2, []), none, some (.aload_n 0, 1, []), some (.getfield 84, 3, [35, 0, 11]), none, none, some (.iload 7, 2, []), none, some (.laload, 1, []), some (.lor, 1, []), some (.goto 5, 3, []), none, none, some (.lload 4, 2, []), none, some (.lstore 8, 2, []), none, some (.aload_n 0, 1, []), some (.getfield 38, 3, [20, 0, 11]), none, none, some (.iload 7, 2, []), none, some (.iaload, 1, []), some (.bipush 10, 2, []), none, some (.if_icmp .ne 13, 3, []), none, none, some (.aload_n 0, 1, []), some (.getfield 41, 3, [21, 0, 11]), none, none, some (.iload 7, 2, []), none, some (.iaload, 1, []), some (.goto 36, 3, []), none, none, some (.aload_n 0, 1, []), some (.getfield 38, 3, [20, 0, 11]), none, none, some (.iload 7, 2, []), none, some (.iaload, 1, []), some (.bipush 9, 2, []), none, some (.if_icmp .ne 23, 3, []), none, none, some (.aload_n 0, 1, []), some (.getfield 22, 3, [15, 0, 11]), none, none, some (.aload_n 0, 1, []), some (.getfield 25, 3, [16, 0, 11]), none, none, some (.aload_n 0, 1, []), some (.getfield 41, 3, [21, 0, 11]), none, none, some (.iload 7, 2, []), none, some (.iaload, 1, []), some (.iaload, 1, []), some (.iaload, 1, []), some (.goto 4, 3, []), none, none, some (.iconst (-1), 1, []), some (.istore 10, 2, []), none, some (.aload_n 0, 1, []), some (.aload_n 0, 1, []), some (.getfield 407, 3, [47, 0, 11]), none, none, some (.ifCond .ne 27, 3, []), none, none, some (.iload 10, 2, []), none, some (.ifCond .lt 26, 3, []), none, none, some (.lload 8, 2, []), none, some (.aload_n 0, 1, []), some (.getfield 96, 3, [39, 0, 11]), none, none, some (.iload 10, 2, []), none, some (.laload, 1, []), some (.ldc2_w 321, 3, [18446744073709551615]), none, none, some (.lxor, 1, []), some (.land, 1, []), some (.lconst 0, 1, []), some (.lcmp, 1, []), some (.ifCond .eq 7, 3, []), none, none, some (.iconst 1, 1, []), some (.goto 4, 3, []), none, none, some (.iconst 0, 1, []), some (.putfield 407, 3, [47, 3, 0, 11]), none, none, some (.iload 10, 2, []), none, some (.ifCond .lt 15, 3, []), none, none, some (.aload_n 0, 1, []), some (.getfield 96, 3, [39, 0, 11]), none, none, some (.iload 10, 2, []), none, some (.dup2, 1, []), some (.laload, 1, []), some (.lload 8, 2, []), none, some (.lor, 1, []), some (.lastore, 1, []), some (.aload_n 0, 1, []), some (.iload 7, 2, []), none, some (.invokevirtual 404, 3, [0, 1, 11, 198]), none, none, some (.ifCond .eq 16, 3, []), none, none, some (.lload 4, 2, []), none, some (.aload_n 0, 1, []), some (.getfield 84, 3, [35, 0, 11]), none, none, some (.iload 7, 2, []), none, some (.laload, 1, []), some (.lor, 1, []), some (.goto 10, 3, []), none, none, some (.aload_n 0, 1, []), some (.getfield 84, 3, [35, 0, 11]), none, none, some (.iload 7, 2, []), none, some (.laload, 1, []), some (.lstore 4, 2, []), none, some (.iinc 6 (-1), 3, []), none, none, some (.goto (-199), 3, []), none, none, some (.return_, 1, [])]
/-- TwoWayGrammarModel.check()I -/
def sb_201 : List (Option sm_I) := [some (.iconst 0, 1, []), some (.istore_n 1, 1, []), some (.iconst 0, 1, []), some (.istore_n 2, 1, []), some (.iload_n 2, 1, []), some (.aload_n 0, 1, []), some (.getfield 392, 3, [9, 0, 11]), none, none, some (.if_icmp .ge 67, 3, []), none, none, some (.aload_n 0, 1, []), some (.getfield 28, 3, [17, 0, 11]), none, none, some (.iload_n 2, 1, []), some (.iaload, 1, []), some (.iload_n 2, 1, []), some (.ishr, 1, []), some (.iconst 1, 1, []), some (.iand, 1, []), some (.iconst 1, 1, []), some (.if_icmp .ne 16, 3, []), none, none, some (.aload_n 0, 1, []), some (.iload_n 1, 1, []), some (.iconst 5, 1, []), some (.aload_n 0, 1, []), some (.getfield 19, 3, [14, 0, 11]), none, none, some (.iload_n 2, 1, []), some (.iaload, 1, []), some (.invokevirtual 424, 3, [0, 3, 11, 202]), none, none, some (.istore_n 1, 1, []), some (.aload_n 0, 1, []), some (.getfield 114, 3, [45, 0, 11]), none, none, some (.aload_n 0, 1, []), some (.getfield 22, 3, [15, 0, 11]), none, none, some (.iload_n 2, 1, []), some (.iaload, 1, []), some (.iaload, 1, []), some (.sipush 1000, 3, []), none, none, some (.if_icmp .lt 17, 3, []), none, none, some (.aload_n 0, 1, []), some (.iload_n 1, 1, []), some (.bipush 6, 2, []), none, some (.aload_n 0, 1, []), some (.getfield 19, 3, [14, 0, 11]), none, none, some (.iload_n 2, 1, []), some (.iaload, 1, []), some (.invokevirtual 424, 3, [0, 3, 11, 202]), none, none, some (.istore_n 1, 1, []), some (.iinc 2 1, 3, []), none, none, some (.goto (-69), 3, []), none, none, some (.iconst 0, 1, []), some (.istore_n 2, 1, []), some (.iload_n 2, 1, []), some (.aload_n 0, 1, []), some (.getfield 358, 3, [11, 0, 11]), none, none, some (.if_icmp .ge 82, 3, []), none, none, some (.aload_n 0, 1, []), some (.getfield 47, 3, [23, 0, 11]), none, none, some (.iload_n 2, 1, []), some (.iaload, 1, []), some (.ifCond .le 26, 3, []), none, none, some (.aload_n 0, 1, []), some (.getfield 74, 3, [32, 0, 11]), none, none, some (.iload_n 2, 1, []), some (.baload, 1, []), some (.ifCond .eq 17, 3, []), none, none, some (.aload_n 0, 1, []), some (.iload_n 1, 1, []), some (.bipush 7, 2, []), none, some (.aload_n 0, 1, []), some (.getfield 50, 3, [24, 0, 11]), none, none, some (.iload_n 2, 1, []), some (.iaload, 1, []), some (.invokevirtual 424, 3, [0, 3, 11, 202]), none, none, some (.istore_n 1, 1, []), some (.aload_n 0, 1, []), some (.getfield 47, 3, [23, 0, 11]), none, none, some (.iload_n 2, 1, []), some (.iaload, 1, []), some (.ifCond .le 35, 3, []), none, none, some (.aload_n 0, 1, []), some (.getfield 84, 3, [35, 0, 11]), none, none, some (.iload_n 2, 1, []), some (.laload, 1, []), some (.aload_n 0, 1, []), some (.getfield 93, 3, [38, 0, 11]), none, none, some (.iload_n 2, 1, []), some (.laload, 1, []), some (.land, 1, []), some (.lconst 0, 1, []), some (.lcmp, 1, []), some (.ifCond .eq 17, 3, []), none, none, some (.aload_n 0, 1, []), some (.iload_n 1, 1, []), some (.bipush 9, 2, []), none, some (.aload_n 0, 1, []), some (.getfield 50, 3, [24, 0, 11]), none, none, some (.iload_n 2, 1, []), some (.iaload, 1, []), some (.invokevirtual 424, 3, [0, 3, 11, 202]), none, none, some (.istore_n 1, 1, []), some (.iinc 2 1, 3, []), none, none, some (.goto (-84), 3, []), none, none, some (.iconst 0, 1, []), some (.istore_n 2, 1, []), some (.iload_n 2, 1, []), some (.aload_n 0, 1, []), some (.getfield 342, 3, [13, 0, 11]), none, none, some (.if_icmp .ge 74, 3, []), none, none, some (.lconst 0, 1, []), some (.lstore_n 3, 1, []), some (.aload_n 0, 1, []), some (.getfield 68, 3, [30, 0, 11]), none, none, some (.iload_n 2, 1, []), some (.iaload, 1, []), some (.istore 5, 2, []), none, some (.iload 5, 2, []), none, some (.ifCond .lt 53, 3, []), none, none, some (.aload_n 0, 1, []), some (.iload_n 2, 1, []), some (.iload 5, 2, []), none, some (.invokevirtual 428, 3, [0, 2, 11, 203]), none, none, some (.lstore 6, 2, []), none, some (.lload_n 3, 1, []), some (.lload 6, 2, []), none, some (.land, 1, []), some (.lconst 0, 1, []), some (.lcmp, 1, []), some (.ifCond .eq 18, 3, []), none, none, some (.aload_n 0, 1, []), some (.iload_n 1, 1, []), some (.bipush 8, 2, []), none, some (.aload_n 0, 1, []), some (.getfield 62, 3, [28, 0, 11]), none, none, some (.iload 5, 2, []), none, some (.iaload, 1, []), some (.invokevirtual 424, 3, [0, 3, 11, 202]), none, none, some (.istore_n 1, 1, []), some (.lload_n 3, 1, []), some (.lload 6, 2, []), none, some (.lor, 1, []), some (.lstore_n 3, 1, []), some (.aload_n 0, 1, []), some (.getfield 65, 3, [29, 0, 11]), none, none, some (.iload 5, 2, []), none, some (.iaload, 1, []), some (.istore 5, 2, []), none, some (.goto (-52), 3, []), none, none, some (.iinc 2 1, 3, []), none, none, some (.goto (-76), 3, []), none, none, some (.iload_n 1, 1, []), some (.ireturn, 1, [])]
/-- TwoWayGrammarModel.least(III)I -/
def sb_202 : List (Option sm_I) := [some (.iload_n 2, 1, []), some (.bipush 16, 2, []), none, some (.iload_n 3, 1, []), some (.imul, 1, []), some (.iadd, 1, []), some (.istore 4, 2, []), none, some (.iload_n 1, 1, []), some (.ifCond .eq 9, 3, []), none, none, some (.iload 4, 2, []), none, some (.iload_n 1, 1, []), some (.if_icmp .ge 8, 3, []), none, none, some (.iload 4, 2, []), none, some (.goto 4, 3, []), none, none, some (.iload_n 1, 1, []), some (.ireturn, 1, [])]
/-- TwoWayGrammarModel.directors(II)J -/
def sb_203 : List (Option sm_I) := [some (.aload_n 0, 1, []), some (.getfield 87, 3, [36, 0, 11]), none, none, some (.iload_n 2, 1, []), some (.laload, 1, []), some (.aload_n 0, 1, []), some (.getfield 78, 3, [33, 0, 11]), none, none, some (.iload_n 2, 1, []), some (.baload, 1, []), some (.ifCond .eq 12, 3, []), none, none, some (.aload_n 0, 1, []), some (.getfield 96, 3, [39, 0, 11]), none, none, some (.iload_n 1, 1, []), some (.laload, 1, []), some (.goto 4, 3, []), none, none, some (.lconst 0, 1, []), some (.lor, 1, []), some (.lreturn, 1, [])]
/-- TwoWayGrammarModel.rule(II)J -/
def sb_204 : List (Option sm_I) := [some (.aload_n 0, 1, []), some (.aload_n 0, 1, []), some (.getfield 435, 3, [7, 0, 11]), none, none, some (.ifCond .ne 7, 3, []), none, none, some (.iconst 1, 1, []), some (.goto 33, 3, []), none, none, some (.iload_n 1, 1, []), some (.ifCond .lt 11, 3, []), none, none, some (.iload_n 1, 1, []), some (.aload_n 0, 1, []), some (.getfield 392, 3, [9, 0, 11]), none, none, some (.if_icmp .lt 7, 3, []), none, none, some (.iconst 2, 1, []), some (.goto 17, 3, []), none, none, some (.iload_n 2, 1, []), some (.ifCond .lt 8, 3, []), none, none, some (.iload_n 2, 1, []), some (.iconst 3, 1, []), some (.if_icmp .le 7, 3, []), none, none, some (.iconst 3, 1, []), some (.goto 4, 3, []), none, none, some (.iconst 0, 1, []), some (.putfield 195, 3, [0, 0, 0, 11]), none, none, some (.aload_n 0, 1, []), some (.getfield 195, 3, [0, 0, 11]), none, none, some (.ifCond .le 5, 3, []), none, none, some (.lconst 0, 1, []), some (.lreturn, 1, []), some (.aload_n 0, 1, []), some (.getfield 22, 3, [15, 0, 11]), none, none, some (.iload_n 1, 1, []), some (.iaload, 1, []), some (.istore_n 3, 1, []), some (.iload_n 2, 1, []), some (.tableswitch 55 0 2 #[26, 33, 40], 26, []), none, none, none, none, none, none, none, none, none, none, none, none, none, none, none, none, none, none, none, none, none, none, none, none, none, some (.aload_n 0, 1, []), some (.getfield 90, 3, [37, 0, 11]), none, none, some (.iload_n 3, 1, []), some (.laload, 1, []), some (.lreturn, 1, []), some (.aload_n 0, 1, []), some (.getfield 96, 3, [39, 0, 11]), none, none, some (.iload_n 3, 1, []), some (.laload, 1, []), some (.lreturn, 1, []), some (.aload_n 0, 1, []), some (.getfield 81, 3, [34, 0, 11]), none, none, some (.iload_n 3, 1, []), some (.baload, 1, []), some (.ifCond .eq 7, 3, []), none, none, some (.lconst 1, 1, []), some (.goto 4, 3, []), none, none, some (.lconst 0, 1, []), some (.lreturn, 1, []), some (.aload_n 0, 1, []), some (.getfield 114, 3, [45, 0, 11]), none, none, some (.iload_n 3, 1, []), some (.iaload, 1, []), some (.sipush 1000, 3, []), none, none, some (.if_icmp .lt 9, 3, []), none, none, some (.ldc2_w 321, 3, [18446744073709551615]), none, none, some (.goto 12, 3, []), none, none, some (.aload_n 0, 1, []), some (.getfield 114, 3, [45, 0, 11]), none, none, some (.iload_n 3, 1, []), some (.iaload, 1, []), some (.i2l, 1, []), some (.lconst 1, 1, []), some (.ladd, 1, []), some (.lreturn, 1, [])]
/-- TwoWayGrammarModel.print()I -/
def sb_205 : List (Option sm_I) := [some (.aload_n 0, 1, []), some (.aload_n 0, 1, []), some (.getfield 441, 3, [63, 0, 11]), none, none, some (.ifCond .ne 7, 3, []), none, none, some (.iconst 1, 1, []), some (.goto 4, 3, []), none, none, some (.iconst 0, 1, []), some (.putfield 195, 3, [0, 0, 0, 11]), none, none, some (.aload_n 0, 1, []), some (.getfield 195, 3, [0, 0, 11]), none, none, some (.ifCond .le 5, 3, []), none, none, some (.iconst 0, 1, []), some (.ireturn, 1, []), some (.aload_n 0, 1, []), some (.aload_n 0, 1, []), some (.iconst 0, 1, []), some (.dup_x1, 1, []), some (.putfield 563, 3, [84, 0, 0, 11]), none, none, some (.putfield 566, 3, [85, 0, 0, 11]), none, none, some (.aload_n 0, 1, []), some (.aload_n 0, 1, []), some (.iconst 0, 1, []), some (.dup_x1, 1, []), some (.putfield 560, 3, [94, 3, 0, 11]), none, none, some (.putfield 557, 3, [93, 3, 0, 11]), none, none, some (.aload_n 0, 1, []), some (.iconst 2, 1, []), some (.invokevirtual 583, 3, [0, 1, 11, 206]), none, none, some (.aload_n 0, 1, []), some (.aload_n 0, 1, []), some (.getfield 487, 3, [92, 0, 11]), none, none, some (.ifCond .eq 7, 3, []), none, none, some (.iconst 2, 1, []), some (.goto 4, 3, []), none, none, some (.iconst 0, 1, []), some (.putfield 195, 3, [0, 0, 0, 11]), none, none, some (.aload_n 0, 1, []), some (.getfield 487, 3, [92, 0, 11]), none, none, some (.ifCond .eq 5, 3, []), none, none, some (.iconst 0, 1, []), some (.ireturn, 1, []), some (.iconst 0, 1, []), some (.istore_n 1, 1, []), some (.iload_n 1, 1, []), some (.aload_n 0, 1, []), some (.getfield 566, 3, [85, 0, 11]), none, none, some (.if_icmp .ge 21, 3, []), none, none, some (.aload_n 0, 1, []), some (.getfield 16, 3, [6, 0, 11]), none, none, some (.iload_n 1, 1, []), some (.aload_n 0, 1, []), some (.getfield 192, 3, [91, 0, 11]), none, none, some (.iload_n 1, 1, []), some (.iaload, 1, []), some (.iastore, 1, []), some (.iinc 1 1, 3, []), none, none, some (.goto (-23), 3, []), none, none, some (.aload_n 0, 1, []), some (.aload_n 0, 1, []), some (.getfield 566, 3, [85, 0, 11]), none, none, some (.putfield 586, 3, [3, 0, 0, 11]), none, none, some (.aload_n 0, 1, []), some (.getfield 586, 3, [3, 0, 11]), none, none, some (.ireturn, 1, [])]
/-- TwoWayGrammarModel.walk(I)V -/
def sb_206 : List (Option sm_I) := [some (.aload_n 0, 1, []), some (.iload_n 1, 1, []), some (.putfield 466, 3, [76, 0, 0, 11]), none, none, some (.aload_n 0, 1, []), some (.aload_n 0, 1, []), some (.aload_n 0, 1, []), some (.aload_n 0, 1, []), some (.aload_n 0, 1, []), some (.aload_n 0, 1, []), some (.iconst 0, 1, []), some (.dup_x1, 1, []), some (.putfield 469, 3, [81, 0, 0, 11]), none, none, some (.dup_x1, 1, []), some (.putfield 472, 3, [64, 0, 0, 11]), none, none, some (.dup_x1, 1, []), some (.putfield 475, 3, [80, 0, 0, 11]), none, none, some (.dup_x1, 1, []), some (.putfield 478, 3, [79, 0, 0, 11]), none, none, some (.dup_x1, 1, []), some (.putfield 481, 3, [78, 0, 0, 11]), none, none, some (.putfield 463, 3, [77, 0, 0, 11]), none, none, some (.aload_n 0, 1, []), some (.iconst (-1), 1, []), some (.putfield 484, 3, [82, 0, 0, 11]), none, none, some (.aload_n 0, 1, []), some (.iconst 0, 1, []), some (.putfield 487, 3, [92, 3, 0, 11]), none, none, some (.aload_n 0, 1, []), some (.iconst 0, 1, []), some (.invokevirtual 490, 3, [0, 1, 11, 207]), none, none, some (.iconst 0, 1, []), some (.istore_n 2, 1, []), some (.iload_n 2, 1, []), some (.ldc_w 493, 3, [0, 40000]), none, none, some (.if_icmp .ge 191, 3, []), none, none, some (.aload_n 0, 1, []), some (.getfield 463, 3, [77, 0, 11]), none, none, some (.ifCond .le 184, 3, []), none, none, some (.aload_n 0, 1, []), some (.getfield 484, 3, [82, 0, 11]), none, none, some (.ifCond .ge 177, 3, []), none, none, some (.aload_n 0, 1, []), some (.getfield 487, 3, [92, 0, 11]), none, none, some (.ifCond .ne 170, 3, []), none, none, some (.aload_n 0, 1, []), some (.dup, 1, []), some (.getfield 463, 3, [77, 0, 11]), none, none, some (.iconst 1, 1, []), some (.isub, 1, []), some (.putfield 463, 3, [77, 0, 0, 11]), none, none, some (.aload_n 0, 1, []), some (.getfield 180, 3, [87, 0, 11]), none, none, some (.aload_n 0, 1, []), some (.getfield 463, 3, [77, 0, 11]), none, none, some (.iaload, 1, []), some (.istore_n 3, 1, []), some (.aload_n 0, 1, []), some (.getfield 183, 3, [88, 0, 11]), none, none, some (.aload_n 0, 1, []), some (.getfield 463, 3, [77, 0, 11]), none, none, some (.iaload, 1, []), some (.istore 4, 2, []), none, some (.aload_n 0, 1, []), some (.getfield 177, 3, [86, 0, 11]), none, none, some (.aload_n 0, 1, []), some (.getfield 463, 3, [77, 0, 11]), none, none, some (.iaload, 1, []), some (.tableswitch 101 0 5 #[40, 58, 101, 66, 84, 91], 40, []), none, none, none, none, none, none, none, none, none, none, none, none, none, none, none, none, none, none, none, none, none, none, none, none, none, none, none, none, none, none, none, none, none, none, none, none, none, none, none, some (.aload_n 0, 1, []), some (.iload_n 3, 1, []), some (.iload 4, 2, []), none, some (.ifCond .le 7, 3, []), none, none, some (.iconst 1, 1, []), some (.goto 4, 3, []), none, none, some (.iconst 0, 1, []), some (.invokevirtual 494, 3, [0, 2, 11, 210]), none, none, some (.goto 66, 3, []), none, none, some (.aload_n 0, 1, []), some (.iload_n 3, 1, []), some (.invokevirtual 498, 3, [0, 1, 11, 223]), none, none, some (.goto 58, 3, []), none, none, some (.aload_n 0, 1, []), some (.getfield 189, 3, [90, 0, 11]), none, none, some (.aload_n 0, 1, []), some (.getfield 481, 3, [78, 0, 11]), none, none, some (.iconst 1, 1, []), some (.isub, 1, []), some (.aload_n 0, 1, []), some (.getfield 472, 3, [64, 0, 11]), none, none, some (.iastore, 1, []), some (.goto 40, 3, []), none, none, some (.aload_n 0, 1, []), some (.invokevirtual 501, 3, [0, 0, 11, 226]), none, none, some (.goto 33, 3, []), none, none, some (.aload_n 0, 1, []), some (.iload_n 3, 1, []), some (.iload 4, 2, []), none, some (.invokevirtual 504, 3, [0, 2, 11, 227]), none, none, some (.goto 23, 3, []), none, none, some (.aload_n 0, 1, []), some (.dup, 1, []), some (.getfield 478, 3, [79, 0, 11]), none, none, some (.iconst 1, 1, []), some (.isub, 1, []), some (.putfield 478, 3, [79, 0, 0, 11]), none, none, some (.aload_n 0, 1, []), some (.dup, 1, []), some (.getfield 475, 3, [80, 0, 11]), none, none, some (.iload_n 3, 1, []), some (.isub, 1, []), some (.putfield 475, 3, [80, 0, 0, 11]), none, none, some (.iinc 2 1, 3, []), none, none, some (.goto (-192), 3, []), none, none, some (.aload_n 0, 1, []), some (.getfield 466, 3, [76, 0, 11]), none, none, some (.ifCond .ne 42, 3, []), none, none, some (.aload_n 0, 1, []), some (.getfield 484, 3, [82, 0, 11]), none, none, some (.ifCond .ge 35, 3, []), none, none, some (.aload_n 0, 1, []), some (.getfield 487, 3, [92, 0, 11]), none, none, some (.ifCond .ne 28, 3, []), none, none, some (.aload_n 0, 1, []), some (.getfield 138, 3, [60, 0, 11]), none, none, some (.aload_n 0, 1, []), some (.getfield 469, 3, [81, 0, 11]), none, none, some (.iaload, 1, []), some (.ifCond .eq 16, 3, []), none, none, some (.aload_n 0, 1, []), some (.aload_n 0, 1, []), some (.getfield 141, 3, [61, 0, 11]), none, none, some (.aload_n 0, 1, []), some (.getfield 469, 3, [81, 0, 11]), none, none, some (.iaload, 1, []), some (.putfield 484, 3, [82, 0, 0, 11]), none, none, some (.return_, 1, [])]
end
section
/-- TwoWayGrammarModel.enter(I)V -/
def sb_207 : List (Option sm_I) := [some (.aload_n 0, 1, []), some (.aload_n 0, 1, []), some (.getfield 475, 3, [80, 0, 11]), none, none, some (.bipush 12, 2, []), none, some (.if_icmp .ne 15, 3, []), none, none, some (.aload_n 0, 1, []), some (.getfield 466, 3, [76, 0, 11]), none, none, some (.iconst 2, 1, []), some (.if_icmp .eq 7, 3, []), none, none, some (.iconst 1, 1, []), some (.goto 4, 3, []), none, none, some (.iconst 0, 1, []), some (.putfield 487, 3, [92, 3, 0, 11]), none, none, some (.aload_n 0, 1, []), some (.getfield 487, 3, [92, 0, 11]), none, none, some (.ifCond .eq 4, 3, []), none, none, some (.return_, 1, []), some (.aload_n 0, 1, []), some (.dup, 1, []), some (.getfield 514, 3, [83, 0, 11]), none, none, some (.iconst 1, 1, []), some (.isub, 1, []), some (.putfield 514, 3, [83, 0, 0, 11]), none, none, some (.aload_n 0, 1, []), some (.iconst 1, 1, []), some (.iload_n 1, 1, []), some (.i2l, 1, []), some (.invokevirtual 517, 3, [0, 2, 11, 208]), none, none, some (.pop, 1, []), some (.aload_n 0, 1, []), some (.dup, 1, []), some (.getfield 475, 3, [80, 0, 11]), none, none, some (.iconst 1, 1, []), some (.iadd, 1, []), some (.putfield 475, 3, [80, 0, 0, 11]), none, none, some (.aload_n 0, 1, []), some (.dup, 1, []), some (.getfield 478, 3, [79, 0, 11]), none, none, some (.iconst 1, 1, []), some (.iadd, 1, []), some (.putfield 478, 3, [79, 0, 0, 11]), none, none, some (.aload_n 0, 1, []), some (.iconst 2, 1, []), some (.iconst 1, 1, []), some (.iconst 0, 1, []), some (.invokevirtual 521, 3, [0, 3, 11, 209]), none, none, some (.aload_n 0, 1, []), some (.iconst 1, 1, []), some (.aload_n 0, 1, []), some (.getfield 22, 3, [15, 0, 11]), none, none, some (.iload_n 1, 1, []), some (.iaload, 1, []), some (.iconst 0, 1, []), some (.invokevirtual 521, 3, [0, 3, 11, 209]), none, none, some (.return_, 1, [])]
/-- TwoWayGrammarModel.comes(IJ)I -/
def sb_208 : List (Option sm_I) := [some (.aload_n 0, 1, []), some (.getfield 466, 3, [76, 0, 11]), none, none, some (.iconst 2, 1, []), some (.if_icmp .ne 15, 3, []), none, none, some (.aload_n 0, 1, []), some (.dup, 1, []), some (.getfield 469, 3, [81, 0, 11]), none, none, some (.dup_x1, 1, []), some (.iconst 1, 1, []), some (.iadd, 1, []), some (.putfield 469, 3, [81, 0, 0, 11]), none, none, some (.ireturn, 1, []), some (.aload_n 0, 1, []), some (.aload_n 0, 1, []), some (.getfield 472, 3, [64, 0, 11]), none, none, some (.bipush 100, 2, []), none, some (.if_icmp .ne 7, 3, []), none, none, some (.iconst 1, 1, []), some (.goto 4, 3, []), none, none, some (.iconst 0, 1, []), some (.putfield 487, 3, [92, 3, 0, 11]), none, none, some (.aload_n 0, 1, []), some (.getfield 487, 3, [92, 0, 11]), none, none, some (.ifCond .eq 5, 3, []), none, none, some (.iconst 0, 1, []), some (.ireturn, 1, []), some (.aload_n 0, 1, []), some (.getfield 156, 3, [69, 0, 11]), none, none, some (.aload_n 0, 1, []), some (.getfield 472, 3, [64, 0, 11]), none, none, some (.iload_n 1, 1, []), some (.iastore, 1, []), some (.aload_n 0, 1, []), some (.getfield 171, 3, [74, 0, 11]), none, none, some (.aload_n 0, 1, []), some (.getfield 472, 3, [64, 0, 11]), none, none, some (.lload_n 2, 1, []), some (.lastore, 1, []), some (.aload_n 0, 1, []), some (.getfield 159, 3, [70, 0, 11]), none, none, some (.aload_n 0, 1, []), some (.getfield 472, 3, [64, 0, 11]), none, none, some (.aload_n 0, 1, []), some (.getfield 478, 3, [79, 0, 11]), none, none, some (.iastore, 1, []), some (.aload_n 0, 1, []), some (.getfield 162, 3, [71, 0, 11]), none, none, some (.aload_n 0, 1, []), some (.getfield 472, 3, [64, 0, 11]), none, none, some (.aload_n 0, 1, []), some (.getfield 472, 3, [64, 0, 11]), none, none, some (.iastore, 1, []), some (.aload_n 0, 1, []), some (.dup, 1, []), some (.getfield 472, 3, [64, 0, 11]), none, none, some (.dup_x1, 1, []), some (.iconst 1, 1, []), some (.iadd, 1, []), some (.putfield 472, 3, [64, 0, 0, 11]), none, none, some (.ireturn, 1, [])]
/-- TwoWayGrammarModel.push(III)V -/
def sb_209 : List (Option sm_I) := [some (.aload_n 0, 1, []), some (.getfield 177, 3, [86, 0, 11]), none, none, some (.aload_n 0, 1, []), some (.getfield 463, 3, [77, 0, 11]), none, none, some (.iload_n 1, 1, []), some (.iastore, 1, []), some (.aload_n 0, 1, []), some (.getfield 180, 3, [87, 0, 11]), none, none, some (.aload_n 0, 1, []), some (.getfield 463, 3, [77, 0, 11]), none, none, some (.iload_n 2, 1, []), some (.iastore, 1, []), some (.aload_n 0, 1, []), some (.getfield 183, 3, [88, 0, 11]), none, none, some (.aload_n 0, 1, []), some (.dup, 1, []), some (.getfield 463, 3, [77, 0, 11]), none, none, some (.dup_x1, 1, []), some (.iconst 1, 1, []), some (.iadd, 1, []), some (.putfield 463, 3, [77, 0, 0, 11]), none, none, some (.iload_n 3, 1, []), some (.iastore, 1, []), some (.return_, 1, [])]
/-- TwoWayGrammarModel.unit(IZ)V -/
def sb_210 : List (Option sm_I) := [some (.iload_n 2, 1, []), some (.ifCond .eq 23, 3, []), none, none, some (.aload_n 0, 1, []), some (.getfield 186, 3, [89, 0, 11]), none, none, some (.aload_n 0, 1, []), some (.dup, 1, []), some (.getfield 481, 3, [78, 0, 11]), none, none, some (.dup_x1, 1, []), some (.iconst 1, 1, []), some (.iadd, 1, []), some (.putfield 481, 3, [78, 0, 0, 11]), none, none, some (.aload_n 0, 1, []), some (.getfield 472, 3, [64, 0, 11]), none, none, some (.iastore, 1, []), some (.aload_n 0, 1, []), some (.getfield 47, 3, [23, 0, 11]), none, none, some (.iload_n 1, 1, []), some (.iaload, 1, []), some (.iconst 1, 1, []), some (.if_icmp .ne 101, 3, []), none, none, some (.aload_n 0, 1, []), some (.getfield 466, 3, [76, 0, 11]), none, none, some (.iconst 1, 1, []), some (.if_icmp .ne 22, 3, []), none, none, some (.aload_n 0, 1, []), some (.getfield 514, 3, [83, 0, 11]), none, none, some (.ifCond .ge 7, 3, []), none, none, some (.iconst 0, 1, []), some (.goto 33, 3, []), none, none, some (.aload_n 0, 1, []), some (.iconst 3, 1, []), some (.invokevirtual 531, 3, [0, 1, 11, 211]), none, none, some (.goto 25, 3, []), none, none, some (.aload_n 0, 1, []), some (.getfield 466, 3, [76, 0, 11]), none, none, some (.iconst 2, 1, []), some (.if_icmp .ne 16, 3, []), none, none, some (.aload_n 0, 1, []), some (.getfield 168, 3, [73, 0, 11]), none, none, some (.aload_n 0, 1, []), some (.getfield 469, 3, [81, 0, 11]), none, none, some (.laload, 1, []), some (.l2i, 1, []), some (.goto 4, 3, []), none, none, some (.iconst 0, 1, []), some (.istore_n 3, 1, []), some (.aload_n 0, 1, []), some (.iconst 5, 1, []), some (.iload_n 3, 1, []), some (.i2l, 1, []), some (.invokevirtual 517, 3, [0, 2, 11, 208]), none, none, some (.istore 4, 2, []), none, some (.aload_n 0, 1, []), some (.dup, 1, []), some (.getfield 478, 3, [79, 0, 11]), none, none, some (.iconst 1, 1, []), some (.iadd, 1, []), some (.putfield 478, 3, [79, 0, 0, 11]), none, none, some (.aload_n 0, 1, []), some (.iconst 2, 1, []), some (.iconst 0, 1, []), some (.iconst 0, 1, []), some (.invokevirtual 521, 3, [0, 3, 11, 209]), none, none, some (.aload_n 0, 1, []), some (.iconst 5, 1, []), some (.iload_n 1, 1, []), some (.aload_n 0, 1, []), some (.getfield 466, 3, [76, 0, 11]), none, none, some (.ifCond .ne 8, 3, []), none, none, some (.iload 4, 2, []), none, some (.goto 4, 3, []), none, none, some (.iload_n 3, 1, []), some (.invokevirtual 521, 3, [0, 3, 11, 209]), none, none, some (.goto 130, 3, []), none, none, some (.aload_n 0, 1, []), some (.getfield 47, 3, [23, 0, 11]), none, none, some (.iload_n 1, 1, []), some (.iaload, 1, []), some (.iconst 2, 1, []), some (.if_icmp .ne 115, 3, []), none, none, some (.aload_n 0, 1, []), some (.getfield 466, 3, [76, 0, 11]), none, none, some (.iconst 1, 1, []), some (.if_icmp .ne 22, 3, []), none, none, some (.aload_n 0, 1, []), some (.getfield 514, 3, [83, 0, 11]), none, none, some (.ifCond .ge 7, 3, []), none, none, some (.iconst 0, 1, []), some (.goto 50, 3, []), none, none, some (.aload_n 0, 1, []), some (.iconst 2, 1, []), some (.invokevirtual 531, 3, [0, 1, 11, 211]), none, none, some (.goto 42, 3, []), none, none, some (.aload_n 0, 1, []), some (.getfield 466, 3, [76, 0, 11]), none, none, some (.iconst 2, 1, []), some (.if_icmp .ne 16, 3, []), none, none, some (.aload_n 0, 1, []), some (.getfield 168, 3, [73, 0, 11]), none, none, some (.aload_n 0, 1, []), some (.getfield 469, 3, [81, 0, 11]), none, none, some (.laload, 1, []), some (.l2i, 1, []), some (.goto 21, 3, []), none, none, some (.aload_n 0, 1, []), some (.aload_n 0, 1, []), some (.getfield 84, 3, [35, 0, 11]), none, none, some (.iload_n 1, 1, []), some (.laload, 1, []), some (.invokevirtual 534, 3, [0, 1, 11, 212]), none, none, some (.ifCond .eq 7, 3, []), none, none, some (.iconst 1, 1, []), some (.goto 4, 3, []), none, none, some (.iconst 0, 1, []), some (.istore_n 3, 1, []), some (.aload_n 0, 1, []), some (.bipush 6, 2, []), none, some (.iload_n 3, 1, []), some (.i2l, 1, []), some (.invokevirtual 517, 3, [0, 2, 11, 208]), none, none, some (.pop, 1, []), some (.aload_n 0, 1, []), some (.dup, 1, []), some (.getfield 478, 3, [79, 0, 11]), none, none, some (.iconst 1, 1, []), some (.iadd, 1, []), some (.putfield 478, 3, [79, 0, 0, 11]), none, none, some (.aload_n 0, 1, []), some (.iconst 2, 1, []), some (.iconst 0, 1, []), some (.iconst 0, 1, []), some (.invokevirtual 521, 3, [0, 3, 11, 209]), none, none, some (.iload_n 3, 1, []), some (.ifCond .le 15, 3, []), none, none, some (.aload_n 0, 1, []), some (.getfield 487, 3, [92, 0, 11]), none, none, some (.ifCond .ne 8, 3, []), none, none, some (.aload_n 0, 1, []), some (.iload_n 1, 1, []), some (.invokevirtual 538, 3, [0, 1, 11, 213]), none, none, some (.goto 8, 3, []), none, none, some (.aload_n 0, 1, []), some (.iload_n 1, 1, []), some (.invokevirtual 538, 3, [0, 1, 11, 213]), none, none, some (.return_, 1, [])]
/-- TwoWayGrammarModel.draw(I)I -/
def sb_211 : List (Option sm_I) := [some (.aload_n 0, 1, []), some (.aload_n 0, 1, []), some (.getfield 507, 3, [95, 0, 11]), none, none, some (.ldc2_w 510, 3, [6364136223846793005]), none, none, some (.lmul, 1, []), some (.ldc2_w 512, 3, [1442695040888963407]), none, none, some (.ladd, 1, []), some (.putfield 507, 3, [95, 1, 0, 11]), none, none, some (.aload_n 0, 1, []), some (.getfield 507, 3, [95, 0, 11]), none, none, some (.bipush 33, 2, []), none, some (.lushr, 1, []), some (.iload_n 1, 1, []), some (.i2l, 1, []), some (.lrem, 1, []), some (.l2i, 1, []), some (.ireturn, 1, [])]
/-- TwoWayGrammarModel.has(J)Z -/
def sb_212 : List (Option sm_I) := [some (.aload_n 0, 1, []), some (.getfield 138, 3, [60, 0, 11]), none, none, some (.aload_n 0, 1, []), some (.getfield 469, 3, [81, 0, 11]), none, none, some (.iaload, 1, []), some (.ifCond .lt 25, 3, []), none, none, some (.lload_n 1, 1, []), some (.aload_n 0, 1, []), some (.getfield 138, 3, [60, 0, 11]), none, none, some (.aload_n 0, 1, []), some (.getfield 469, 3, [81, 0, 11]), none, none, some (.iaload, 1, []), some (.lshr, 1, []), some (.lconst 1, 1, []), some (.land, 1, []), some (.lconst 1, 1, []), some (.lcmp, 1, []), some (.ifCond .ne 7, 3, []), none, none, some (.iconst 1, 1, []), some (.goto 4, 3, []), none, none, some (.iconst 0, 1, []), some (.ireturn, 1, [])]
/-- TwoWayGrammarModel.single(I)V -/
def sb_213 : List (Option sm_I) := [some (.aload_n 0, 1, []), some (.getfield 38, 3, [20, 0, 11]), none, none, some (.iload_n 1, 1, []), some (.iaload, 1, []), some (.tableswitch 126 1 10 #[87, 87, 126, 126, 126, 126, 126, 87, 54, 72], 54, []), none, none, none, none, none, none, none, none, none, none, none, none, none, none, none, none, none, none, none, none, none, none, none, none, none, none, none, none, none, none, none, none, none, none, none, none, none, none, none, none, none, none, none, none, none, none, none, none, none, none, none, none, none, some (.aload_n 0, 1, []), some (.aload_n 0, 1, []), some (.getfield 25, 3, [16, 0, 11]), none, none, some (.aload_n 0, 1, []), some (.getfield 41, 3, [21, 0, 11]), none, none, some (.iload_n 1, 1, []), some (.iaload, 1, []), some (.iaload, 1, []), some (.invokevirtual 490, 3, [0, 1, 11, 207]), none, none, some (.goto 67, 3, []), none, none, some (.aload_n 0, 1, []), some (.iconst 1, 1, []), some (.aload_n 0, 1, []), some (.getfield 41, 3, [21, 0, 11]), none, none, some (.iload_n 1, 1, []), some (.iaload, 1, []), some (.iconst 0, 1, []), some (.invokevirtual 521, 3, [0, 3, 11, 209]), none, none, some (.goto 52, 3, []), none, none, some (.aload_n 0, 1, []), some (.getfield 466, 3, [76, 0, 11]), none, none, some (.ifCond .ne 11, 3, []), none, none, some (.aload_n 0, 1, []), some (.iload_n 1, 1, []), some (.invokevirtual 541, 3, [0, 1, 11, 214]), none, none, some (.goto 37, 3, []), none, none, some (.aload_n 0, 1, []), some (.getfield 466, 3, [76, 0, 11]), none, none, some (.iconst 1, 1, []), some (.if_icmp .ne 11, 3, []), none, none, some (.aload_n 0, 1, []), some (.iload_n 1, 1, []), some (.invokevirtual 544, 3, [0, 1, 11, 215]), none, none, some (.goto 21, 3, []), none, none, some (.aload_n 0, 1, []), some (.iload_n 1, 1, []), some (.invokevirtual 547, 3, [0, 1, 11, 217]), none, none, some (.goto 13, 3, []), none, none, some (.aload_n 0, 1, []), some (.aload_n 0, 1, []), some (.getfield 38, 3, [20, 0, 11]), none, none, some (.iload_n 1, 1, []), some (.iaload, 1, []), some (.invokevirtual 550, 3, [0, 1, 11, 222]), none, none, some (.return_, 1, [])]
/-- TwoWayGrammarModel.match(I)V -/
def sb_214 : List (Option sm_I) := [some (.aload_n 0, 1, []), some (.getfield 38, 3, [20, 0, 11]), none, none, some (.iload_n 1, 1, []), some (.iaload, 1, []), some (.bipush 8, 2, []), none, some (.if_icmp .ne 14, 3, []), none, none, some (.iconst 3, 1, []), some (.aload_n 0, 1, []), some (.getfield 41, 3, [21, 0, 11]), none, none, some (.iload_n 1, 1, []), some (.iaload, 1, []), some (.iadd, 1, []), some (.goto 9, 3, []), none, none, some (.aload_n 0, 1, []), some (.getfield 38, 3, [20, 0, 11]), none, none, some (.iload_n 1, 1, []), some (.iaload, 1, []), some (.istore_n 2, 1, []), some (.aload_n 0, 1, []), some (.getfield 138, 3, [60, 0, 11]), none, none, some (.aload_n 0, 1, []), some (.getfield 469, 3, [81, 0, 11]), none, none, some (.iaload, 1, []), some (.iload_n 2, 1, []), some (.if_icmp .eq 17, 3, []), none, none, some (.aload_n 0, 1, []), some (.aload_n 0, 1, []), some (.getfield 141, 3, [61, 0, 11]), none, none, some (.aload_n 0, 1, []), some (.getfield 469, 3, [81, 0, 11]), none, none, some (.iaload, 1, []), some (.putfield 484, 3, [82, 0, 0, 11]), none, none, some (.return_, 1, []), some (.aload_n 0, 1, []), some (.getfield 38, 3, [20, 0, 11]), none, none, some (.iload_n 1, 1, []), some (.iaload, 1, []), some (.iconst 1, 1, []), some (.if_icmp .ne 30, 3, []), none, none, some (.aload_n 0, 1, []), some (.iconst 2, 1, []), some (.aload_n 0, 1, []), some (.getfield 144, 3, [62, 0, 11]), none, none, some (.aload_n 0, 1, []), some (.getfield 469, 3, [81, 0, 11]), none, none, some (.laload, 1, []), some (.aload_n 0, 1, []), some (.getfield 41, 3, [21, 0, 11]), none, none, some (.iload_n 1, 1, []), some (.iaload, 1, []), some (.i2l, 1, []), some (.ladd, 1, []), some (.ldc2_w 553, 3, [10000]), none, none, some (.lrem, 1, []), some (.invokevirtual 517, 3, [0, 2, 11, 208]), none, none, some (.pop, 1, []), some (.aload_n 0, 1, []), some (.getfield 38, 3, [20, 0, 11]), none, none, some (.iload_n 1, 1, []), some (.iaload, 1, []), some (.iconst 2, 1, []), some (.if_icmp .ne 18, 3, []), none, none, some (.aload_n 0, 1, []), some (.iconst 3, 1, []), some (.aload_n 0, 1, []), some (.getfield 144, 3, [62, 0, 11]), none, none, some (.aload_n 0, 1, []), some (.getfield 469, 3, [81, 0, 11]), none, none, some (.laload, 1, []), some (.invokevirtual 517, 3, [0, 2, 11, 208]), none, none, some (.pop, 1, []), some (.aload_n 0, 1, []), some (.dup, 1, []), some (.getfield 469, 3, [81, 0, 11]), none, none, some (.iconst 1, 1, []), some (.iadd, 1, []), some (.putfield 469, 3, [81, 0, 0, 11]), none, none, some (.return_, 1, [])]
/-- TwoWayGrammarModel.grown(I)V -/
def sb_215 : List (Option sm_I) := [some (.aload_n 0, 1, []), some (.getfield 38, 3, [20, 0, 11]), none, none, some (.iload_n 1, 1, []), some (.iaload, 1, []), some (.iconst 1, 1, []), some (.if_icmp .ne 17, 3, []), none, none, some (.aload_n 0, 1, []), some (.iconst 2, 1, []), some (.aload_n 0, 1, []), some (.sipush 10000, 3, []), none, none, some (.invokevirtual 531, 3, [0, 1, 11, 211]), none, none, some (.i2l, 1, []), some (.invokevirtual 517, 3, [0, 2, 11, 208]), none, none, some (.pop, 1, []), some (.aload_n 0, 1, []), some (.getfield 38, 3, [20, 0, 11]), none, none, some (.iload_n 1, 1, []), some (.iaload, 1, []), some (.iconst 2, 1, []), some (.if_icmp .eq 4, 3, []), none, none, some (.return_, 1, []), some (.iconst 1, 1, []), some (.aload_n 0, 1, []), some (.iconst 3, 1, []), some (.invokevirtual 531, 3, [0, 1, 11, 211]), none, none, some (.iadd, 1, []), some (.istore_n 2, 1, []), some (.lconst 0, 1, []), some (.lstore_n 3, 1, []), some (.iconst 0, 1, []), some (.istore 5, 2, []), none, some (.iload 5, 2, []), none, some (.iload_n 2, 1, []), some (.if_icmp .ge 25, 3, []), none, none, some (.lload_n 3, 1, []), some (.lconst 1, 1, []), some (.aload_n 0, 1, []), some (.iconst 3, 1, []), some (.invokevirtual 531, 3, [0, 1, 11, 211]), none, none, some (.i2l, 1, []), some (.ladd, 1, []), some (.iconst 5, 1, []), some (.iload 5, 2, []), none, some (.imul, 1, []), some (.lshl, 1, []), some (.lor, 1, []), some (.lstore_n 3, 1, []), some (.iinc 5 1, 3, []), none, none, some (.goto (-25), 3, []), none, none, some (.aload_n 0, 1, []), some (.lload_n 3, 1, []), some (.invokevirtual 457, 3, [0, 1, 11, 216]), none, none, some (.ifCond .lt 19, 3, []), none, none, some (.lload_n 3, 1, []), some (.ldc2_w 555, 3, [26]), none, none, some (.iconst 5, 1, []), some (.iload_n 2, 1, []), some (.imul, 1, []), some (.lshl, 1, []), some (.lor, 1, []), some (.lstore_n 3, 1, []), some (.iinc 2 1, 3, []), none, none, some (.goto (-21), 3, []), none, none, some (.aload_n 0, 1, []), some (.iconst 3, 1, []), some (.lload_n 3, 1, []), some (.invokevirtual 517, 3, [0, 2, 11, 208]), none, none, some (.pop, 1, []), some (.return_, 1, [])]
/-- TwoWayGrammarModel.keywordOf(J)I -/
def sb_216 : List (Option sm_I) := [some (.iconst 0, 1, []), some (.istore_n 3, 1, []), some (.iload_n 3, 1, []), some (.aload_n 0, 1, []), some (.getfield 351, 3, [10, 0, 11]), none, none, some (.if_icmp .ge 33, 3, []), none, none, some (.aload_n 0, 1, []), some (.getfield 34, 3, [19, 0, 11]), none, none, some (.iload_n 3, 1, []), some (.laload, 1, []), some (.lconst 0, 1, []), some (.lcmp, 1, []), some (.ifCond .eq 16, 3, []), none, none, some (.aload_n 0, 1, []), some (.getfield 34, 3, [19, 0, 11]), none, none, some (.iload_n 3, 1, []), some (.laload, 1, []), some (.lload_n 1, 1, []), some (.lcmp, 1, []), some (.ifCond .ne 5, 3, []), none, none, some (.iload_n 3, 1, []), some (.ireturn, 1, []), some (.iinc 3 1, 3, []), none, none, some (.goto (-35), 3, []), none, none, some (.iconst (-1), 1, []), some (.ireturn, 1, [])]
/-- TwoWayGrammarModel.shown(I)V -/
def sb_217 : List (Option sm_I) := [some (.aload_n 0, 1, []), some (.getfield 38, 3, [20, 0, 11]), none, none, some (.iload_n 1, 1, []), some (.iaload, 1, []), some (.bipush 8, 2, []), none, some (.if_icmp .ne 55, 3, []), none, none, some (.aload_n 0, 1, []), some (.getfield 41, 3, [21, 0, 11]), none, none, some (.iload_n 1, 1, []), some (.iaload, 1, []), some (.istore_n 2, 1, []), some (.aload_n 0, 1, []), some (.getfield 34, 3, [19, 0, 11]), none, none, some (.iload_n 2, 1, []), some (.laload, 1, []), some (.lconst 0, 1, []), some (.lcmp, 1, []), some (.ifCond .eq 16, 3, []), none, none, some (.aload_n 0, 1, []), some (.aload_n 0, 1, []), some (.getfield 34, 3, [19, 0, 11]), none, none, some (.iload_n 2, 1, []), some (.laload, 1, []), some (.invokevirtual 580, 3, [0, 1, 11, 218]), none, none, some (.goto 23, 3, []), none, none, some (.aload_n 0, 1, []), some (.aload_n 0, 1, []), some (.getfield 31, 3, [18, 0, 11]), none, none, some (.iload_n 2, 1, []), some (.iaload, 1, []), some (.invokevirtual 577, 3, [0, 1, 11, 219]), none, none, some (.aload_n 0, 1, []), some (.aload_n 0, 1, []), some (.getfield 31, 3, [18, 0, 11]), none, none, some (.iload_n 2, 1, []), some (.iaload, 1, []), some (.invokevirtual 569, 3, [0, 1, 11, 220]), none, none, some (.return_, 1, []), some (.aload_n 0, 1, []), some (.getfield 168, 3, [73, 0, 11]), none, none, some (.aload_n 0, 1, []), some (.getfield 469, 3, [81, 0, 11]), none, none, some (.laload, 1, []), some (.lstore_n 2, 1, []), some (.aload_n 0, 1, []), some (.dup, 1, []), some (.getfield 469, 3, [81, 0, 11]), none, none, some (.iconst 1, 1, []), some (.iadd, 1, []), some (.putfield 469, 3, [81, 0, 0, 11]), none, none, some (.aload_n 0, 1, []), some (.getfield 38, 3, [20, 0, 11]), none, none, some (.iload_n 1, 1, []), some (.iaload, 1, []), some (.iconst 2, 1, []), some (.if_icmp .ne 9, 3, []), none, none, some (.aload_n 0, 1, []), some (.lload_n 2, 1, []), some (.invokevirtual 580, 3, [0, 1, 11, 218]), none, none, some (.return_, 1, []), some (.lload_n 2, 1, []), some (.aload_n 0, 1, []), some (.getfield 41, 3, [21, 0, 11]), none, none, some (.iload_n 1, 1, []), some (.iaload, 1, []), some (.i2l, 1, []), some (.lsub, 1, []), some (.ldc2_w 553, 3, [10000]), none, none, some (.ladd, 1, []), some (.ldc2_w 553, 3, [10000]), none, none, some (.lrem, 1, []), some (.l2i, 1, []), some (.istore 4, 2, []), none, some (.iload 4, 2, []), none, some (.sipush 999, 3, []), none, none, some (.if_icmp .le 9, 3, []), none, none, some (.sipush 1000, 3, []), none, none, some (.goto 28, 3, []), none, none, some (.iload 4, 2, []), none, some (.bipush 99, 2, []), none, some (.if_icmp .le 8, 3, []), none, none, some (.bipush 100, 2, []), none, some (.goto 16, 3, []), none, none, some (.iload 4, 2, []), none, some (.bipush 9, 2, []), none, some (.if_icmp .le 8, 3, []), none, none, some (.bipush 10, 2, []), none, some (.goto 4, 3, []), none, none, some (.iconst 1, 1, []), some (.istore 5, 2, []), none, some (.aload_n 0, 1, []), some (.bipush 48, 2, []), none, some (.iload 4, 2, []), none, some (.iload 5, 2, []), none, some (.idiv, 1, []), some (.iadd, 1, []), some (.invokevirtual 577, 3, [0, 1, 11, 219]), none, none, some (.iload 5, 2, []), none, some (.istore 6, 2, []), none, some (.iload 6, 2, []), none, some (.ifCond .le 28, 3, []), none, none, some (.aload_n 0, 1, []), some (.bipush 48, 2, []), none, some (.iload 4, 2, []), none, some (.iload 6, 2, []), none, some (.idiv, 1, []), some (.bipush 10, 2, []), none, some (.irem, 1, []), some (.iadd, 1, []), some (.invokevirtual 569, 3, [0, 1, 11, 220]), none, none, some (.iload 6, 2, []), none, some (.bipush 10, 2, []), none, some (.idiv, 1, []), some (.istore 6, 2, []), none, some (.goto (-27), 3, []), none, none, some (.return_, 1, [])]
/-- TwoWayGrammarModel.letters2(J)V -/
def sb_218 : List (Option sm_I) := [some (.aload_n 0, 1, []), some (.lload_n 1, 1, []), some (.ldc2_w 575, 3, [31]), none, none, some (.land, 1, []), some (.l2i, 1, []), some (.bipush 96, 2, []), none, some (.iadd, 1, []), some (.invokevirtual 577, 3, [0, 1, 11, 219]), none, none, some (.lload_n 1, 1, []), some (.lstore_n 3, 1, []), some (.lload_n 3, 1, []), some (.lconst 0, 1, []), some (.lcmp, 1, []), some (.ifCond .le 23, 3, []), none, none, some (.aload_n 0, 1, []), some (.lload_n 3, 1, []), some (.ldc2_w 575, 3, [31]), none, none, some (.land, 1, []), some (.l2i, 1, []), some (.bipush 96, 2, []), none, some (.iadd, 1, []), some (.invokevirtual 569, 3, [0, 1, 11, 220]), none, none, some (.lload_n 3, 1, []), some (.iconst 5, 1, []), some (.lshr, 1, []), some (.lstore_n 3, 1, []), some (.goto (-23), 3, []), none, none, some (.return_, 1, [])]
/-- TwoWayGrammarModel.between(I)V -/
def sb_219 : List (Option sm_I) := [some (.aload_n 0, 1, []), some (.getfield 566, 3, [85, 0, 11]), none, none, some (.ifCond .le 50, 3, []), none, none, some (.aload_n 0, 1, []), some (.getfield 560, 3, [94, 0, 11]), none, none, some (.ifCond .eq 43, 3, []), none, none, some (.aload_n 0, 1, []), some (.bipush 10, 2, []), none, some (.invokevirtual 569, 3, [0, 1, 11, 220]), none, none, some (.iconst 0, 1, []), some (.istore_n 2, 1, []), some (.iload_n 2, 1, []), some (.iconst 2, 1, []), some (.aload_n 0, 1, []), some (.getfield 563, 3, [84, 0, 11]), none, none, some (.imul, 1, []), some (.if_icmp .ge 22, 3, []), none, none, some (.aload_n 0, 1, []), some (.getfield 487, 3, [92, 0, 11]), none, none, some (.ifCond .ne 15, 3, []), none, none, some (.aload_n 0, 1, []), some (.bipush 32, 2, []), none, some (.invokevirtual 569, 3, [0, 1, 11, 220]), none, none, some (.iinc 2 1, 3, []), none, none, some (.goto (-26), 3, []), none, none, some (.goto 47, 3, []), none, none, some (.aload_n 0, 1, []), some (.getfield 566, 3, [85, 0, 11]), none, none, some (.ifCond .le 40, 3, []), none, none, some (.aload_n 0, 1, []), some (.getfield 557, 3, [93, 0, 11]), none, none, some (.ifCond .ne 27, 3, []), none, none, some (.aload_n 0, 1, []), some (.getfield 192, 3, [91, 0, 11]), none, none, some (.aload_n 0, 1, []), some (.getfield 566, 3, [85, 0, 11]), none, none, some (.iconst 1, 1, []), some (.isub, 1, []), some (.iaload, 1, []), some (.invokestatic 572, 3, [0, 221, 1]), none, none, some (.ifCond .eq 16, 3, []), none, none, some (.iload_n 1, 1, []), some (.invokestatic 572, 3, [0, 221, 1]), none, none, some (.ifCond .eq 9, 3, []), none, none, some (.aload_n 0, 1, []), some (.bipush 32, 2, []), none, some (.invokevirtual 569, 3, [0, 1, 11, 220]), none, none, some (.aload_n 0, 1, []), some (.aload_n 0, 1, []), some (.iconst 0, 1, []), some (.dup_x1, 1, []), some (.putfield 557, 3, [93, 3, 0, 11]), none, none, some (.putfield 560, 3, [94, 3, 0, 11]), none, none, some (.return_, 1, [])]
/-- TwoWayGrammarModel.write(I)V -/
def sb_220 : List (Option sm_I) := [some (.aload_n 0, 1, []), some (.aload_n 0, 1, []), some (.getfield 487, 3, [92, 0, 11]), none, none, some (.ifCond .ne 13, 3, []), none, none, some (.aload_n 0, 1, []), some (.getfield 566, 3, [85, 0, 11]), none, none, some (.sipush 160, 3, []), none, none, some (.if_icmp .ne 7, 3, []), none, none, some (.iconst 1, 1, []), some (.goto 4, 3, []), none, none, some (.iconst 0, 1, []), some (.putfield 487, 3, [92, 3, 0, 11]), none, none, some (.aload_n 0, 1, []), some (.getfield 487, 3, [92, 0, 11]), none, none, some (.ifCond .ne 20, 3, []), none, none, some (.aload_n 0, 1, []), some (.getfield 192, 3, [91, 0, 11]), none, none, some (.aload_n 0, 1, []), some (.dup, 1, []), some (.getfield 566, 3, [85, 0, 11]), none, none, some (.dup_x1, 1, []), some (.iconst 1, 1, []), some (.iadd, 1, []), some (.putfield 566, 3, [85, 0, 0, 11]), none, none, some (.iload_n 1, 1, []), some (.iastore, 1, []), some (.return_, 1, [])]
/-- TwoWayGrammarModel.isWordy(I)Z -/
def sb_221 : List (Option sm_I) := [some (.iload_n 0, 1, []), some (.invokestatic 312, 3, [0, 180, 1]), none, none, some (.ifCond .ne 22, 3, []), none, none, some (.iload_n 0, 1, []), some (.invokestatic 318, 3, [0, 182, 1]), none, none, some (.ifCond .ne 15, 3, []), none, none, some (.iload_n 0, 1, []), some (.bipush 65, 2, []), none, some (.if_icmp .lt 13, 3, []), none, none, some (.iload_n 0, 1, []), some (.bipush 90, 2, []), none, some (.if_icmp .gt 7, 3, []), none, none, some (.iconst 1, 1, []), some (.goto 4, 3, []), none, none, some (.iconst 0, 1, []), some (.ireturn, 1, [])]
/-- TwoWayGrammarModel.layout(I)V -/
def sb_222 : List (Option sm_I) := [some (.aload_n 0, 1, []), some (.aload_n 0, 1, []), some (.getfield 557, 3, [93, 0, 11]), none, none, some (.ifCond .ne 8, 3, []), none, none, some (.iload_n 1, 1, []), some (.iconst 4, 1, []), some (.if_icmp .ne 7, 3, []), none, none, some (.iconst 1, 1, []), some (.goto 4, 3, []), none, none, some (.iconst 0, 1, []), some (.putfield 557, 3, [93, 3, 0, 11]), none, none, some (.aload_n 0, 1, []), some (.aload_n 0, 1, []), some (.getfield 560, 3, [94, 0, 11]), none, none, some (.ifCond .ne 8, 3, []), none, none, some (.iload_n 1, 1, []), some (.iconst 5, 1, []), some (.if_icmp .ne 7, 3, []), none, none, some (.iconst 1, 1, []), some (.goto 4, 3, []), none, none, some (.iconst 0, 1, []), some (.putfield 560, 3, [94, 3, 0, 11]), none, none, some (.aload_n 0, 1, []), some (.iload_n 1, 1, []), some (.bipush 6, 2, []), none, some (.if_icmp .ne 12, 3, []), none, none, some (.aload_n 0, 1, []), some (.getfield 563, 3, [84, 0, 11]), none, none, some (.iconst 1, 1, []), some (.iadd, 1, []), some (.goto 29, 3, []), none, none, some (.iload_n 1, 1, []), some (.bipush 7, 2, []), none, some (.if_icmp .ne 19, 3, []), none, none, some (.aload_n 0, 1, []), some (.getfield 563, 3, [84, 0, 11]), none, none, some (.ifCond .le 12, 3, []), none, none, some (.aload_n 0, 1, []), some (.getfield 563, 3, [84, 0, 11]), none, none, some (.iconst 1, 1, []), some (.isub, 1, []), some (.goto 7, 3, []), none, none, some (.aload_n 0, 1, []), some (.getfield 563, 3, [84, 0, 11]), none, none, some (.putfield 563, 3, [84, 0, 0, 11]), none, none, some (.return_, 1, [])]
/-- TwoWayGrammarModel.choose(I)V -/
def sb_223 : List (Option sm_I) := [some (.iconst 0, 1, []), some (.istore_n 2, 1, []), some (.aload_n 0, 1, []), some (.getfield 68, 3, [30, 0, 11]), none, none, some (.iload_n 1, 1, []), some (.iaload, 1, []), some (.istore_n 3, 1, []), some (.aload_n 0, 1, []), some (.getfield 71, 3, [31, 0, 11]), none, none, some (.iload_n 1, 1, []), some (.iaload, 1, []), some (.iconst 1, 1, []), some (.if_icmp .le 130, 3, []), none, none, some (.aload_n 0, 1, []), some (.getfield 466, 3, [76, 0, 11]), none, none, some (.ifCond .ne 11, 3, []), none, none, some (.aload_n 0, 1, []), some (.iload_n 1, 1, []), some (.invokevirtual 525, 3, [0, 1, 11, 224]), none, none, some (.goto 49, 3, []), none, none, some (.aload_n 0, 1, []), some (.getfield 466, 3, [76, 0, 11]), none, none, some (.iconst 2, 1, []), some (.if_icmp .ne 16, 3, []), none, none, some (.aload_n 0, 1, []), some (.getfield 168, 3, [73, 0, 11]), none, none, some (.aload_n 0, 1, []), some (.getfield 469, 3, [81, 0, 11]), none, none, some (.laload, 1, []), some (.l2i, 1, []), some (.goto 28, 3, []), none, none, some (.aload_n 0, 1, []), some (.getfield 514, 3, [83, 0, 11]), none, none, some (.ifCond .ge 11, 3, []), none, none, some (.aload_n 0, 1, []), some (.iload_n 1, 1, []), some (.invokevirtual 528, 3, [0, 1, 11, 225]), none, none, some (.goto 13, 3, []), none, none, some (.aload_n 0, 1, []), some (.aload_n 0, 1, []), some (.getfield 71, 3, [31, 0, 11]), none, none, some (.iload_n 1, 1, []), some (.iaload, 1, []), some (.invokevirtual 531, 3, [0, 1, 11, 211]), none, none, some (.istore_n 2, 1, []), some (.iload_n 2, 1, []), some (.ifCond .ge 17, 3, []), none, none, some (.aload_n 0, 1, []), some (.aload_n 0, 1, []), some (.getfield 141, 3, [61, 0, 11]), none, none, some (.aload_n 0, 1, []), some (.getfield 469, 3, [81, 0, 11]), none, none, some (.iaload, 1, []), some (.putfield 484, 3, [82, 0, 0, 11]), none, none, some (.return_, 1, []), some (.aload_n 0, 1, []), some (.iconst 4, 1, []), some (.iload_n 2, 1, []), some (.i2l, 1, []), some (.invokevirtual 517, 3, [0, 2, 11, 208]), none, none, some (.pop, 1, []), some (.aload_n 0, 1, []), some (.dup, 1, []), some (.getfield 478, 3, [79, 0, 11]), none, none, some (.iconst 1, 1, []), some (.iadd, 1, []), some (.putfield 478, 3, [79, 0, 0, 11]), none, none, some (.aload_n 0, 1, []), some (.iconst 2, 1, []), some (.iconst 0, 1, []), some (.iconst 0, 1, []), some (.invokevirtual 521, 3, [0, 3, 11, 209]), none, none, some (.iconst 0, 1, []), some (.istore 4, 2, []), none, some (.iload 4, 2, []), none, some (.iload_n 2, 1, []), some (.if_icmp .ge 16, 3, []), none, none, some (.aload_n 0, 1, []), some (.getfield 65, 3, [29, 0, 11]), none, none, some (.iload_n 3, 1, []), some (.iaload, 1, []), some (.istore_n 3, 1, []), some (.iinc 4 1, 3, []), none, none, some (.goto (-16), 3, []), none, none, some (.aload_n 0, 1, []), some (.iload_n 3, 1, []), some (.invokevirtual 401, 3, [0, 1, 11, 197]), none, none, some (.iconst 1, 1, []), some (.isub, 1, []), some (.istore 4, 2, []), none, some (.iload 4, 2, []), none, some (.ifCond .lt 101, 3, []), none, none, some (.iload 4, 2, []), none, some (.ifCond .le 31, 3, []), none, none, some (.aload_n 0, 1, []), some (.getfield 53, 3, [25, 0, 11]), none, none, some (.aload_n 0, 1, []), some (.getfield 117, 3, [46, 0, 11]), none, none, some (.iload 4, 2, []), none, some (.iconst 1, 1, []), some (.isub, 1, []), some (.iaload, 1, []), some (.iaload, 1, []), some (.aload_n 0, 1, []), some (.getfield 117, 3, [46, 0, 11]), none, none, some (.iload 4, 2, []), none, some (.iaload, 1, []), some (.if_icmp .ne 7, 3, []), none, none, some (.iconst 1, 1, []), some (.goto 4, 3, []), none, none, some (.iconst 0, 1, []), some (.istore 5, 2, []), none, some (.iload 5, 2, []), none, some (.ifCond .eq 10, 3, []), none, none, some (.aload_n 0, 1, []), some (.iconst 4, 1, []), some (.iconst 0, 1, []), some (.iconst 0, 1, []), some (.invokevirtual 521, 3, [0, 3, 11, 209]), none, none, some (.aload_n 0, 1, []), some (.iconst 0, 1, []), some (.aload_n 0, 1, []), some (.getfield 117, 3, [46, 0, 11]), none, none, some (.iload 4, 2, []), none, some (.iaload, 1, []), some (.aload_n 0, 1, []), some (.getfield 53, 3, [25, 0, 11]), none, none, some (.aload_n 0, 1, []), some (.getfield 117, 3, [46, 0, 11]), none, none, some (.iload 4, 2, []), none, some (.iaload, 1, []), some (.iaload, 1, []), some (.ifCond .lt 7, 3, []), none, none, some (.iconst 1, 1, []), some (.goto 4, 3, []), none, none, some (.iconst 0, 1, []), some (.invokevirtual 521, 3, [0, 3, 11, 209]), none, none, some (.iload 5, 2, []), none, some (.ifCond .eq 10, 3, []), none, none, some (.aload_n 0, 1, []), some (.iconst 3, 1, []), some (.iconst 0, 1, []), some (.iconst 0, 1, []), some (.invokevirtual 521, 3, [0, 3, 11, 209]), none, none, some (.iinc 4 (-1), 3, []), none, none, some (.goto (-100), 3, []), none, none, some (.return_, 1, [])]
/-- TwoWayGrammarModel.directed(I)I -/
def sb_224 : List (Option sm_I) := [some (.iconst 0, 1, []), some (.istore_n 2, 1, []), some (.aload_n 0, 1, []), some (.getfield 68, 3, [30, 0, 11]), none, none, some (.iload_n 1, 1, []), some (.iaload, 1, []), some (.istore_n 3, 1, []), some (.iload_n 3, 1, []), some (.ifCond .lt 31, 3, []), none, none, some (.aload_n 0, 1, []), some (.aload_n 0, 1, []), some (.iload_n 1, 1, []), some (.iload_n 3, 1, []), some (.invokevirtual 428, 3, [0, 2, 11, 203]), none, none, some (.invokevirtual 534, 3, [0, 1, 11, 212]), none, none, some (.ifCond .eq 5, 3, []), none, none, some (.iload_n 2, 1, []), some (.ireturn, 1, []), some (.iinc 2 1, 3, []), none, none, some (.aload_n 0, 1, []), some (.getfield 65, 3, [29, 0, 11]), none, none, some (.iload_n 3, 1, []), some (.iaload, 1, []), some (.istore_n 3, 1, []), some (.goto (-29), 3, []), none, none, some (.iconst (-1), 1, []), some (.ireturn, 1, [])]
/-- TwoWayGrammarModel.lowest(I)I -/
def sb_225 : List (Option sm_I) := [some (.iconst 0, 1, []), some (.istore_n 2, 1, []), some (.iconst 0, 1, []), some (.istore_n 3, 1, []), some (.sipush 1001, 3, []), none, none, some (.istore 4, 2, []), none, some (.aload_n 0, 1, []), some (.getfield 68, 3, [30, 0, 11]), none, none, some (.iload_n 1, 1, []), some (.iaload, 1, []), some (.istore 5, 2, []), none, some (.iload 5, 2, []), none, some (.ifCond .lt 62, 3, []), none, none, some (.aload_n 0, 1, []), some (.getfield 111, 3, [44, 0, 11]), none, none, some (.iload 5, 2, []), none, some (.iaload, 1, []), some (.iload 4, 2, []), none, some (.if_icmp .ge 7, 3, []), none, none, some (.iload_n 2, 1, []), some (.goto 4, 3, []), none, none, some (.iload_n 3, 1, []), some (.istore_n 3, 1, []), some (.aload_n 0, 1, []), some (.getfield 111, 3, [44, 0, 11]), none, none, some (.iload 5, 2, []), none, some (.iaload, 1, []), some (.iload 4, 2, []), none, some (.if_icmp .ge 13, 3, []), none, none, some (.aload_n 0, 1, []), some (.getfield 111, 3, [44, 0, 11]), none, none, some (.iload 5, 2, []), none, some (.iaload, 1, []), some (.goto 5, 3, []), none, none, some (.iload 4, 2, []), none, some (.istore 4, 2, []), none, some (.iinc 2 1, 3, []), none, none, some (.aload_n 0, 1, []), some (.getfield 65, 3, [29, 0, 11]), none, none, some (.iload 5, 2, []), none, some (.iaload, 1, []), some (.istore 5, 2, []), none, some (.goto (-61), 3, []), none, none, some (.iload_n 3, 1, []), some (.ireturn, 1, [])]
/-- TwoWayGrammarModel.swap()V -/
def sb_226 : List (Option sm_I) := [some (.aload_n 0, 1, []), some (.getfield 189, 3, [90, 0, 11]), none, none, some (.aload_n 0, 1, []), some (.dup, 1, []), some (.getfield 481, 3, [78, 0, 11]), none, none, some (.iconst 1, 1, []), some (.isub, 1, []), some (.dup_x1, 1, []), some (.putfield 481, 3, [78, 0, 0, 11]), none, none, some (.iaload, 1, []), some (.istore_n 1, 1, []), some (.aload_n 0, 1, []), some (.getfield 186, 3, [89, 0, 11]), none, none, some (.aload_n 0, 1, []), some (.getfield 481, 3, [78, 0, 11]), none, none, some (.iaload, 1, []), some (.istore_n 2, 1, []), some (.iload_n 1, 1, []), some (.iload_n 2, 1, []), some (.isub, 1, []), some (.istore_n 3, 1, []), some (.iconst 0, 1, []), some (.istore 4, 2, []), none, some (.iload 4, 2, []), none, some (.iload_n 3, 1, []), some (.if_icmp .ge 25, 3, []), none, none, some (.aload_n 0, 1, []), some (.getfield 117, 3, [46, 0, 11]), none, none, some (.iload 4, 2, []), none, some (.aload_n 0, 1, []), some (.getfield 162, 3, [71, 0, 11]), none, none, some (.iload_n 2, 1, []), some (.iload 4, 2, []), none, some (.iadd, 1, []), some (.iaload, 1, []), some (.iastore, 1, []), some (.iinc 4 1, 3, []), none, none, some (.goto (-25), 3, []), none, none, some (.iload_n 1, 1, []), some (.istore 4, 2, []), none, some (.iload 4, 2, []), none, some (.aload_n 0, 1, []), some (.getfield 472, 3, [64, 0, 11]), none, none, some (.if_icmp .ge 25, 3, []), none, none, some (.aload_n 0, 1, []), some (.getfield 162, 3, [71, 0, 11]), none, none, some (.iload 4, 2, []), none, some (.iload_n 3, 1, []), some (.isub, 1, []), some (.aload_n 0, 1, []), some (.getfield 162, 3, [71, 0, 11]), none, none, some (.iload 4, 2, []), none, some (.iaload, 1, []), some (.iastore, 1, []), some (.iinc 4 1, 3, []), none, none, some (.goto (-28), 3, []), none, none, some (.iconst 0, 1, []), some (.istore 4, 2, []), none, some (.iload 4, 2, []), none, some (.iload_n 3, 1, []), some (.if_icmp .ge 30, 3, []), none, none, some (.aload_n 0, 1, []), some (.getfield 162, 3, [71, 0, 11]), none, none, some (.aload_n 0, 1, []), some (.getfield 472, 3, [64, 0, 11]), none, none, some (.iload_n 3, 1, []), some (.isub, 1, []), some (.iload 4, 2, []), none, some (.iadd, 1, []), some (.aload_n 0, 1, []), some (.getfield 117, 3, [46, 0, 11]), none, none, some (.iload 4, 2, []), none, some (.iaload, 1, []), some (.iastore, 1, []), some (.iinc 4 1, 3, []), none, none, some (.goto (-30), 3, []), none, none, some (.return_, 1, [])]
/-- TwoWayGrammarModel.again(II)V -/
def sb_227 : List (Option sm_I) := [some (.aload_n 0, 1, []), some (.getfield 466, 3, [76, 0, 11]), none, none, some (.ifCond .ne 16, 3, []), none, none, some (.aload_n 0, 1, []), some (.aload_n 0, 1, []), some (.getfield 84, 3, [35, 0, 11]), none, none, some (.iload_n 1, 1, []), some (.laload, 1, []), some (.invokevirtual 534, 3, [0, 1, 11, 212]), none, none, some (.goto 12, 3, []), none, none, some (.iload_n 2, 1, []), some (.ifCond .le 7, 3, []), none, none, some (.iconst 1, 1, []), some (.goto 4, 3, []), none, none, some (.iconst 0, 1, []), some (.istore_n 3, 1, []), some (.iload_n 3, 1, []), some (.ifCond .ne 4, 3, []), none, none, some (.return_, 1, []), some (.aload_n 0, 1, []), some (.getfield 466, 3, [76, 0, 11]), none, none, some (.ifCond .ne 13, 3, []), none, none, some (.aload_n 0, 1, []), some (.getfield 171, 3, [74, 0, 11]), none, none, some (.iload_n 2, 1, []), some (.dup2, 1, []), some (.laload, 1, []), some (.lconst 1, 1, []), some (.ladd, 1, []), some (.lastore, 1, []), some (.aload_n 0, 1, []), some (.iconst 5, 1, []), some (.iload_n 1, 1, []), some (.aload_n 0, 1, []), some (.getfield 466, 3, [76, 0, 11]), none, none, some (.ifCond .ne 7, 3, []), none, none, some (.iload_n 2, 1, []), some (.goto 6, 3, []), none, none, some (.iload_n 2, 1, []), some (.iconst 1, 1, []), some (.isub, 1, []), some (.invokevirtual 521, 3, [0, 3, 11, 209]), none, none, some (.aload_n 0, 1, []), some (.iload_n 1, 1, []), some (.invokevirtual 538, 3, [0, 1, 11, 213]), none, none, some (.return_, 1, [])]
/-- TwoWayGrammarModel.parse()I -/
def sb_228 : List (Option sm_I) := [some (.aload_n 0, 1, []), some (.aload_n 0, 1, []), some (.getfield 435, 3, [7, 0, 11]), none, none, some (.iconst 2, 1, []), some (.if_icmp .ge 7, 3, []), none, none, some (.iconst 1, 1, []), some (.goto 4, 3, []), none, none, some (.iconst 0, 1, []), some (.putfield 195, 3, [0, 0, 0, 11]), none, none, some (.aload_n 0, 1, []), some (.getfield 195, 3, [0, 0, 11]), none, none, some (.ifCond .le 5, 3, []), none, none, some (.iconst 0, 1, []), some (.ireturn, 1, []), some (.aload_n 0, 1, []), some (.invokevirtual 589, 3, [0, 0, 11, 229]), none, none, some (.aload_n 0, 1, []), some (.iconst 0, 1, []), some (.invokevirtual 583, 3, [0, 1, 11, 206]), none, none, some (.aload_n 0, 1, []), some (.aload_n 0, 1, []), some (.getfield 487, 3, [92, 0, 11]), none, none, some (.ifCond .eq 7, 3, []), none, none, some (.iconst 2, 1, []), some (.goto 4, 3, []), none, none, some (.iconst 0, 1, []), some (.putfield 195, 3, [0, 0, 0, 11]), none, none, some (.aload_n 0, 1, []), some (.getfield 487, 3, [92, 0, 11]), none, none, some (.ifCond .eq 5, 3, []), none, none, some (.iconst 0, 1, []), some (.ireturn, 1, []), some (.aload_n 0, 1, []), some (.getfield 484, 3, [82, 0, 11]), none, none, some (.ifCond .lt 12, 3, []), none, none, some (.iconst (-1), 1, []), some (.aload_n 0, 1, []), some (.getfield 484, 3, [82, 0, 11]), none, none, some (.isub, 1, []), some (.goto 7, 3, []), none, none, some (.aload_n 0, 1, []), some (.invokevirtual 592, 3, [0, 0, 11, 231]), none, none, some (.ireturn, 1, [])]
/-- TwoWayGrammarModel.tokenize()V -/
def sb_229 : List (Option sm_I) := [some (.aload_n 0, 1, []), some (.iconst 0, 1, []), some (.putfield 450, 3, [59, 0, 0, 11]), none, none, some (.iconst 0, 1, []), some (.istore_n 1, 1, []), some (.iload_n 1, 1, []), some (.aload_n 0, 1, []), some (.getfield 202, 3, [2, 0, 11]), none, none, some (.if_icmp .ge 354, 3, []), none, none, some (.aload_n 0, 1, []), some (.getfield 13, 3, [5, 0, 11]), none, none, some (.iload_n 1, 1, []), some (.iaload, 1, []), some (.istore_n 2, 1, []), some (.iload_n 2, 1, []), some (.invokestatic 294, 3, [0, 178, 1]), none, none, some (.ifCond .eq 9, 3, []), none, none, some (.iinc 1 1, 3, []), none, none, some (.goto (-25), 3, []), none, none, some (.aload_n 0, 1, []), some (.getfield 141, 3, [61, 0, 11]), none, none, some (.aload_n 0, 1, []), some (.getfield 450, 3, [59, 0, 11]), none, none, some (.iload_n 1, 1, []), some (.iastore, 1, []), some (.iload_n 2, 1, []), some (.invokestatic 312, 3, [0, 180, 1]), none, none, some (.istore_n 3, 1, []), some (.iload_n 2, 1, []), some (.invokestatic 318, 3, [0, 182, 1]), none, none, some (.istore 4, 2, []), none, some (.iload_n 1, 1, []), some (.iconst 1, 1, []), some (.iadd, 1, []), some (.istore 5, 2, []), none, some (.iload 5, 2, []), none, some (.aload_n 0, 1, []), some (.getfield 202, 3, [2, 0, 11]), none, none, some (.if_icmp .ge 44, 3, []), none, none, some (.iload_n 3, 1, []), some (.ifCond .eq 16, 3, []), none, none, some (.aload_n 0, 1, []), some (.getfield 13, 3, [5, 0, 11]), none, none, some (.iload 5, 2, []), none, some (.iaload, 1, []), some (.invokestatic 312, 3, [0, 180, 1]), none, none, some (.ifCond .ne 21, 3, []), none, none, some (.iload 4, 2, []), none, some (.ifCond .eq 22, 3, []), none, none, some (.aload_n 0, 1, []), some (.getfield 13, 3, [5, 0, 11]), none, none, some (.iload 5, 2, []), none, some (.iaload, 1, []), some (.invokestatic 318, 3, [0, 182, 1]), none, none, some (.ifCond .eq 9, 3, []), none, none, some (.iinc 5 1, 3, []), none, none, some (.goto (-47), 3, []), none, none, some (.aload_n 0, 1, []), some (.getfield 144, 3, [62, 0, 11]), none, none, some (.aload_n 0, 1, []), some (.getfield 450, 3, [59, 0, 11]), none, none, some (.lconst 0, 1, []), some (.lastore, 1, []), some (.iload 5, 2, []), none, some (.iload_n 1, 1, []), some (.isub, 1, []), some (.istore 6, 2, []), none, some (.iload 4, 2, []), none, some (.ifCond .eq 83, 3, []), none, none, some (.iload_n 1, 1, []), some (.istore 7, 2, []), none, some (.iload 7, 2, []), none, some (.iload 5, 2, []), none, some (.if_icmp .ge 50, 3, []), none, none, some (.iload 6, 2, []), none, some (.iconst 5, 1, []), some (.if_icmp .ge 44, 3, []), none, none, some (.aload_n 0, 1, []), some (.getfield 144, 3, [62, 0, 11]), none, none, some (.aload_n 0, 1, []), some (.getfield 450, 3, [59, 0, 11]), none, none, some (.ldc2_w 453, 3, [10]), none, none, some (.aload_n 0, 1, []), some (.getfield 144, 3, [62, 0, 11]), none, none, some (.aload_n 0, 1, []), some (.getfield 450, 3, [59, 0, 11]), none, none, some (.laload, 1, []), some (.lmul, 1, []), some (.aload_n 0, 1, []), some (.getfield 13, 3, [5, 0, 11]), none, none, some (.iload 7, 2, []), none, some (.iaload, 1, []), some (.i2l, 1, []), some (.ladd, 1, []), some (.ldc2_w 455, 3, [48]), none, none, some (.lsub, 1, []), some (.lastore, 1, []), some (.iinc 7 1, 3, []), none, none, some (.goto (-51), 3, []), none, none, some (.aload_n 0, 1, []), some (.getfield 138, 3, [60, 0, 11]), none, none, some (.aload_n 0, 1, []), some (.getfield 450, 3, [59, 0, 11]), none, none, some (.iload 6, 2, []), none, some (.iconst 5, 1, []), some (.if_icmp .ge 7, 3, []), none, none, some (.iconst 1, 1, []), some (.goto 4, 3, []), none, none, some (.iconst (-1), 1, []), some (.iastore, 1, []), some (.goto 141, 3, []), none, none, some (.iload_n 3, 1, []), some (.ifCond .eq 123, 3, []), none, none, some (.iload 5, 2, []), none, some (.iconst 1, 1, []), some (.isub, 1, []), some (.istore 7, 2, []), none, some (.iload 7, 2, []), none, some (.iload_n 1, 1, []), some (.if_icmp .lt 49, 3, []), none, none, some (.iload 6, 2, []), none, some (.bipush 7, 2, []), none, some (.if_icmp .ge 42, 3, []), none, none, some (.aload_n 0, 1, []), some (.getfield 144, 3, [62, 0, 11]), none, none, some (.aload_n 0, 1, []), some (.getfield 450, 3, [59, 0, 11]), none, none, some (.aload_n 0, 1, []), some (.getfield 144, 3, [62, 0, 11]), none, none, some (.aload_n 0, 1, []), some (.getfield 450, 3, [59, 0, 11]), none, none, some (.laload, 1, []), some (.iconst 5, 1, []), some (.lshl, 1, []), some (.aload_n 0, 1, []), some (.getfield 13, 3, [5, 0, 11]), none, none, some (.iload 7, 2, []), none, some (.iaload, 1, []), some (.i2l, 1, []), some (.ldc2_w 323, 3, [96]), none, none, some (.lsub, 1, []), some (.lor, 1, []), some (.lastore, 1, []), some (.iinc 7 (-1), 3, []), none, none, some (.goto (-49), 3, []), none, none, some (.iload 6, 2, []), none, some (.bipush 7, 2, []), none, some (.if_icmp .ge 19, 3, []), none, none, some (.aload_n 0, 1, []), some (.aload_n 0, 1, []), some (.getfield 144, 3, [62, 0, 11]), none, none, some (.aload_n 0, 1, []), some (.getfield 450, 3, [59, 0, 11]), none, none, some (.laload, 1, []), some (.invokevirtual 457, 3, [0, 1, 11, 216]), none, none, some (.goto 4, 3, []), none, none, some (.iconst (-1), 1, []), some (.istore 7, 2, []), none, some (.aload_n 0, 1, []), some (.getfield 138, 3, [60, 0, 11]), none, none, some (.aload_n 0, 1, []), some (.getfield 450, 3, [59, 0, 11]), none, none, some (.iload 6, 2, []), none, some (.bipush 6, 2, []), none, some (.if_icmp .le 7, 3, []), none, none, some (.iconst (-1), 1, []), some (.goto 16, 3, []), none, none, some (.iload 7, 2, []), none, some (.ifCond .lt 10, 3, []), none, none, some (.iconst 3, 1, []), some (.iload 7, 2, []), none, some (.iadd, 1, []), some (.goto 4, 3, []), none, none, some (.iconst 2, 1, []), some (.iastore, 1, []), some (.goto 17, 3, []), none, none, some (.aload_n 0, 1, []), some (.getfield 138, 3, [60, 0, 11]), none, none, some (.aload_n 0, 1, []), some (.getfield 450, 3, [59, 0, 11]), none, none, some (.aload_n 0, 1, []), some (.iload_n 2, 1, []), some (.invokevirtual 460, 3, [0, 1, 11, 230]), none, none, some (.iastore, 1, []), some (.aload_n 0, 1, []), some (.dup, 1, []), some (.getfield 450, 3, [59, 0, 11]), none, none, some (.iconst 1, 1, []), some (.iadd, 1, []), some (.putfield 450, 3, [59, 0, 0, 11]), none, none, some (.iload 5, 2, []), none, some (.istore_n 1, 1, []), some (.goto (-356), 3, []), none, none, some (.aload_n 0, 1, []), some (.getfield 138, 3, [60, 0, 11]), none, none, some (.aload_n 0, 1, []), some (.getfield 450, 3, [59, 0, 11]), none, none, some (.iconst 0, 1, []), some (.iastore, 1, []), some (.aload_n 0, 1, []), some (.getfield 141, 3, [61, 0, 11]), none, none, some (.aload_n 0, 1, []), some (.getfield 450, 3, [59, 0, 11]), none, none, some (.aload_n 0, 1, []), some (.getfield 202, 3, [2, 0, 11]), none, none, some (.iastore, 1, []), some (.return_, 1, [])]
/-- TwoWayGrammarModel.signOf(I)I -/
def sb_230 : List (Option sm_I) := [some (.iconst 0, 1, []), some (.istore_n 2, 1, []), some (.iload_n 2, 1, []), some (.aload_n 0, 1, []), some (.getfield 351, 3, [10, 0, 11]), none, none, some (.if_icmp .ge 34, 3, []), none, none, some (.aload_n 0, 1, []), some (.getfield 34, 3, [19, 0, 11]), none, none, some (.iload_n 2, 1, []), some (.laload, 1, []), some (.lconst 0, 1, []), some (.lcmp, 1, []), some (.ifCond .ne 17, 3, []), none, none, some (.aload_n 0, 1, []), some (.getfield 31, 3, [18, 0, 11]), none, none, some (.iload_n 2, 1, []), some (.iaload, 1, []), some (.iload_n 1, 1, []), some (.if_icmp .ne 7, 3, []), none, none, some (.iconst 3, 1, []), some (.iload_n 2, 1, []), some (.iadd, 1, []), some (.ireturn, 1, []), some (.iinc 2 1, 3, []), none, none, some (.goto (-36), 3, []), none, none, some (.iconst (-1), 1, []), some (.ireturn, 1, [])]
/-- TwoWayGrammarModel.take()I -/
def sb_231 : List (Option sm_I) := [some (.aload_n 0, 1, []), some (.aload_n 0, 1, []), some (.getfield 472, 3, [64, 0, 11]), none, none, some (.putfield 441, 3, [63, 0, 0, 11]), none, none, some (.iconst 0, 1, []), some (.istore_n 1, 1, []), some (.iload_n 1, 1, []), some (.aload_n 0, 1, []), some (.getfield 472, 3, [64, 0, 11]), none, none, some (.if_icmp .ge 57, 3, []), none, none, some (.aload_n 0, 1, []), some (.getfield 147, 3, [66, 0, 11]), none, none, some (.iload_n 1, 1, []), some (.aload_n 0, 1, []), some (.getfield 156, 3, [69, 0, 11]), none, none, some (.iload_n 1, 1, []), some (.iaload, 1, []), some (.iastore, 1, []), some (.aload_n 0, 1, []), some (.getfield 168, 3, [73, 0, 11]), none, none, some (.iload_n 1, 1, []), some (.aload_n 0, 1, []), some (.getfield 171, 3, [74, 0, 11]), none, none, some (.iload_n 1, 1, []), some (.laload, 1, []), some (.lastore, 1, []), some (.aload_n 0, 1, []), some (.getfield 150, 3, [67, 0, 11]), none, none, some (.iload_n 1, 1, []), some (.aload_n 0, 1, []), some (.getfield 159, 3, [70, 0, 11]), none, none, some (.iload_n 1, 1, []), some (.iaload, 1, []), some (.iastore, 1, []), some (.aload_n 0, 1, []), some (.getfield 153, 3, [68, 0, 11]), none, none, some (.iload_n 1, 1, []), some (.aload_n 0, 1, []), some (.getfield 162, 3, [71, 0, 11]), none, none, some (.iload_n 1, 1, []), some (.iaload, 1, []), some (.iastore, 1, []), some (.iinc 1 1, 3, []), none, none, some (.goto (-59), 3, []), none, none, some (.aload_n 0, 1, []), some (.getfield 441, 3, [63, 0, 11]), none, none, some (.ireturn, 1, [])]
/-- TwoWayGrammarModel.grow(JI)I -/
def sb_232 : List (Option sm_I) := [some (.aload_n 0, 1, []), some (.iload_n 3, 1, []), some (.ifCond .lt 9, 3, []), none, none, some (.iload_n 3, 1, []), some (.bipush 20, 2, []), none, some (.if_icmp .le 7, 3, []), none, none, some (.iconst 1, 1, []), some (.goto 16, 3, []), none, none, some (.aload_n 0, 1, []), some (.getfield 435, 3, [7, 0, 11]), none, none, some (.iconst 2, 1, []), some (.if_icmp .ge 7, 3, []), none, none, some (.iconst 2, 1, []), some (.goto 4, 3, []), none, none, some (.iconst 0, 1, []), some (.putfield 195, 3, [0, 0, 0, 11]), none, none, some (.aload_n 0, 1, []), some (.getfield 195, 3, [0, 0, 11]), none, none, some (.ifCond .le 5, 3, []), none, none, some (.iconst 0, 1, []), some (.ireturn, 1, []), some (.aload_n 0, 1, []), some (.lload_n 1, 1, []), some (.putfield 507, 3, [95, 1, 0, 11]), none, none, some (.aload_n 0, 1, []), some (.iload_n 3, 1, []), some (.putfield 514, 3, [83, 0, 0, 11]), none, none, some (.aload_n 0, 1, []), some (.iconst 1, 1, []), some (.invokevirtual 583, 3, [0, 1, 11, 206]), none, none, some (.aload_n 0, 1, []), some (.aload_n 0, 1, []), some (.getfield 487, 3, [92, 0, 11]), none, none, some (.ifCond .eq 7, 3, []), none, none, some (.iconst 3, 1, []), some (.goto 4, 3, []), none, none, some (.iconst 0, 1, []), some (.putfield 195, 3, [0, 0, 0, 11]), none, none, some (.aload_n 0, 1, []), some (.getfield 487, 3, [92, 0, 11]), none, none, some (.ifCond .eq 7, 3, []), none, none, some (.iconst 0, 1, []), some (.goto 7, 3, []), none, none, some (.aload_n 0, 1, []), some (.invokevirtual 592, 3, [0, 0, 11, 231]), none, none, some (.ireturn, 1, [])]
/-- TwoWayGrammarModel.node(II)J -/
def sb_233 : List (Option sm_I) := [some (.aload_n 0, 1, []), some (.iload_n 1, 1, []), some (.ifCond .lt 11, 3, []), none, none, some (.iload_n 1, 1, []), some (.aload_n 0, 1, []), some (.getfield 441, 3, [63, 0, 11]), none, none, some (.if_icmp .lt 7, 3, []), none, none, some (.iconst 1, 1, []), some (.goto 17, 3, []), none, none, some (.iload_n 2, 1, []), some (.ifCond .lt 8, 3, []), none, none, some (.iload_n 2, 1, []), some (.iconst 3, 1, []), some (.if_icmp .le 7, 3, []), none, none, some (.iconst 2, 1, []), some (.goto 4, 3, []), none, none, some (.iconst 0, 1, []), some (.putfield 195, 3, [0, 0, 0, 11]), none, none, some (.aload_n 0, 1, []), some (.getfield 195, 3, [0, 0, 11]), none, none, some (.ifCond .le 5, 3, []), none, none, some (.lconst 0, 1, []), some (.lreturn, 1, []), some (.iload_n 2, 1, []), some (.iconst 2, 1, []), some (.if_icmp .ge 34, 3, []), none, none, some (.iload_n 2, 1, []), some (.ifCond .ne 18, 3, []), none, none, some (.aload_n 0, 1, []), some (.getfield 147, 3, [66, 0, 11]), none, none, some (.aload_n 0, 1, []), some (.getfield 153, 3, [68, 0, 11]), none, none, some (.iload_n 1, 1, []), some (.iaload, 1, []), some (.iaload, 1, []), some (.i2l, 1, []), some (.goto 14, 3, []), none, none, some (.aload_n 0, 1, []), some (.getfield 168, 3, [73, 0, 11]), none, none, some (.aload_n 0, 1, []), some (.getfield 153, 3, [68, 0, 11]), none, none, some (.iload_n 1, 1, []), some (.iaload, 1, []), some (.laload, 1, []), some (.lreturn, 1, []), some (.iload_n 1, 1, []), some (.istore_n 3, 1, []), some (.iload_n 2, 1, []), some (.iconst 2, 1, []), some (.if_icmp .ne 29, 3, []), none, none, some (.iload_n 3, 1, []), some (.ifCond .lt 22, 3, []), none, none, some (.aload_n 0, 1, []), some (.iload_n 3, 1, []), some (.invokevirtual 595, 3, [0, 1, 11, 234]), none, none, some (.aload_n 0, 1, []), some (.iload_n 1, 1, []), some (.invokevirtual 595, 3, [0, 1, 11, 234]), none, none, some (.if_icmp .lt 9, 3, []), none, none, some (.iinc 3 (-1), 3, []), none, none, some (.goto (-20), 3, []), none, none, some (.iload_n 3, 1, []), some (.i2l, 1, []), some (.lreturn, 1, []), some (.iload_n 1, 1, []), some (.iconst 1, 1, []), some (.iadd, 1, []), some (.istore_n 3, 1, []), some (.iload_n 3, 1, []), some (.aload_n 0, 1, []), some (.getfield 441, 3, [63, 0, 11]), none, none, some (.if_icmp .ge 22, 3, []), none, none, some (.aload_n 0, 1, []), some (.iload_n 3, 1, []), some (.invokevirtual 595, 3, [0, 1, 11, 234]), none, none, some (.aload_n 0, 1, []), some (.iload_n 1, 1, []), some (.invokevirtual 595, 3, [0, 1, 11, 234]), none, none, some (.if_icmp .le 9, 3, []), none, none, some (.iinc 3 1, 3, []), none, none, some (.goto (-24), 3, []), none, none, some (.iload_n 3, 1, []), some (.iload_n 1, 1, []), some (.isub, 1, []), some (.iconst 1, 1, []), some (.isub, 1, []), some (.i2l, 1, []), some (.lreturn, 1, [])]
/-- TwoWayGrammarModel.levelOf(I)I -/
def sb_234 : List (Option sm_I) := [some (.aload_n 0, 1, []), some (.getfield 150, 3, [67, 0, 11]), none, none, some (.aload_n 0, 1, []), some (.getfield 153, 3, [68, 0, 11]), none, none, some (.iload_n 1, 1, []), some (.iaload, 1, []), some (.iaload, 1, []), some (.ireturn, 1, [])]
/-- TwoWayGrammarModel.set(IJ)Z -/
def sb_235 : List (Option sm_I) := [some (.aload_n 0, 1, []), some (.iload_n 1, 1, []), some (.ifCond .lt 11, 3, []), none, none, some (.iload_n 1, 1, []), some (.aload_n 0, 1, []), some (.getfield 441, 3, [63, 0, 11]), none, none, some (.if_icmp .lt 7, 3, []), none, none, some (.iconst 1, 1, []), some (.goto 4, 3, []), none, none, some (.iconst 0, 1, []), some (.putfield 195, 3, [0, 0, 0, 11]), none, none, some (.aload_n 0, 1, []), some (.getfield 195, 3, [0, 0, 11]), none, none, some (.ifCond .le 5, 3, []), none, none, some (.iconst 0, 1, []), some (.ireturn, 1, []), some (.aload_n 0, 1, []), some (.getfield 153, 3, [68, 0, 11]), none, none, some (.iload_n 1, 1, []), some (.iaload, 1, []), some (.istore 4, 2, []), none, some (.aload_n 0, 1, []), some (.getfield 147, 3, [66, 0, 11]), none, none, some (.iload 4, 2, []), none, some (.iaload, 1, []), some (.iconst 2, 1, []), some (.if_icmp .ne 25, 3, []), none, none, some (.lload_n 2, 1, []), some (.lconst 0, 1, []), some (.lcmp, 1, []), some (.ifCond .lt 15, 3, []), none, none, some (.lload_n 2, 1, []), some (.ldc2_w 598, 3, [9999]), none, none, some (.lcmp, 1, []), some (.ifCond .gt 7, 3, []), none, none, some (.iconst 1, 1, []), some (.goto 31, 3, []), none, none, some (.iconst 0, 1, []), some (.goto 27, 3, []), none, none, some (.aload_n 0, 1, []), some (.getfield 147, 3, [66, 0, 11]), none, none, some (.iload 4, 2, []), none, some (.iaload, 1, []), some (.iconst 3, 1, []), some (.if_icmp .ne 15, 3, []), none, none, some (.aload_n 0, 1, []), some (.lload_n 2, 1, []), some (.invokevirtual 600, 3, [0, 1, 11, 236]), none, none, some (.ifCond .eq 7, 3, []), none, none, some (.iconst 1, 1, []), some (.goto 4, 3, []), none, none, some (.iconst 0, 1, []), some (.istore 5, 2, []), none, some (.iload 5, 2, []), none, some (.ifCond .eq 11, 3, []), none, none, some (.aload_n 0, 1, []), some (.getfield 168, 3, [73, 0, 11]), none, none, some (.iload 4, 2, []), none, some (.lload_n 2, 1, []), some (.lastore, 1, []), some (.iload 5, 2, []), none, some (.ireturn, 1, [])]
/-- TwoWayGrammarModel.isName(J)Z -/
def sb_236 : List (Option sm_I) := [some (.lload_n 1, 1, []), some (.lconst 1, 1, []), some (.lcmp, 1, []), some (.ifCond .lt 11, 3, []), none, none, some (.lload_n 1, 1, []), some (.ldc2_w 603, 3, [1073741824]), none, none, some (.lcmp, 1, []), some (.ifCond .lt 5, 3, []), none, none, some (.iconst 0, 1, []), some (.ireturn, 1, []), some (.lload_n 1, 1, []), some (.lstore_n 3, 1, []), some (.lload_n 3, 1, []), some (.lconst 0, 1, []), some (.lcmp, 1, []), some (.ifCond .le 34, 3, []), none, none, some (.lload_n 3, 1, []), some (.ldc2_w 575, 3, [31]), none, none, some (.land, 1, []), some (.lconst 1, 1, []), some (.lcmp, 1, []), some (.ifCond .lt 15, 3, []), none, none, some (.lload_n 3, 1, []), some (.ldc2_w 575, 3, [31]), none, none, some (.land, 1, []), some (.ldc2_w 555, 3, [26]), none, none, some (.lcmp, 1, []), some (.ifCond .le 5, 3, []), none, none, some (.iconst 0, 1, []), some (.ireturn, 1, []), some (.lload_n 3, 1, []), some (.iconst 5, 1, []), some (.lshr, 1, []), some (.lstore_n 3, 1, []), some (.goto (-34), 3, []), none, none, some (.aload_n 0, 1, []), some (.lload_n 1, 1, []), some (.invokevirtual 457, 3, [0, 1, 11, 216]), none, none, some (.ifCond .ge 7, 3, []), none, none, some (.iconst 1, 1, []), some (.goto 4, 3, []), none, none, some (.iconst 0, 1, []), some (.ireturn, 1, [])]
/-- TwoWayGrammarModel.output(I)C -/
def sb_237 : List (Option sm_I) := [some (.aload_n 0, 1, []), some (.iload_n 1, 1, []), some (.ifCond .lt 11, 3, []), none, none, some (.iload_n 1, 1, []), some (.aload_n 0, 1, []), some (.getfield 586, 3, [3, 0, 11]), none, none, some (.if_icmp .lt 7, 3, []), none, none, some (.iconst 1, 1, []), some (.goto 4, 3, []), none, none, some (.iconst 0, 1, []), some (.putfield 195, 3, [0, 0, 0, 11]), none, none, some (.aload_n 0, 1, []), some (.getfield 195, 3, [0, 0, 11]), none, none, some (.ifCond .le 7, 3, []), none, none, some (.iconst 0, 1, []), some (.goto 10, 3, []), none, none, some (.aload_n 0, 1, []), some (.getfield 16, 3, [6, 0, 11]), none, none, some (.iload_n 1, 1, []), some (.iaload, 1, []), some (.i2c, 1, []), some (.ireturn, 1, [])]
/-- TwoWayGrammarModel.carry()I -/
def sb_238 : List (Option sm_I) := [some (.aload_n 0, 1, []), some (.iconst 0, 1, []), some (.putfield 195, 3, [0, 0, 0, 11]), none, none, some (.iconst 0, 1, []), some (.istore_n 1, 1, []), some (.iload_n 1, 1, []), some (.aload_n 0, 1, []), some (.getfield 586, 3, [3, 0, 11]), none, none, some (.if_icmp .ge 21, 3, []), none, none, some (.aload_n 0, 1, []), some (.getfield 13, 3, [5, 0, 11]), none, none, some (.iload_n 1, 1, []), some (.aload_n 0, 1, []), some (.getfield 16, 3, [6, 0, 11]), none, none, some (.iload_n 1, 1, []), some (.iaload, 1, []), some (.iastore, 1, []), some (.iinc 1 1, 3, []), none, none, some (.goto (-23), 3, []), none, none, some (.aload_n 0, 1, []), some (.aload_n 0, 1, []), some (.getfield 586, 3, [3, 0, 11]), none, none, some (.putfield 202, 3, [2, 0, 0, 11]), none, none, some (.aload_n 0, 1, []), some (.getfield 202, 3, [2, 0, 11]), none, none, some (.ireturn, 1, [])]
/-- TwoWayGrammarModel.keep()Z -/
def sb_239 : List (Option sm_I) := [some (.aload_n 0, 1, []), some (.iconst 0, 1, []), some (.putfield 195, 3, [0, 0, 0, 11]), none, none, some (.aload_n 0, 1, []), some (.getfield 441, 3, [63, 0, 11]), none, none, some (.ifCond .ne 5, 3, []), none, none, some (.iconst 0, 1, []), some (.ireturn, 1, []), some (.iconst 0, 1, []), some (.istore_n 1, 1, []), some (.iload_n 1, 1, []), some (.aload_n 0, 1, []), some (.getfield 441, 3, [63, 0, 11]), none, none, some (.if_icmp .ge 43, 3, []), none, none, some (.aload_n 0, 1, []), some (.getfield 165, 3, [72, 0, 11]), none, none, some (.iload_n 1, 1, []), some (.aload_n 0, 1, []), some (.getfield 147, 3, [66, 0, 11]), none, none, some (.aload_n 0, 1, []), some (.getfield 153, 3, [68, 0, 11]), none, none, some (.iload_n 1, 1, []), some (.iaload, 1, []), some (.iaload, 1, []), some (.iastore, 1, []), some (.aload_n 0, 1, []), some (.getfield 174, 3, [75, 0, 11]), none, none, some (.iload_n 1, 1, []), some (.aload_n 0, 1, []), some (.getfield 168, 3, [73, 0, 11]), none, none, some (.aload_n 0, 1, []), some (.getfield 153, 3, [68, 0, 11]), none, none, some (.iload_n 1, 1, []), some (.iaload, 1, []), some (.laload, 1, []), some (.lastore, 1, []), some (.iinc 1 1, 3, []), none, none, some (.goto (-45), 3, []), none, none, some (.aload_n 0, 1, []), some (.aload_n 0, 1, []), some (.getfield 441, 3, [63, 0, 11]), none, none, some (.putfield 438, 3, [65, 0, 0, 11]), none, none, some (.iconst 1, 1, []), some (.ireturn, 1, [])]
/-- TwoWayGrammarModel.compare()I -/
def sb_240 : List (Option sm_I) := [some (.aload_n 0, 1, []), some (.aload_n 0, 1, []), some (.getfield 441, 3, [63, 0, 11]), none, none, some (.ifCond .eq 10, 3, []), none, none, some (.aload_n 0, 1, []), some (.getfield 438, 3, [65, 0, 11]), none, none, some (.ifCond .ne 7, 3, []), none, none, some (.iconst 1, 1, []), some (.goto 4, 3, []), none, none, some (.iconst 0, 1, []), some (.putfield 195, 3, [0, 0, 0, 11]), none, none, some (.aload_n 0, 1, []), some (.getfield 195, 3, [0, 0, 11]), none, none, some (.ifCond .le 5, 3, []), none, none, some (.iconst 0, 1, []), some (.ireturn, 1, []), some (.iconst 0, 1, []), some (.istore_n 1, 1, []), some (.iload_n 1, 1, []), some (.aload_n 0, 1, []), some (.getfield 441, 3, [63, 0, 11]), none, none, some (.if_icmp .ge 95, 3, []), none, none, some (.iload_n 1, 1, []), some (.aload_n 0, 1, []), some (.getfield 438, 3, [65, 0, 11]), none, none, some (.if_icmp .ge 87, 3, []), none, none, some (.aload_n 0, 1, []), some (.getfield 147, 3, [66, 0, 11]), none, none, some (.aload_n 0, 1, []), some (.getfield 153, 3, [68, 0, 11]), none, none, some (.iload_n 1, 1, []), some (.iaload, 1, []), some (.iaload, 1, []), some (.istore_n 2, 1, []), some (.aload_n 0, 1, []), some (.getfield 168, 3, [73, 0, 11]), none, none, some (.aload_n 0, 1, []), some (.getfield 153, 3, [68, 0, 11]), none, none, some (.iload_n 1, 1, []), some (.iaload, 1, []), some (.laload, 1, []), some (.lstore_n 3, 1, []), some (.iload_n 2, 1, []), some (.aload_n 0, 1, []), some (.getfield 165, 3, [72, 0, 11]), none, none, some (.iload_n 1, 1, []), some (.iaload, 1, []), some (.if_icmp .eq 19, 3, []), none, none, some (.iload_n 2, 1, []), some (.aload_n 0, 1, []), some (.getfield 165, 3, [72, 0, 11]), none, none, some (.iload_n 1, 1, []), some (.iaload, 1, []), some (.if_icmp .ge 7, 3, []), none, none, some (.iconst (-1), 1, []), some (.goto 4, 3, []), none, none, some (.iconst 1, 1, []), some (.ireturn, 1, []), some (.lload_n 3, 1, []), some (.aload_n 0, 1, []), some (.getfield 174, 3, [75, 0, 11]), none, none, some (.iload_n 1, 1, []), some (.laload, 1, []), some (.lcmp, 1, []), some (.ifCond .eq 20, 3, []), none, none, some (.lload_n 3, 1, []), some (.aload_n 0, 1, []), some (.getfield 174, 3, [75, 0, 11]), none, none, some (.iload_n 1, 1, []), some (.laload, 1, []), some (.lcmp, 1, []), some (.ifCond .ge 7, 3, []), none, none, some (.iconst (-1), 1, []), some (.goto 4, 3, []), none, none, some (.iconst 1, 1, []), some (.ireturn, 1, []), some (.iinc 1 1, 3, []), none, none, some (.goto (-97), 3, []), none, none, some (.aload_n 0, 1, []), some (.getfield 441, 3, [63, 0, 11]), none, none, some (.aload_n 0, 1, []), some (.getfield 438, 3, [65, 0, 11]), none, none, some (.if_icmp .ne 7, 3, []), none, none, some (.iconst 0, 1, []), some (.goto 19, 3, []), none, none, some (.aload_n 0, 1, []), some (.getfield 441, 3, [63, 0, 11]), none, none, some (.aload_n 0, 1, []), some (.getfield 438, 3, [65, 0, 11]), none, none, some (.if_icmp .ge 7, 3, []), none, none, some (.iconst (-1), 1, []), some (.goto 4, 3, []), none, none, some (.iconst 1, 1, []), some (.ireturn, 1, [])]
/-- TwoWayGrammarModel.count(I)I -/
def sb_241 : List (Option sm_I) := [some (.aload_n 0, 1, []), some (.iconst 0, 1, []), some (.putfield 195, 3, [0, 0, 0, 11]), none, none, some (.iload_n 1, 1, []), some (.tableswitch 77 0 6 #[42, 47, 52, 57, 62, 67, 72], 42, []), none, none, none, none, none, none, none, none, none, none, none, none, none, none, none, none, none, none, none, none, none, none, none, none, none, none, none, none, none, none, none, none, none, none, none, none, none, none, none, none, none, some (.aload_n 0, 1, []), some (.getfield 199, 3, [1, 0, 11]), none, none, some (.ireturn, 1, []), some (.aload_n 0, 1, []), some (.getfield 202, 3, [2, 0, 11]), none, none, some (.ireturn, 1, []), some (.aload_n 0, 1, []), some (.getfield 586, 3, [3, 0, 11]), none, none, some (.ireturn, 1, []), some (.aload_n 0, 1, []), some (.getfield 392, 3, [9, 0, 11]), none, none, some (.ireturn, 1, []), some (.aload_n 0, 1, []), some (.getfield 351, 3, [10, 0, 11]), none, none, some (.ireturn, 1, []), some (.aload_n 0, 1, []), some (.getfield 441, 3, [63, 0, 11]), none, none, some (.ireturn, 1, []), some (.aload_n 0, 1, []), some (.getfield 438, 3, [65, 0, 11]), none, none, some (.ireturn, 1, []), some (.iconst (-1), 1, []), some (.ireturn, 1, [])]
end
section
/-! the methods, by their numbers -/
def sb_all0 : List sm_M := [(1, 0, sb_0), (2, 0, sb_1), (1, 0, sb_2), (2, 0, sb_3), (3, 0, sb_4), (2, 0, sb_5), (3, 0, sb_6), (1, 0, sb_7), (5, 0, sb_8), (4, 0, sb_9), (4, 0, sb_10), (5, 0, sb_11), (2, 1, sb_12), (1, 0, sb_13), (3, 1, sb_14), (2, 0, sb_15), (3, 0, sb_16), (1, 0, sb_17), (2, 0, sb_18), (3, 1, sb_19), (2, 5, sb_20), (1, 4, sb_21), (1, 1, sb_22), (1, 4, sb_23), (1, 0, sb_24), (3, 1, sb_25), (6, 4, sb_26), (1, 1, sb_27), (1, 6, sb_28), (2, 5, sb_29), (1, 4, sb_30), (2, 5, sb_31), (2, 0, sb_32), (3, 0, sb_33), (5, 1, sb_34), (2, 0, sb_35), (1, 4, sb_36), (1, 4, sb_37), (1, 1, sb_38), (2, 0, sb_39)]
def sy_all0 : List sm_Y := [(⟨"TwoWayGrammar", "<init>", "()V"⟩, prog_1_method_1_code, none), (⟨"TwoWayGrammar$Text", "<init>", "(I)V"⟩, prog_9_method_1_code, none), (⟨"TwoWayGrammar$Grammar", "<init>", "()V"⟩, prog_3_method_1_code, none), (⟨"TwoWayGrammar$Tokens", "<init>", "(LTwoWayGrammar$Text;)V"⟩, prog_10_method_1_code, none), (⟨"TwoWayGrammar$Reader", "<init>", "(LTwoWayGrammar$Tokens;LTwoWayGrammar$Grammar;)V"⟩, prog_7_method_1_code, none), (⟨"TwoWayGrammar$Sets", "<init>", "(LTwoWayGrammar$Grammar;)V"⟩, prog_8_method_1_code, none), (⟨"TwoWayGrammar$Checks", "<init>", "(LTwoWayGrammar$Grammar;LTwoWayGrammar$Sets;)V"⟩, prog_2_method_1_code, none), (⟨"TwoWayGrammar$Tree", "<init>", "()V"⟩, prog_11_method_1_code, none), (⟨"TwoWayGrammar$Parsing", "<init>", "(LTwoWayGrammar$Grammar;LTwoWayGrammar$Sets;LTwoWayGrammar$Tree;LTwoWayGrammar$Text;)V"⟩, prog_5_method_1_code, none), (⟨"TwoWayGrammar$Walk", "<init>", "(LTwoWayGrammar$Grammar;LTwoWayGrammar$Sets;LTwoWayGrammar$Tree;)V"⟩, prog_12_method_1_code, none), (⟨"TwoWayGrammar$Growing", "<init>", "(LTwoWayGrammar$Grammar;LTwoWayGrammar$Sets;LTwoWayGrammar$Tree;)V"⟩, prog_4_method_1_code, none), (⟨"TwoWayGrammar$Printing", "<init>", "(LTwoWayGrammar$Grammar;LTwoWayGrammar$Sets;LTwoWayGrammar$Tree;LTwoWayGrammar$Text;)V"⟩, prog_6_method_1_code, none), (⟨"TwoWayGrammar", "compile", "()I"⟩, prog_1_method_5_code, (some (.int))), (⟨"TwoWayGrammar$Tree", "drop", "()V"⟩, prog_11_method_2_code, none), (⟨"TwoWayGrammar$Reader", "read", "()I"⟩, prog_7_method_2_code, (some (.int))), (⟨"TwoWayGrammar$Grammar", "drop", "()V"⟩, prog_3_method_2_code, none), (⟨"TwoWayGrammar", "put", "([III)V"⟩, prog_1_method_20_code, none), (⟨"TwoWayGrammar$Tokens", "rewind", "()V"⟩, prog_10_method_2_code, none), (⟨"TwoWayGrammar$Tokens", "advance", "()V"⟩, prog_10_method_3_code, none), (⟨"TwoWayGrammar$Text", "behindBlanks", "(I)I"⟩, prog_9_method_8_code, (some (.int))), (⟨"TwoWayGrammar$Text", "at", "(I)C"⟩, prog_9_method_3_code, (some (.char))), (⟨"TwoWayGrammar", "isBlank", "(I)Z"⟩, prog_1_method_25_code, (some (.boolean))), (⟨"TwoWayGrammar$Text", "length", "()I"⟩, prog_9_method_2_code, (some (.int))), (⟨"TwoWayGrammar", "isSmall", "(I)Z"⟩, prog_1_method_22_code, (some (.boolean))), (⟨"TwoWayGrammar$Tokens", "takeWord", "()V"⟩, prog_10_method_5_code, none), (⟨"TwoWayGrammar$Text", "behindLetters", "(I)I"⟩, prog_9_method_9_code, (some (.int))), (⟨"TwoWayGrammar$Text", "has", "(Ljava/lang/String;II)Z"⟩, prog_9_method_11_code, (some (.boolean))), (⟨"java/lang/String", "length", "()I"⟩, prog_23_method_54_code, (some (.int))), (⟨"java/lang/String", "coder", "()B"⟩, prog_23_method_152_code, (some (.byte))), (⟨"java/lang/String", "charAt", "(I)C"⟩, prog_23_method_56_code, (some (.char))), (⟨"java/lang/String", "isLatin1", "()Z"⟩, prog_23_method_154_code, (some (.boolean))), (⟨"java/lang/StringLatin1", "charAt", "([BI)C"⟩, prog_24_method_2_code, (some (.char))), (⟨"java/lang/String", "checkIndex", "(II)V"⟩, prog_23_method_155_code, none), (⟨"TwoWayGrammar$Tokens", "takeKeyword", "()V"⟩, prog_10_method_6_code, none), (⟨"TwoWayGrammar$Text", "letterCode", "(II)I"⟩, prog_9_method_12_code, (some (.int))), (⟨"TwoWayGrammar$Tokens", "takeSign", "()V"⟩, prog_10_method_7_code, none), (⟨"TwoWayGrammar", "isCapital", "(I)Z"⟩, prog_1_method_23_code, (some (.boolean))), (⟨"TwoWayGrammar", "isDigit", "(I)Z"⟩, prog_1_method_24_code, (some (.boolean))), (⟨"TwoWayGrammar", "signCode", "(C)I"⟩, prog_1_method_27_code, (some (.int))), (⟨"TwoWayGrammar$Tokens", "takeCharacter", "(C)V"⟩, prog_10_method_8_code, none)]
def sb_all1 : List sm_M := [(2, 1, sb_40), (3, 1, sb_41), (4, 1, sb_42), (1, 4, sb_43), (6, 1, sb_44), (3, 0, sb_45), (2, 1, sb_46), (3, 0, sb_47), (3, 1, sb_48), (2, 1, sb_49), (3, 1, sb_50), (2, 0, sb_51), (7, 0, sb_52), (5, 1, sb_53), (7, 0, sb_54), (5, 1, sb_55), (1, 4, sb_56), (3, 4, sb_57), (3, 1, sb_58), (5, 1, sb_59), (5, 1, sb_60), (3, 1, sb_61), (1, 1, sb_62), (4, 0, sb_63), (3, 0, sb_64), (2, 0, sb_65), (4, 0, sb_66), (3, 0, sb_67), (9, 0, sb_68), (9, 0, sb_69), (4, 0, sb_70), (3, 1, sb_71), (2, 2, sb_72), (4, 1, sb_73), (2, 4, sb_74), (4, 1, sb_75), (5, 0, sb_76), (12, 0, sb_77), (9, 2, sb_78), (6, 0, sb_79)]
def sy_all1 : List sm_Y := [(⟨"java/lang/String", "indexOf", "(I)I"⟩, prog_23_method_79_code, (some (.int))), (⟨"java/lang/String", "indexOf", "(II)I"⟩, prog_23_method_80_code, (some (.int))), (⟨"java/lang/StringLatin1", "indexOf", "([BIII)I"⟩, prog_24_method_22_code, (some (.int))), (⟨"java/lang/StringLatin1", "canEncode", "(I)Z"⟩, prog_24_method_4_code, (some (.boolean))), (⟨"java/lang/StringLatin1", "indexOfChar", "([BIII)I"⟩, prog_24_method_23_code, (some (.int))), (⟨"java/lang/String", "checkBoundsBeginEnd", "(III)V"⟩, prog_23_method_158_code, none), (⟨"TwoWayGrammar$Reader", "beginRule", "()I"⟩, prog_7_method_5_code, (some (.int))), (⟨"TwoWayGrammar$Reader", "blame", "(II)V"⟩, prog_7_method_3_code, none), (⟨"TwoWayGrammar$Grammar", "ruleNamed", "(I)I"⟩, prog_3_method_3_code, (some (.int))), (⟨"TwoWayGrammar", "at", "([II)I"⟩, prog_1_method_18_code, (some (.int))), (⟨"TwoWayGrammar$Grammar", "addRule", "(II)I"⟩, prog_3_method_5_code, (some (.int))), (⟨"TwoWayGrammar$Reader", "expect", "(I)V"⟩, prog_7_method_4_code, none), (⟨"TwoWayGrammar$Reader", "readForm", "(II)V"⟩, prog_7_method_6_code, none), (⟨"TwoWayGrammar$Grammar", "addAlternative", "(III)I"⟩, prog_3_method_8_code, (some (.int))), (⟨"TwoWayGrammar$Reader", "readItems", "(II)V"⟩, prog_7_method_7_code, none), (⟨"TwoWayGrammar$Reader", "readUnit", "(III)I"⟩, prog_7_method_8_code, (some (.int))), (⟨"TwoWayGrammar$Tokens", "beginsPart", "()Z"⟩, prog_10_method_4_code, (some (.boolean))), (⟨"TwoWayGrammar$Reader", "isOneTooMany", "(I)Z"⟩, prog_7_method_9_code, (some (.boolean))), (⟨"TwoWayGrammar$Grammar", "literal", "(I)I"⟩, prog_3_method_4_code, (some (.int))), (⟨"TwoWayGrammar$Reader", "readPart", "(I)I"⟩, prog_7_method_10_code, (some (.int))), (⟨"TwoWayGrammar$Grammar", "addPart", "(III)I"⟩, prog_3_method_9_code, (some (.int))), (⟨"TwoWayGrammar$Grammar", "addLiteral", "(I)I"⟩, prog_3_method_7_code, (some (.int))), (⟨"TwoWayGrammar$Grammar", "addGroup", "()I"⟩, prog_3_method_6_code, (some (.int))), (⟨"TwoWayGrammar$Grammar", "attach", "(III)V"⟩, prog_3_method_10_code, none), (⟨"TwoWayGrammar$Reader", "nameUses", "()V"⟩, prog_7_method_11_code, none), (⟨"TwoWayGrammar$Sets", "work", "()V"⟩, prog_8_method_2_code, none), (⟨"TwoWayGrammar", "put", "([JIJ)V"⟩, prog_1_method_21_code, none), (⟨"TwoWayGrammar$Sets", "spreadStarts", "()V"⟩, prog_8_method_9_code, none), (⟨"TwoWayGrammar$Sets", "refreshForm", "(I)V"⟩, prog_8_method_10_code, none), (⟨"TwoWayGrammar$Sets", "refreshAlternative", "(I)V"⟩, prog_8_method_11_code, none), (⟨"TwoWayGrammar$Sets", "refreshPart", "(I)V"⟩, prog_8_method_5_code, none), (⟨"TwoWayGrammar$Grammar", "formIn", "(I)I"⟩, prog_3_method_11_code, (some (.int))), (⟨"TwoWayGrammar", "at", "([JI)J"⟩, prog_1_method_19_code, (some (.long))), (⟨"TwoWayGrammar$Sets", "begins", "(I)I"⟩, prog_8_method_7_code, (some (.int))), (⟨"TwoWayGrammar$Sets", "mayBePassed", "(I)Z"⟩, prog_8_method_6_code, (some (.boolean))), (⟨"TwoWayGrammar$Sets", "height", "(I)I"⟩, prog_8_method_8_code, (some (.int))), (⟨"TwoWayGrammar$Sets", "spreadFollows", "()V"⟩, prog_8_method_12_code, none), (⟨"TwoWayGrammar$Sets", "spreadInto", "(IJ)V"⟩, prog_8_method_13_code, none), (⟨"TwoWayGrammar$Sets", "startsFrom", "(IJ)J"⟩, prog_8_method_14_code, (some (.long))), (⟨"TwoWayGrammar$Sets", "findDirectors", "()V"⟩, prog_8_method_15_code, none)]
def sb_all2 : List sm_M := [(4, 0, sb_80), (5, 1, sb_81), (2, 1, sb_82), (3, 0, sb_83), (4, 0, sb_84), (2, 4, sb_85), (3, 0, sb_86), (8, 0, sb_87), (1, 1, sb_88), (3, 0, sb_89), (1, 0, sb_90), (3, 4, sb_91), (1, 4, sb_92), (3, 0, sb_93), (2, 1, sb_94), (3, 4, sb_95), (2, 3, sb_96), (3, 1, sb_97), (2, 1, sb_98), (3, 0, sb_99), (3, 2, sb_100), (2, 1, sb_101), (1, 1, sb_102), (1, 0, sb_103), (1, 0, sb_104), (1, 0, sb_105), (2, 0, sb_106), (2, 0, sb_107), (3, 1, sb_108), (1, 0, sb_109), (4, 1, sb_110), (1, 0, sb_111), (1, 0, sb_112), (4, 0, sb_113), (1, 0, sb_114), (3, 1, sb_115), (4, 1, sb_116), (3, 1, sb_117), (1, 0, sb_118), (1, 0, sb_119)]
def sy_all2 : List sm_Y := [(⟨"TwoWayGrammar$Sets", "findTops", "()V"⟩, prog_8_method_16_code, none), (⟨"TwoWayGrammar$Sets", "groupTops", "(I)I"⟩, prog_8_method_17_code, (some (.int))), (⟨"TwoWayGrammar$Checks", "firstFault", "()I"⟩, prog_2_method_2_code, (some (.int))), (⟨"TwoWayGrammar$Checks", "checkRules", "()V"⟩, prog_2_method_4_code, none), (⟨"TwoWayGrammar$Checks", "blame", "(II)V"⟩, prog_2_method_3_code, none), (⟨"TwoWayGrammar$Sets", "isFinite", "(I)Z"⟩, prog_8_method_3_code, (some (.boolean))), (⟨"TwoWayGrammar$Checks", "checkRepeats", "()V"⟩, prog_2_method_5_code, none), (⟨"TwoWayGrammar$Checks", "checkChoice", "(I)V"⟩, prog_2_method_6_code, none), (⟨"TwoWayGrammar", "carry", "()I"⟩, prog_1_method_13_code, (some (.int))), (⟨"TwoWayGrammar$Text", "takeOver", "(LTwoWayGrammar$Text;)V"⟩, prog_9_method_7_code, none), (⟨"TwoWayGrammar$Text", "drop", "()V"⟩, prog_9_method_4_code, none), (⟨"TwoWayGrammar$Text", "append", "(C)Z"⟩, prog_9_method_5_code, (some (.boolean))), (⟨"TwoWayGrammar", "keep", "()Z"⟩, prog_1_method_14_code, (some (.boolean))), (⟨"TwoWayGrammar$Tree", "takeOver", "(LTwoWayGrammar$Tree;)V"⟩, prog_11_method_10_code, none), (⟨"TwoWayGrammar", "count", "(I)I"⟩, prog_1_method_16_code, (some (.int))), (⟨"TwoWayGrammar", "type", "(IC)Z"⟩, prog_1_method_2_code, (some (.boolean))), (⟨"TwoWayGrammar", "text", "(I)LTwoWayGrammar$Text;"⟩, prog_1_method_17_code, (some (.object "TwoWayGrammar$Text"))), (⟨"TwoWayGrammar", "clear", "(I)I"⟩, prog_1_method_3_code, (some (.int))), (⟨"TwoWayGrammar", "sample", "(I)I"⟩, prog_1_method_4_code, (some (.int))), (⟨"TwoWayGrammar$Text", "appendAll", "(Ljava/lang/String;)V"⟩, prog_9_method_6_code, none), (⟨"TwoWayGrammar", "rule", "(II)J"⟩, prog_1_method_6_code, (some (.long))), (⟨"TwoWayGrammar$Sets", "ruleHeight", "(I)I"⟩, prog_8_method_4_code, (some (.int))), (⟨"TwoWayGrammar", "parse", "()I"⟩, prog_1_method_7_code, (some (.int))), (⟨"TwoWayGrammar$Walk", "walk", "()V"⟩, prog_12_method_14_code, none), (⟨"TwoWayGrammar$Growing", "begin", "()V"⟩, prog_4_method_3_code, none), (⟨"TwoWayGrammar$Parsing", "begin", "()V"⟩, prog_5_method_2_code, none), (⟨"TwoWayGrammar$Parsing", "takeToken", "()V"⟩, prog_5_method_5_code, none), (⟨"TwoWayGrammar$Parsing", "takeNumber", "()V"⟩, prog_5_method_6_code, none), (⟨"TwoWayGrammar$Text", "behindDigits", "(I)I"⟩, prog_9_method_10_code, (some (.int))), (⟨"TwoWayGrammar$Parsing", "takeWord", "()V"⟩, prog_5_method_7_code, none), (⟨"TwoWayGrammar$Parsing", "literalOr", "(II)I"⟩, prog_5_method_8_code, (some (.int))), (⟨"TwoWayGrammar$Parsing", "blame", "()V"⟩, prog_5_method_4_code, none), (⟨"TwoWayGrammar$Printing", "begin", "()V"⟩, prog_6_method_2_code, none), (⟨"TwoWayGrammar$Walk", "walkUse", "(II)V"⟩, prog_12_method_16_code, none), (⟨"TwoWayGrammar$Walk", "passLimit", "()V"⟩, prog_12_method_15_code, none), (⟨"TwoWayGrammar$Printing", "enter", "(II)I"⟩, prog_6_method_3_code, (some (.int))), (⟨"TwoWayGrammar$Walk", "enter", "(II)I"⟩, prog_12_method_9_code, (some (.int))), (⟨"TwoWayGrammar$Tree", "add", "(II)I"⟩, prog_11_method_3_code, (some (.int))), (⟨"TwoWayGrammar$Growing", "useBegins", "()V"⟩, prog_4_method_5_code, none), (⟨"TwoWayGrammar$Walk", "useBegins", "()V"⟩, prog_12_method_8_code, none)]
def sb_all3 : List sm_M := [(11, 0, sb_120), (2, 1, sb_121), (6, 1, sb_122), (2, 1, sb_123), (4, 1, sb_124), (3, 4, sb_125), (2, 1, sb_126), (5, 1, sb_127), (3, 1, sb_128), (5, 1, sb_129), (2, 1, sb_130), (7, 0, sb_131), (4, 0, sb_132), (3, 0, sb_133), (4, 1, sb_134), (4, 0, sb_135), (3, 0, sb_136), (1, 1, sb_137), (3, 0, sb_138), (3, 0, sb_139), (2, 0, sb_140), (4, 0, sb_141), (2, 1, sb_142), (2, 1, sb_143), (5, 4, sb_144), (4, 4, sb_145), (2, 0, sb_146), (2, 0, sb_147), (2, 0, sb_148), (3, 1, sb_149), (2, 1, sb_150), (3, 0, sb_151), (3, 0, sb_152), (3, 0, sb_153), (5, 0, sb_154), (4, 0, sb_155), (1, 0, sb_156), (1, 0, sb_157), (4, 1, sb_158), (4, 0, sb_159)]
def sy_all3 : List sm_Y := [(⟨"TwoWayGrammar$Walk", "walkForm", "(II)V"⟩, prog_12_method_17_code, none), (⟨"TwoWayGrammar$Growing", "chosen", "(I)I"⟩, prog_4_method_6_code, (some (.int))), (⟨"TwoWayGrammar$Growing", "lowest", "(I)I"⟩, prog_4_method_8_code, (some (.int))), (⟨"TwoWayGrammar$Growing", "draw", "(I)I"⟩, prog_4_method_4_code, (some (.int))), (⟨"TwoWayGrammar$Parsing", "chosen", "(I)I"⟩, prog_5_method_10_code, (some (.int))), (⟨"TwoWayGrammar$Parsing", "isNextIn", "(J)Z"⟩, prog_5_method_9_code, (some (.boolean))), (⟨"TwoWayGrammar$Printing", "chosen", "(I)I"⟩, prog_6_method_8_code, (some (.int))), (⟨"TwoWayGrammar$Grammar", "alternativeOf", "(II)I"⟩, prog_3_method_12_code, (some (.int))), (⟨"TwoWayGrammar$Printing", "pairBegins", "(I)I"⟩, prog_6_method_5_code, (some (.int))), (⟨"TwoWayGrammar$Tree", "behind", "(II)I"⟩, prog_11_method_6_code, (some (.int))), (⟨"TwoWayGrammar$Walk", "pairBegins", "(I)I"⟩, prog_12_method_11_code, (some (.int))), (⟨"TwoWayGrammar$Walk", "walkUnit", "(II)V"⟩, prog_12_method_18_code, none), (⟨"TwoWayGrammar$Walk", "walkPart", "(II)V"⟩, prog_12_method_19_code, none), (⟨"TwoWayGrammar$Growing", "leaf", "(I)V"⟩, prog_4_method_9_code, none), (⟨"TwoWayGrammar$Growing", "drawName", "()I"⟩, prog_4_method_10_code, (some (.int))), (⟨"TwoWayGrammar$Parsing", "leaf", "(I)V"⟩, prog_5_method_12_code, none), (⟨"TwoWayGrammar$Printing", "leaf", "(I)V"⟩, prog_6_method_9_code, none), (⟨"TwoWayGrammar$Printing", "nextValue", "()I"⟩, prog_6_method_10_code, (some (.int))), (⟨"TwoWayGrammar$Printing", "writeNumber", "(I)V"⟩, prog_6_method_12_code, none), (⟨"TwoWayGrammar$Printing", "separate", "(Z)V"⟩, prog_6_method_11_code, none), (⟨"TwoWayGrammar$Printing", "write", "(C)V"⟩, prog_6_method_14_code, none), (⟨"TwoWayGrammar$Printing", "writeCode", "(I)V"⟩, prog_6_method_13_code, none), (⟨"TwoWayGrammar$Growing", "timesAhead", "(I)I"⟩, prog_4_method_7_code, (some (.int))), (⟨"TwoWayGrammar$Walk", "timesAhead", "(I)I"⟩, prog_12_method_6_code, (some (.int))), (⟨"TwoWayGrammar$Parsing", "goesOn", "(III)Z"⟩, prog_5_method_11_code, (some (.boolean))), (⟨"TwoWayGrammar$Walk", "goesOn", "(III)Z"⟩, prog_12_method_7_code, (some (.boolean))), (⟨"TwoWayGrammar$Printing", "leave", "(I)V"⟩, prog_6_method_4_code, none), (⟨"TwoWayGrammar$Walk", "leave", "(I)V"⟩, prog_12_method_10_code, none), (⟨"TwoWayGrammar$Tree", "finish", "(I)V"⟩, prog_11_method_4_code, none), (⟨"TwoWayGrammar$Printing", "pairTurns", "(I)I"⟩, prog_6_method_6_code, (some (.int))), (⟨"TwoWayGrammar$Walk", "pairTurns", "(I)I"⟩, prog_12_method_12_code, (some (.int))), (⟨"TwoWayGrammar$Printing", "pairEnds", "(II)V"⟩, prog_6_method_7_code, none), (⟨"TwoWayGrammar$Walk", "pairEnds", "(II)V"⟩, prog_12_method_13_code, none), (⟨"TwoWayGrammar$Tree", "exchange", "(II)V"⟩, prog_11_method_7_code, none), (⟨"TwoWayGrammar$Tree", "turnRound", "(II)V"⟩, prog_11_method_8_code, none), (⟨"TwoWayGrammar$Tree", "exchangeIn", "([III)V"⟩, prog_11_method_9_code, none), (⟨"TwoWayGrammar$Parsing", "end", "()V"⟩, prog_5_method_3_code, none), (⟨"TwoWayGrammar$Walk", "end", "()V"⟩, prog_12_method_3_code, none), (⟨"TwoWayGrammar", "grow", "(JI)I"⟩, prog_1_method_8_code, (some (.int))), (⟨"TwoWayGrammar$Growing", "fill", "(JI)V"⟩, prog_4_method_2_code, none)]
def sb_all4 : List sm_M := [(3, 2, sb_160), (3, 1, sb_161), (6, 4, sb_162), (7, 4, sb_163), (1, 1, sb_164), (2, 5, sb_165), (1, 1, sb_166), (4, 1, sb_167), (2, 1, sb_168), (1, 0, sb_169), (1, 1, sb_170), (3, 4, sb_171), (3, 1, sb_172), (2, 1, sb_173), (5, 0, sb_174), (2, 1, sb_175), (3, 0, sb_176), (4, 0, sb_177), (1, 4, sb_178), (2, 1, sb_179), (1, 4, sb_180), (4, 1, sb_181), (1, 4, sb_182), (3, 0, sb_183), (3, 0, sb_184), (1, 1, sb_185), (9, 0, sb_186), (4, 0, sb_187), (1, 4, sb_188), (2, 1, sb_189), (2, 0, sb_190), (2, 1, sb_191), (2, 0, sb_192), (2, 0, sb_193), (4, 0, sb_194), (4, 0, sb_195), (11, 0, sb_196), (4, 1, sb_197), (2, 4, sb_198), (8, 0, sb_199)]
def sy_all4 : List sm_Y := [(⟨"TwoWayGrammar", "node", "(II)J"⟩, prog_1_method_9_code, (some (.long))), (⟨"TwoWayGrammar$Tree", "parent", "(I)I"⟩, prog_11_method_5_code, (some (.int))), (⟨"TwoWayGrammar", "set", "(IJ)Z"⟩, prog_1_method_10_code, (some (.boolean))), (⟨"TwoWayGrammar", "isName", "(J)Z"⟩, prog_1_method_26_code, (some (.boolean))), (⟨"TwoWayGrammar", "print", "()I"⟩, prog_1_method_11_code, (some (.int))), (⟨"TwoWayGrammar", "output", "(I)C"⟩, prog_1_method_12_code, (some (.char))), (⟨"TwoWayGrammar", "compare", "()I"⟩, prog_1_method_15_code, (some (.int))), (⟨"TwoWayGrammar$Tree", "against", "(LTwoWayGrammar$Tree;)I"⟩, prog_11_method_11_code, (some (.int))), (⟨"java/lang/Integer", "compare", "(II)I"⟩, prog_20_method_40_code, (some (.int))), (⟨"TwoWayGrammarModel", "<init>", "()V"⟩, prog_14_method_1_code, none), (⟨"TwoWayGrammarModel", "thrown", "()I"⟩, prog_14_method_2_code, (some (.int))), (⟨"TwoWayGrammarModel", "type", "(IC)Z"⟩, prog_14_method_3_code, (some (.boolean))), (⟨"TwoWayGrammarModel", "clear", "(I)I"⟩, prog_14_method_4_code, (some (.int))), (⟨"TwoWayGrammarModel", "sample", "(I)I"⟩, prog_14_method_6_code, (some (.int))), (⟨"TwoWayGrammarModel", "say", "(J)V"⟩, prog_14_method_5_code, none), (⟨"TwoWayGrammarModel", "compile", "()I"⟩, prog_14_method_35_code, (some (.int))), (⟨"TwoWayGrammarModel", "read", "()V"⟩, prog_14_method_23_code, none), (⟨"TwoWayGrammarModel", "scan", "()V"⟩, prog_14_method_11_code, none), (⟨"TwoWayGrammarModel", "isBlank", "(I)Z"⟩, prog_14_method_9_code, (some (.boolean))), (⟨"TwoWayGrammarModel", "charAt", "(I)I"⟩, prog_14_method_10_code, (some (.int))), (⟨"TwoWayGrammarModel", "isLow", "(I)Z"⟩, prog_14_method_7_code, (some (.boolean))), (⟨"TwoWayGrammarModel", "letters", "(I)I"⟩, prog_14_method_12_code, (some (.int))), (⟨"TwoWayGrammarModel", "isDigit", "(I)Z"⟩, prog_14_method_8_code, (some (.boolean))), (⟨"TwoWayGrammarModel", "readRule", "()V"⟩, prog_14_method_24_code, none), (⟨"TwoWayGrammarModel", "blame", "(II)V"⟩, prog_14_method_13_code, none), (⟨"TwoWayGrammarModel", "newForm", "()I"⟩, prog_14_method_15_code, (some (.int))), (⟨"TwoWayGrammarModel", "form", "()V"⟩, prog_14_method_21_code, none), (⟨"TwoWayGrammarModel", "begin", "(I)V"⟩, prog_14_method_16_code, none), (⟨"TwoWayGrammarModel", "isPart", "()Z"⟩, prog_14_method_19_code, (some (.boolean))), (⟨"TwoWayGrammarModel", "sortOf", "(J)I"⟩, prog_14_method_14_code, (some (.int))), (⟨"TwoWayGrammarModel", "part", "()V"⟩, prog_14_method_20_code, none), (⟨"TwoWayGrammarModel", "literal", "()I"⟩, prog_14_method_18_code, (some (.int))), (⟨"TwoWayGrammarModel", "put", "(I)V"⟩, prog_14_method_17_code, none), (⟨"TwoWayGrammarModel", "plus", "()V"⟩, prog_14_method_22_code, none), (⟨"TwoWayGrammarModel", "study", "()V"⟩, prog_14_method_31_code, none), (⟨"TwoWayGrammarModel", "weigh", "(I)V"⟩, prog_14_method_27_code, none), (⟨"TwoWayGrammarModel", "alternative", "(I)V"⟩, prog_14_method_28_code, none), (⟨"TwoWayGrammarModel", "line", "(I)I"⟩, prog_14_method_26_code, (some (.int))), (⟨"TwoWayGrammarModel", "isVoid", "(I)Z"⟩, prog_14_method_25_code, (some (.boolean))), (⟨"TwoWayGrammarModel", "formOf", "(I)V"⟩, prog_14_method_29_code, none)]
def sb_all5 : List sm_M := [(11, 0, sb_200), (8, 1, sb_201), (5, 1, sb_202), (3, 2, sb_203), (4, 2, sb_204), (2, 1, sb_205), (5, 0, sb_206), (2, 0, sb_207), (4, 1, sb_208), (4, 0, sb_209), (5, 0, sb_210), (2, 1, sb_211), (3, 4, sb_212), (2, 0, sb_213), (3, 0, sb_214), (6, 0, sb_215), (4, 1, sb_216), (7, 0, sb_217), (5, 0, sb_218), (3, 0, sb_219), (2, 0, sb_220), (1, 4, sb_221), (2, 0, sb_222), (6, 0, sb_223), (4, 1, sb_224), (6, 1, sb_225), (5, 0, sb_226), (4, 0, sb_227), (1, 1, sb_228), (8, 0, sb_229), (3, 1, sb_230), (2, 1, sb_231), (4, 1, sb_232), (4, 2, sb_233), (2, 1, sb_234), (6, 4, sb_235), (5, 4, sb_236), (2, 5, sb_237), (2, 1, sb_238), (2, 4, sb_239)]
def sy_all5 : List sm_Y := [(⟨"TwoWayGrammarModel", "behind", "(IJ)V"⟩, prog_14_method_30_code, none), (⟨"TwoWayGrammarModel", "check", "()I"⟩, prog_14_method_34_code, (some (.int))), (⟨"TwoWayGrammarModel", "least", "(III)I"⟩, prog_14_method_33_code, (some (.int))), (⟨"TwoWayGrammarModel", "directors", "(II)J"⟩, prog_14_method_32_code, (some (.long))), (⟨"TwoWayGrammarModel", "rule", "(II)J"⟩, prog_14_method_36_code, (some (.long))), (⟨"TwoWayGrammarModel", "print", "()I"⟩, prog_14_method_61_code, (some (.int))), (⟨"TwoWayGrammarModel", "walk", "(I)V"⟩, prog_14_method_41_code, none), (⟨"TwoWayGrammarModel", "enter", "(I)V"⟩, prog_14_method_45_code, none), (⟨"TwoWayGrammarModel", "comes", "(IJ)I"⟩, prog_14_method_42_code, (some (.int))), (⟨"TwoWayGrammarModel", "push", "(III)V"⟩, prog_14_method_40_code, none), (⟨"TwoWayGrammarModel", "unit", "(IZ)V"⟩, prog_14_method_50_code, none), (⟨"TwoWayGrammarModel", "draw", "(I)I"⟩, prog_14_method_44_code, (some (.int))), (⟨"TwoWayGrammarModel", "has", "(J)Z"⟩, prog_14_method_43_code, (some (.boolean))), (⟨"TwoWayGrammarModel", "single", "(I)V"⟩, prog_14_method_52_code, none), (⟨"TwoWayGrammarModel", "match", "(I)V"⟩, prog_14_method_53_code, none), (⟨"TwoWayGrammarModel", "grown", "(I)V"⟩, prog_14_method_54_code, none), (⟨"TwoWayGrammarModel", "keywordOf", "(J)I"⟩, prog_14_method_38_code, (some (.int))), (⟨"TwoWayGrammarModel", "shown", "(I)V"⟩, prog_14_method_60_code, none), (⟨"TwoWayGrammarModel", "letters2", "(J)V"⟩, prog_14_method_59_code, none), (⟨"TwoWayGrammarModel", "between", "(I)V"⟩, prog_14_method_58_code, none), (⟨"TwoWayGrammarModel", "write", "(I)V"⟩, prog_14_method_56_code, none), (⟨"TwoWayGrammarModel", "isWordy", "(I)Z"⟩, prog_14_method_57_code, (some (.boolean))), (⟨"TwoWayGrammarModel", "layout", "(I)V"⟩, prog_14_method_55_code, none), (⟨"TwoWayGrammarModel", "choose", "(I)V"⟩, prog_14_method_46_code, none), (⟨"TwoWayGrammarModel", "directed", "(I)I"⟩, prog_14_method_47_code, (some (.int))), (⟨"TwoWayGrammarModel", "lowest", "(I)I"⟩, prog_14_method_48_code, (some (.int))), (⟨"TwoWayGrammarModel", "swap", "()V"⟩, prog_14_method_49_code, none), (⟨"TwoWayGrammarModel", "again", "(II)V"⟩, prog_14_method_51_code, none), (⟨"TwoWayGrammarModel", "parse", "()I"⟩, prog_14_method_63_code, (some (.int))), (⟨"TwoWayGrammarModel", "tokenize", "()V"⟩, prog_14_method_37_code, none), (⟨"TwoWayGrammarModel", "signOf", "(I)I"⟩, prog_14_method_39_code, (some (.int))), (⟨"TwoWayGrammarModel", "take", "()I"⟩, prog_14_method_62_code, (some (.int))), (⟨"TwoWayGrammarModel", "grow", "(JI)I"⟩, prog_14_method_64_code, (some (.int))), (⟨"TwoWayGrammarModel", "node", "(II)J"⟩, prog_14_method_66_code, (some (.long))), (⟨"TwoWayGrammarModel", "levelOf", "(I)I"⟩, prog_14_method_65_code, (some (.int))), (⟨"TwoWayGrammarModel", "set", "(IJ)Z"⟩, prog_14_method_67_code, (some (.boolean))), (⟨"TwoWayGrammarModel", "isName", "(J)Z"⟩, prog_14_method_68_code, (some (.boolean))), (⟨"TwoWayGrammarModel", "output", "(I)C"⟩, prog_14_method_69_code, (some (.char))), (⟨"TwoWayGrammarModel", "carry", "()I"⟩, prog_14_method_70_code, (some (.int))), (⟨"TwoWayGrammarModel", "keep", "()Z"⟩, prog_14_method_71_code, (some (.boolean)))]
def sb_all6 : List sm_M := [(5, 1, sb_240), (2, 1, sb_241)]
def sy_all6 : List sm_Y := [(⟨"TwoWayGrammarModel", "compare", "()I"⟩, prog_14_method_72_code, (some (.int))), (⟨"TwoWayGrammarModel", "count", "(I)I"⟩, prog_14_method_73_code, (some (.int)))]
def sb_all : List sm_M := sb_all0 ++ sb_all1 ++ sb_all2 ++ sb_all3 ++ sb_all4 ++ sb_all5 ++ sb_all6
def sy_all : List sm_Y := sy_all0 ++ sy_all1 ++ sy_all2 ++ sy_all3 ++ sy_all4 ++ sy_all5 ++ sy_all6
def sc_P (m : Nat) : Option sm_M := sb_all[m]?
def sc_Y (m : Nat) : sm_Y := sy_all.getD m (⟨"", "", ""⟩, ⟨#[]⟩, none)
end
section
/-! CHECKING a method's table by computation -/
def sm_poolI (i : Instr) : Bool := match i with
  | .getfield _ | .putfield _ | .getstatic _ | .new _ | .newarray _ | .ldc _ | .ldc_w _ | .ldc2_w _ | .invokestatic _ | .invokespecial _ | .invokevirtual _ => true
  | _ => false
def sm_jumpOk (pc : Nat) (i : Instr) : Bool := match i with
  | .if_icmp _ off => decide (0 ≤ (pc : Int) + off)
  | .ifCond _ off => decide (0 ≤ (pc : Int) + off)
  | .goto off => decide (0 ≤ (pc : Int) + off)
  | .tableswitch d _ _ offs => decide (0 ≤ (pc : Int) + d) && offs.toList.all (fun o => decide (0 ≤ (pc : Int) + o))
  | _ => true
/-- an instruction with an operand in the pool, as two numbers -/
def sm_key (i : Instr) : Nat × Nat := match i with
  | .getfield n => (1, n)
  | .putfield n => (2, n)
  | .getstatic n => (3, n)
  | .new n => (4, n)
  | .newarray .boolean => (5, 4)
  | .newarray .char => (5, 5)
  | .newarray .int => (5, 10)
  | .newarray .long => (5, 11)
  | .ldc n => (6, n)
  | .ldc_w n => (7, n)
  | .ldc2_w n => (8, n)
  | .invokestatic n => (9, n)
  | .invokespecial n => (10, n)
  | .invokevirtual n => (11, n)
  | _ => (0, 0)
theorem sm_k1 {i : Instr} {n : Nat} (h : sm_key i = (1, n)) : i = .getfield n := by unfold sm_key at h; split at h <;> simp_all
theorem sm_k2 {i : Instr} {n : Nat} (h : sm_key i = (2, n)) : i = .putfield n := by unfold sm_key at h; split at h <;> simp_all
theorem sm_k3 {i : Instr} {n : Nat} (h : sm_key i = (3, n)) : i = .getstatic n := by unfold sm_key at h; split at h <;> simp_all
theorem sm_k4 {i : Instr} {n : Nat} (h : sm_key i = (4, n)) : i = .new n := by unfold sm_key at h; split at h <;> simp_all
theorem sm_k5b {i : Instr} (h : sm_key i = (5, 4)) : i = .newarray .boolean := by unfold sm_key at h; split at h <;> simp_all
theorem sm_k5c {i : Instr} (h : sm_key i = (5, 5)) : i = .newarray .char := by unfold sm_key at h; split at h <;> simp_all
theorem sm_k5i {i : Instr} (h : sm_key i = (5, 10)) : i = .newarray .int := by unfold sm_key at h; split at h <;> simp_all
theorem sm_k5l {i : Instr} (h : sm_key i = (5, 11)) : i = .newarray .long := by unfold sm_key at h; split at h <;> simp_all
theorem sm_k6 {i : Instr} {n : Nat} (h : sm_key i = (6, n)) : i = .ldc n := by unfold sm_key at h; split at h <;> simp_all
theorem sm_k7 {i : Instr} {n : Nat} (h : sm_key i = (7, n)) : i = .ldc_w n := by unfold sm_key at h; split at h <;> simp_all
theorem sm_k8 {i : Instr} {n : Nat} (h : sm_key i = (8, n)) : i = .ldc2_w n := by unfold sm_key at h; split at h <;> simp_all
theorem sm_k9 {i : Instr} {n : Nat} (h : sm_key i = (9, n)) : i = .invokestatic n := by unfold sm_key at h; split at h <;> simp_all
theorem sm_k10 {i : Instr} {n : Nat} (h : sm_key i = (10, n)) : i = .invokespecial n := by unfold sm_key at h; split at h <;> simp_all
theorem sm_k11 {i : Instr} {n : Nat} (h : sm_key i = (11, n)) : i = .invokevirtual n := by unfold sm_key at h; split at h <;> simp_all
def sm_ck (pool : List ((Nat × Nat) × List Nat)) (bytes : ByteArray) : Nat → List (Option sm_I) → Bool
  | _, [] => true
  | pc, none :: r => sm_ck pool bytes (pc + 1) r
  | pc, some q :: r => decide (decode bytes pc = .ok (q.1, q.2.1)) && sm_lenOk q.1 q.2.1 && sm_jumpOk pc q.1 && (!sm_poolI q.1 || decide ((sm_key q.1, q.2.2) ∈ pool)) && sm_ck pool bytes (pc + 1) r
theorem sm_ck_ok {pool : List ((Nat × Nat) × List Nat)} {bytes : ByteArray} : ∀ (tab : List (Option sm_I)) (pc0 : Nat), sm_ck pool bytes pc0 tab = true → ∀ (pc : Nat) (q : sm_I), tab[pc]? = some (some q) → decode bytes (pc0 + pc) = .ok (q.1, q.2.1) ∧ sm_lenOk q.1 q.2.1 = true ∧ sm_jumpOk (pc0 + pc) q.1 = true ∧ (sm_poolI q.1 = true → (sm_key q.1, q.2.2) ∈ pool) := by
  intro tab
  induction tab with
  | nil => intro pc0 _ pc q hq; simp at hq
  | cons o tab ih =>
    intro pc0 h pc q hq
    cases pc with
    | zero =>
      simp at hq
      subst hq
      simp only [sm_ck, Bool.and_eq_true, Bool.or_eq_true, Bool.not_eq_true', decide_eq_true_eq] at h
      obtain ⟨⟨⟨⟨h1, h2⟩, h3⟩, h4⟩, -⟩ := h
      refine ⟨h1, h2, h3, fun hp => ?_⟩
      rcases h4 with h4 | h4
      · rw [hp] at h4; cases h4
      · exact h4
    | succ pc =>
      have h2 : sm_ck pool bytes (pc0 + 1) tab = true := by
        cases o with
        | none => exact h
        | some q0 =>
          simp only [sm_ck, Bool.and_eq_true] at h
          exact h.2
      have := ih (pc0 + 1) h2 pc q (by simpa using hq)
      rw [show pc0 + 1 + pc = pc0 + (pc + 1) by omega] at this
      exact this
theorem sm_okI_of {Ts : List Cond} {sx : List (String × Nat × String × Nat)} {zx : List (String × String × String × Nat)} {oc : (List (Nat × Nat × String × String × String × Value) × List (String × Nat × MethodName × String))} {K : sm_H} {cl : List vw_C} {Y : Nat → sm_Y} {own mn : String} {pc : Nat} {i : Instr} {rs : List Nat} (hj : sm_jumpOk pc i = true) (hp : sm_poolI i = false) : sm_okI Ts sx zx oc K cl own mn pc i rs ∧ sm_okC Ts oc cl Y own i rs := by
  cases i with
  | if_icmp c off =>
    have h0 : 0 ≤ (pc : Int) + off := by simpa [sm_jumpOk] using hj
    exact ⟨h0, trivial⟩
  | ifCond c off =>
    have h0 : 0 ≤ (pc : Int) + off := by simpa [sm_jumpOk] using hj
    exact ⟨h0, trivial⟩
  | goto off =>
    have h0 : 0 ≤ (pc : Int) + off := by simpa [sm_jumpOk] using hj
    exact ⟨h0, trivial⟩
  | tableswitch d lo hi offs =>
    simp only [sm_jumpOk, Bool.and_eq_true, decide_eq_true_eq, List.all_eq_true] at hj
    exact ⟨hj, trivial⟩
  | getfield _ | putfield _ | getstatic _ | new _ | newarray _ | ldc _ | ldc_w _ | ldc2_w _ | invokestatic _ | invokespecial _ | invokevirtual _ => simp [sm_poolI] at hp
  | _ => exact ⟨trivial, trivial⟩
/-- the pool entries of a class are right -/
def sm_poolOk (Ts : List Cond) (sx : List (String × Nat × String × Nat)) (zx : List (String × String × String × Nat)) (oc : (List (Nat × Nat × String × String × String × Value) × List (String × Nat × MethodName × String))) (K : sm_H) (cl : List vw_C) (Y : Nat → sm_Y) (own mn : String) (pool : List ((Nat × Nat) × List Nat)) : Prop := ∀ e ∈ pool, ∀ (pc : Nat) (i : Instr), sm_key i = e.1 → sm_okI Ts sx zx oc K cl own mn pc i e.2 ∧ sm_okC Ts oc cl Y own i e.2
theorem sm_okM_of {Ts : List Cond} {sx : List (String × Nat × String × Nat)} {zx : List (String × String × String × Nat)} {oc : (List (Nat × Nat × String × String × String × Value) × List (String × Nat × MethodName × String))} {K : sm_H} {cl : List vw_C} {Y : Nat → sm_Y} {mi : Nat} {M : sm_M} {pool : List ((Nat × Nat) × List Nat)} (y : sm_Y) (hy : Y mi = y)
    (h1 : Cond.code y.1 y.2.1 M.1 y.2.2 ∈ Ts) (h2 : plainName y.1.cls = true) (h3 : sm_nmh y.1.cls) (h4 : M.1 ≤ 45) (h5 : sm_rk M.2.1 y.2.2) (h6 : sm_ck pool y.2.1 0 M.2.2 = true) (h7 : sm_poolOk Ts sx zx oc K cl Y y.1.cls y.1.name pool) : sm_okM Ts sx zx oc K cl Y mi M := by
  subst hy
  refine ⟨h1, h2, h3, h4, h5, fun pc q hq => ?_⟩
  obtain ⟨g1, g2, g3, g4⟩ := sm_ck_ok _ _ h6 pc q hq
  rw [Nat.zero_add] at g1 g3
  cases hp : sm_poolI q.1 with
  | true => obtain ⟨k1, k2⟩ := h7 _ (g4 hp) pc q.1 rfl; exact ⟨g1, g2, k1, k2⟩
  | false => obtain ⟨k1, k2⟩ := sm_okI_of (Ts := Ts) (sx := sx) (zx := zx) (oc := oc) (K := K) (cl := cl) (Y := Y) (own := (Y mi).1.cls) (mn := (Y mi).1.name) (rs := q.2.2) g3 hp; exact ⟨g1, g2, k1, k2⟩
end
section
/-! what is there before: text constants, a static, their fields -/
def sc_sx : List (String × Nat × String × Nat) := [("TwoWayGrammar$Tokens", 65, "number", 1), ("TwoWayGrammar$Tokens", 71, "name", 2), ("TwoWayGrammar$Tokens", 73, "empty", 3), ("TwoWayGrammar$Tokens", 75, "blank", 4), ("TwoWayGrammar$Tokens", 77, "line", 5), ("TwoWayGrammar$Tokens", 79, "deeper", 6), ("TwoWayGrammar$Tokens", 81, "back", 7), ("TwoWayGrammar$Tokens", 100, "=;|*?)~+", 8), ("TwoWayGrammar", 106, "no such text", 9), ("TwoWayGrammar", 128, "no such sample", 10), ("TwoWayGrammar", 131, "E = T ( ( '+ | '- ) T )* ;\nT = F ( ( '* | '/ ) F )* ;\nF = number | name | '( E ') ;\n", 11), ("TwoWayGrammar", 133, "P = '{ deeper ( line S )* back line '} ;\nS = \"let\" name blank '= blank V '; | \"do\" P | \"put\" V '; ;\nV = name | number + 1 | '- V ;\n", 12), ("TwoWayGrammar", 135, "D = '[ ( R ( ', blank R )* )? '] ;\nR = name ': ( number ~ U ) ;\nU = '# name? | '$ | empty ;\n", 13), ("TwoWayGrammar", 159, "no description that can be read", 14), ("TwoWayGrammar", 166, "no such rule", 15), ("TwoWayGrammar", 196, "nothing that a rule has", 16), ("TwoWayGrammar", 198, "no good description", 17), ("TwoWayGrammar", 208, "too many nodes or uses", 18), ("TwoWayGrammar", 221, "no such fuel", 19), ("TwoWayGrammar", 231, "no such node", 20), ("TwoWayGrammar", 246, "nothing that a node has", 21), ("TwoWayGrammar", 261, "no tree", 22), ("TwoWayGrammar", 267, "too many characters", 23), ("TwoWayGrammar", 271, "no such character", 24), ("TwoWayGrammar", 276, "not two trees", 25)]
def sc_nx : List (String × Nat × MethodName × String) := [("TwoWayGrammar", 29, ⟨"TwoWayGrammar$Grammar", "<init>", "()V"⟩, "TwoWayGrammar"), ("TwoWayGrammar", 68, ⟨"TwoWayGrammar$Tree", "<init>", "()V"⟩, "TwoWayGrammar"), ("TwoWayGrammar$Grammar", 73, ⟨"TwoWayGrammar", "put", "([III)V"⟩, "TwoWayGrammar"), ("TwoWayGrammar$Text", 43, ⟨"TwoWayGrammar", "isBlank", "(I)Z"⟩, "TwoWayGrammar"), ("TwoWayGrammar$Tokens", 45, ⟨"TwoWayGrammar", "isSmall", "(I)Z"⟩, "TwoWayGrammar"), ("TwoWayGrammar$Text", 49, ⟨"TwoWayGrammar", "isSmall", "(I)Z"⟩, "TwoWayGrammar"), ("TwoWayGrammar$Tokens", 87, ⟨"TwoWayGrammar", "isBlank", "(I)Z"⟩, "TwoWayGrammar"), ("TwoWayGrammar$Tokens", 90, ⟨"TwoWayGrammar", "isCapital", "(I)Z"⟩, "TwoWayGrammar"), ("TwoWayGrammar$Tokens", 93, ⟨"TwoWayGrammar", "isDigit", "(I)Z"⟩, "TwoWayGrammar"), ("TwoWayGrammar$Tokens", 96, ⟨"TwoWayGrammar", "signCode", "(C)I"⟩, "TwoWayGrammar"), ("TwoWayGrammar$Grammar", 77, ⟨"TwoWayGrammar", "at", "([II)I"⟩, "TwoWayGrammar"), ("TwoWayGrammar$Reader", 91, ⟨"TwoWayGrammar", "put", "([III)V"⟩, "TwoWayGrammar"), ("TwoWayGrammar$Reader", 140, ⟨"TwoWayGrammar", "at", "([II)I"⟩, "TwoWayGrammar"), ("TwoWayGrammar$Sets", 59, ⟨"TwoWayGrammar", "put", "([III)V"⟩, "TwoWayGrammar"), ("TwoWayGrammar$Sets", 63, ⟨"TwoWayGrammar", "put", "([JIJ)V"⟩, "TwoWayGrammar"), ("TwoWayGrammar$Sets", 78, ⟨"TwoWayGrammar", "at", "([II)I"⟩, "TwoWayGrammar"), ("TwoWayGrammar$Sets", 88, ⟨"TwoWayGrammar", "at", "([JI)J"⟩, "TwoWayGrammar"), ("TwoWayGrammar$Checks", 42, ⟨"TwoWayGrammar", "at", "([II)I"⟩, "TwoWayGrammar"), ("TwoWayGrammar$Checks", 75, ⟨"TwoWayGrammar", "at", "([JI)J"⟩, "TwoWayGrammar"), ("TwoWayGrammar$Tree", 29, ⟨"TwoWayGrammar", "at", "([II)I"⟩, "TwoWayGrammar"), ("TwoWayGrammar$Tree", 25, ⟨"TwoWayGrammar", "put", "([III)V"⟩, "TwoWayGrammar"), ("TwoWayGrammar$Parsing", 62, ⟨"TwoWayGrammar", "isDigit", "(I)Z"⟩, "TwoWayGrammar"), ("TwoWayGrammar$Text", 52, ⟨"TwoWayGrammar", "isDigit", "(I)Z"⟩, "TwoWayGrammar"), ("TwoWayGrammar$Parsing", 69, ⟨"TwoWayGrammar", "isSmall", "(I)Z"⟩, "TwoWayGrammar"), ("TwoWayGrammar$Parsing", 75, ⟨"TwoWayGrammar", "signCode", "(C)I"⟩, "TwoWayGrammar"), ("TwoWayGrammar$Walk", 29, ⟨"TwoWayGrammar", "at", "([II)I"⟩, "TwoWayGrammar"), ("TwoWayGrammar$Growing", 47, ⟨"TwoWayGrammar", "at", "([II)I"⟩, "TwoWayGrammar"), ("TwoWayGrammar$Parsing", 108, ⟨"TwoWayGrammar", "at", "([II)I"⟩, "TwoWayGrammar"), ("TwoWayGrammar$Parsing", 124, ⟨"TwoWayGrammar", "at", "([JI)J"⟩, "TwoWayGrammar"), ("TwoWayGrammar$Printing", 55, ⟨"TwoWayGrammar", "at", "([II)I"⟩, "TwoWayGrammar"), ("TwoWayGrammar$Parsing", 140, ⟨"TwoWayGrammar", "put", "([III)V"⟩, "TwoWayGrammar")]
theorem sc_nx_mem {w : String × Nat × MethodName × String} (i : Nat) (h : sc_nx[i]?.any (fun v => decide (v = w)) = true) : w ∈ sc_nx := by
  rw [Option.any_eq_true_iff_get] at h
  obtain ⟨h3, h4⟩ := h
  have h5 : sc_nx[i]? = some w := by
    rw [← Option.some_get h3]
    exact congrArg some (of_decide_eq_true h4)
  exact List.mem_of_getElem? h5
theorem sc_sx_mem {w : String × Nat × String × Nat} (i : Nat) (h : sc_sx[i]?.any (fun v => decide (v = w)) = true) : w ∈ sc_sx := by
  rw [Option.any_eq_true_iff_get] at h
  obtain ⟨h3, h4⟩ := h
  have h5 : sc_sx[i]? = some w := by
    rw [← Option.some_get h3]
    exact congrArg some (of_decide_eq_true h4)
  exact List.mem_of_getElem? h5
def sc_zx : List (String × String × String × Nat) := [("java/lang/String", "COMPACT_STRINGS", "Z", 1)]
def sc_of : List (Nat × Nat × String × String × String × Value) := (List.range 25).flatMap (fun i => [(i + 1, 0, "java/lang/String", "value", "[B", Value.ref (26 + i)), (i + 1, 1, "java/lang/String", "coder", "B", Value.int 0)])
def sc_oc : List (Nat × Nat × String × String × String × Value) × List (String × Nat × MethodName × String) := (sc_of, sc_nx)
/-- among the cells that were there the texts lie at 1 .. 25, their bytes behind them -/
def sc_KOk (K : sm_H) : Prop := ∀ a fs, K[a]? = some (.inr (17, fs)) → ∃ i, i < 25 ∧ a = i + 1 ∧ fs = [.ref (26 + i), .int 0]
theorem sc_str0 {K : sm_H} (h : sc_KOk K) {a : Nat} {fs : List Value} {v : Value} (h1 : K[a]? = some (.inr (17, fs))) (h2 : fs[0]? = some v) : (a, 0, "java/lang/String", "value", "[B", v) ∈ sc_of := by
  obtain ⟨i, hi, rfl, rfl⟩ := h a fs h1
  cases h2
  exact List.mem_flatMap.mpr ⟨i, List.mem_range.mpr hi, List.mem_cons_self⟩
theorem sc_str1 {K : sm_H} (h : sc_KOk K) {a : Nat} {fs : List Value} {v : Value} (h1 : K[a]? = some (.inr (17, fs))) (h2 : fs[1]? = some v) : (a, 1, "java/lang/String", "coder", "B", v) ∈ sc_of := by
  obtain ⟨i, hi, rfl, rfl⟩ := h a fs h1
  cases h2
  exact List.mem_flatMap.mpr ⟨i, List.mem_range.mpr hi, List.mem_cons_of_mem _ List.mem_cons_self⟩
end
section
def sp_0_0 : List ((Nat × Nat) × List Nat) := [((10, 3), [2]), ((4, 9), [1, 2, 0]), ((10, 11), [0, 1, 2]), ((2, 14), [0, 2, 1, 0]), ((2, 18), [1, 2, 1, 0]), ((2, 21), [2, 2, 1, 0]), ((2, 24), [3, 2, 1, 0]), ((4, 27), [2, 0, 2, 2, 2, 2, 0, 0, 2, 2, 2, 0, 2, 2, 2, 2, 2, 2, 2, 0, 2]), ((10, 29), [0, 2, 1]), ((2, 30), [4, 2, 1, 0]), ((4, 34), [3, 2, 2, 0, 0]), ((4, 36), [4, 2, 0, 0, 0, 0]), ((1, 14), [0, 0, 0]), ((10, 38), [0, 3, 2]), ((1, 30), [4, 0, 0]), ((10, 41), [0, 4, 3]), ((2, 44), [5, 2, 1, 0]), ((4, 48), [5, 2, 2, 2, 2, 2, 2, 2, 2, 2, 2, 2, 2, 2, 2, 2, 3]), ((10, 50), [0, 5, 2]), ((2, 53), [6, 2, 1, 0])]
set_option maxRecDepth 20000 in
theorem sp_ok_0_0 {K : sm_H} (hK : sc_KOk K) : sm_poolOk sc_Ts sc_sx sc_zx sc_oc K sc_cl sc_Y "TwoWayGrammar" "<init>" sp_0_0 :=
  List.forall_mem_cons.mpr ⟨fun pc i hi => by rw [sm_k10 hi]; exact ⟨⟨sm_mem 132 (by decide +kernel), sm_mem 133 (by decide +kernel), sm_mem 134 (by decide +kernel)⟩, trivial⟩,
  List.forall_mem_cons.mpr ⟨fun pc i hi => by rw [sm_k4 hi]; exact ⟨⟨"TwoWayGrammar$Text", sc_T1, 2, sc_ty1, rfl, sc_in1, sc_tyok1, sm_mem 135 (by decide +kernel), sm_mem 136 (by decide +kernel), sm_mem 100 (by decide +kernel), rfl, by decide +kernel⟩, trivial⟩,
  List.forall_mem_cons.mpr ⟨fun pc i hi => by rw [sm_k10 hi]; exact ⟨trivial, ⟨rfl, rfl, sm_mem 138 (by decide +kernel), sm_mem 100 (by decide +kernel), ⟨1, rfl, by decide +kernel⟩, Or.inl (sm_mem 137 (by decide +kernel))⟩⟩,
  List.forall_mem_cons.mpr ⟨fun pc i hi => by rw [sm_k2 hi]; exact ⟨sm_al1 (⟨"TwoWayGrammar", sc_T0, 16, "TwoWayGrammar", sc_ty0, rfl, by decide, sc_in0, sm_mem 549 (by decide +kernel), Or.inl rfl, sc_tyok0, sc_nm0, Or.inr ⟨rfl, rfl, rfl⟩, Or.inr (Or.inr (Or.inl ⟨rfl, Or.inl ⟨_, rfl⟩⟩))⟩), trivial⟩,
  List.forall_mem_cons.mpr ⟨fun pc i hi => by rw [sm_k2 hi]; exact ⟨sm_al1 (⟨"TwoWayGrammar", sc_T0, 16, "TwoWayGrammar", sc_ty0, rfl, by decide, sc_in0, sm_mem 550 (by decide +kernel), Or.inl rfl, sc_tyok0, sc_nm0, Or.inr ⟨rfl, rfl, rfl⟩, Or.inr (Or.inr (Or.inl ⟨rfl, Or.inl ⟨_, rfl⟩⟩))⟩), trivial⟩,
  List.forall_mem_cons.mpr ⟨fun pc i hi => by rw [sm_k2 hi]; exact ⟨sm_al1 (⟨"TwoWayGrammar", sc_T0, 16, "TwoWayGrammar", sc_ty0, rfl, by decide, sc_in0, sm_mem 551 (by decide +kernel), Or.inl rfl, sc_tyok0, sc_nm0, Or.inr ⟨rfl, rfl, rfl⟩, Or.inr (Or.inr (Or.inl ⟨rfl, Or.inl ⟨_, rfl⟩⟩))⟩), trivial⟩,
  List.forall_mem_cons.mpr ⟨fun pc i hi => by rw [sm_k2 hi]; exact ⟨sm_al1 (⟨"TwoWayGrammar", sc_T0, 16, "TwoWayGrammar", sc_ty0, rfl, by decide, sc_in0, sm_mem 552 (by decide +kernel), Or.inl rfl, sc_tyok0, sc_nm0, Or.inr ⟨rfl, rfl, rfl⟩, Or.inr (Or.inr (Or.inl ⟨rfl, Or.inl ⟨_, rfl⟩⟩))⟩), trivial⟩,
  List.forall_mem_cons.mpr ⟨fun pc i hi => by rw [sm_k4 hi]; exact ⟨⟨"TwoWayGrammar$Grammar", sc_T2, 20, sc_ty2, rfl, sc_in2, sc_tyok2, sm_mem 152 (by decide +kernel), sm_mem 153 (by decide +kernel), sm_mem 102 (by decide +kernel), rfl, by decide +kernel⟩, trivial⟩,
  List.forall_mem_cons.mpr ⟨fun pc i hi => by rw [sm_k10 hi]; exact ⟨trivial, ⟨rfl, rfl, sm_mem 155 (by decide +kernel), sm_mem 102 (by decide +kernel), ⟨0, rfl, by decide +kernel⟩, Or.inr ⟨"TwoWayGrammar", sc_nx_mem 0 (by decide +kernel)⟩⟩⟩,
  List.forall_mem_cons.mpr ⟨fun pc i hi => by rw [sm_k2 hi]; exact ⟨sm_al1 (⟨"TwoWayGrammar", sc_T0, 16, "TwoWayGrammar", sc_ty0, rfl, by decide, sc_in0, sm_mem 553 (by decide +kernel), Or.inl rfl, sc_tyok0, sc_nm0, Or.inr ⟨rfl, rfl, rfl⟩, Or.inr (Or.inr (Or.inl ⟨rfl, Or.inl ⟨_, rfl⟩⟩))⟩), trivial⟩,
  List.forall_mem_cons.mpr ⟨fun pc i hi => by rw [sm_k4 hi]; exact ⟨⟨"TwoWayGrammar$Reader", sc_T3, 4, sc_ty3, rfl, sc_in3, sc_tyok3, sm_mem 267 (by decide +kernel), sm_mem 268 (by decide +kernel), sm_mem 103 (by decide +kernel), rfl, by decide +kernel⟩, trivial⟩,
  List.forall_mem_cons.mpr ⟨fun pc i hi => by rw [sm_k4 hi]; exact ⟨⟨"TwoWayGrammar$Tokens", sc_T4, 5, sc_ty4, rfl, sc_in4, sc_tyok4, sm_mem 269 (by decide +kernel), sm_mem 270 (by decide +kernel), sm_mem 104 (by decide +kernel), rfl, by decide +kernel⟩, trivial⟩,
  List.forall_mem_cons.mpr ⟨fun pc i hi => by rw [sm_k1 hi]; exact ⟨sm_al1 (⟨"TwoWayGrammar", sc_T0, 16, "TwoWayGrammar", rfl, by decide, sc_in0, sm_mem 549 (by decide +kernel), Or.inl rfl⟩), trivial⟩,
  List.forall_mem_cons.mpr ⟨fun pc i hi => by rw [sm_k10 hi]; exact ⟨trivial, ⟨rfl, rfl, sm_mem 272 (by decide +kernel), sm_mem 104 (by decide +kernel), ⟨1, rfl, by decide +kernel⟩, Or.inl (sm_mem 271 (by decide +kernel))⟩⟩,
  List.forall_mem_cons.mpr ⟨fun pc i hi => by rw [sm_k1 hi]; exact ⟨sm_al1 (⟨"TwoWayGrammar", sc_T0, 16, "TwoWayGrammar", rfl, by decide, sc_in0, sm_mem 553 (by decide +kernel), Or.inl rfl⟩), trivial⟩,
  List.forall_mem_cons.mpr ⟨fun pc i hi => by rw [sm_k10 hi]; exact ⟨trivial, ⟨rfl, rfl, sm_mem 295 (by decide +kernel), sm_mem 103 (by decide +kernel), ⟨2, rfl, by decide +kernel⟩, Or.inl (sm_mem 294 (by decide +kernel))⟩⟩,
  List.forall_mem_cons.mpr ⟨fun pc i hi => by rw [sm_k2 hi]; exact ⟨sm_al1 (⟨"TwoWayGrammar", sc_T0, 16, "TwoWayGrammar", sc_ty0, rfl, by decide, sc_in0, sm_mem 554 (by decide +kernel), Or.inl rfl, sc_tyok0, sc_nm0, Or.inr ⟨rfl, rfl, rfl⟩, Or.inr (Or.inr (Or.inl ⟨rfl, Or.inl ⟨_, rfl⟩⟩))⟩), trivial⟩,
  List.forall_mem_cons.mpr ⟨fun pc i hi => by rw [sm_k4 hi]; exact ⟨⟨"TwoWayGrammar$Sets", sc_T5, 16, sc_ty5, rfl, sc_in5, sc_tyok5, sm_mem 311 (by decide +kernel), sm_mem 312 (by decide +kernel), sm_mem 105 (by decide +kernel), rfl, by decide +kernel⟩, trivial⟩,
  List.forall_mem_cons.mpr ⟨fun pc i hi => by rw [sm_k10 hi]; exact ⟨trivial, ⟨rfl, rfl, sm_mem 314 (by decide +kernel), sm_mem 105 (by decide +kernel), ⟨1, rfl, by decide +kernel⟩, Or.inl (sm_mem 313 (by decide +kernel))⟩⟩,
  List.forall_mem_cons.mpr ⟨fun pc i hi => by rw [sm_k2 hi]; exact ⟨sm_al1 (⟨"TwoWayGrammar", sc_T0, 16, "TwoWayGrammar", sc_ty0, rfl, by decide, sc_in0, sm_mem 555 (by decide +kernel), Or.inl rfl, sc_tyok0, sc_nm0, Or.inr ⟨rfl, rfl, rfl⟩, Or.inr (Or.inr (Or.inl ⟨rfl, Or.inl ⟨_, rfl⟩⟩))⟩), trivial⟩,
  fun _ h => absurd h List.not_mem_nil⟩⟩⟩⟩⟩⟩⟩⟩⟩⟩⟩⟩⟩⟩⟩⟩⟩⟩⟩⟩
def sp_0_1 : List ((Nat × Nat) × List Nat) := [((4, 57), [6, 2, 2, 0]), ((1, 53), [6, 0, 0]), ((10, 59), [0, 6, 3]), ((2, 62), [7, 2, 1, 0]), ((4, 66), [7, 0, 2, 2, 2]), ((10, 68), [0, 7, 1]), ((2, 69), [8, 2, 1, 0]), ((2, 73), [9, 2, 1, 0]), ((2, 76), [10, 2, 1, 0]), ((4, 79), [8, 2, 2, 2, 3, 3, 0, 2, 0, 0, 0, 0, 0]), ((1, 76), [10, 0, 0]), ((1, 18), [1, 0, 0]), ((10, 81), [0, 8, 5]), ((2, 84), [11, 2, 1, 0]), ((4, 88), [9, 2, 2, 2, 3, 3, 0, 1, 0]), ((10, 90), [0, 10, 4]), ((2, 93), [12, 2, 1, 0]), ((4, 97), [10, 2, 2, 2, 3, 3, 0, 2, 0, 0, 3, 3, 3, 3]), ((1, 69), [8, 0, 0]), ((1, 24), [3, 0, 0])]
set_option maxRecDepth 20000 in
theorem sp_ok_0_1 {K : sm_H} (hK : sc_KOk K) : sm_poolOk sc_Ts sc_sx sc_zx sc_oc K sc_cl sc_Y "TwoWayGrammar" "<init>" sp_0_1 :=
  List.forall_mem_cons.mpr ⟨fun pc i hi => by rw [sm_k4 hi]; exact ⟨⟨"TwoWayGrammar$Checks", sc_T6, 3, sc_ty6, rfl, sc_in6, sc_tyok6, sm_mem 379 (by decide +kernel), sm_mem 380 (by decide +kernel), sm_mem 106 (by decide +kernel), rfl, by decide +kernel⟩, trivial⟩,
  List.forall_mem_cons.mpr ⟨fun pc i hi => by rw [sm_k1 hi]; exact ⟨sm_al1 (⟨"TwoWayGrammar", sc_T0, 16, "TwoWayGrammar", rfl, by decide, sc_in0, sm_mem 555 (by decide +kernel), Or.inl rfl⟩), trivial⟩,
  List.forall_mem_cons.mpr ⟨fun pc i hi => by rw [sm_k10 hi]; exact ⟨trivial, ⟨rfl, rfl, sm_mem 382 (by decide +kernel), sm_mem 106 (by decide +kernel), ⟨2, rfl, by decide +kernel⟩, Or.inl (sm_mem 381 (by decide +kernel))⟩⟩,
  List.forall_mem_cons.mpr ⟨fun pc i hi => by rw [sm_k2 hi]; exact ⟨sm_al1 (⟨"TwoWayGrammar", sc_T0, 16, "TwoWayGrammar", sc_ty0, rfl, by decide, sc_in0, sm_mem 556 (by decide +kernel), Or.inl rfl, sc_tyok0, sc_nm0, Or.inr ⟨rfl, rfl, rfl⟩, Or.inr (Or.inr (Or.inl ⟨rfl, Or.inl ⟨_, rfl⟩⟩))⟩), trivial⟩,
  List.forall_mem_cons.mpr ⟨fun pc i hi => by rw [sm_k4 hi]; exact ⟨⟨"TwoWayGrammar$Tree", sc_T7, 4, sc_ty7, rfl, sc_in7, sc_tyok7, sm_mem 395 (by decide +kernel), sm_mem 396 (by decide +kernel), sm_mem 107 (by decide +kernel), rfl, by decide +kernel⟩, trivial⟩,
  List.forall_mem_cons.mpr ⟨fun pc i hi => by rw [sm_k10 hi]; exact ⟨trivial, ⟨rfl, rfl, sm_mem 398 (by decide +kernel), sm_mem 107 (by decide +kernel), ⟨0, rfl, by decide +kernel⟩, Or.inr ⟨"TwoWayGrammar", sc_nx_mem 1 (by decide +kernel)⟩⟩⟩,
  List.forall_mem_cons.mpr ⟨fun pc i hi => by rw [sm_k2 hi]; exact ⟨sm_al1 (⟨"TwoWayGrammar", sc_T0, 16, "TwoWayGrammar", sc_ty0, rfl, by decide, sc_in0, sm_mem 557 (by decide +kernel), Or.inl rfl, sc_tyok0, sc_nm0, Or.inr ⟨rfl, rfl, rfl⟩, Or.inr (Or.inr (Or.inl ⟨rfl, Or.inl ⟨_, rfl⟩⟩))⟩), trivial⟩,
  List.forall_mem_cons.mpr ⟨fun pc i hi => by rw [sm_k2 hi]; exact ⟨sm_al1 (⟨"TwoWayGrammar", sc_T0, 16, "TwoWayGrammar", sc_ty0, rfl, by decide, sc_in0, sm_mem 558 (by decide +kernel), Or.inl rfl, sc_tyok0, sc_nm0, Or.inr ⟨rfl, rfl, rfl⟩, Or.inr (Or.inr (Or.inl ⟨rfl, Or.inl ⟨_, rfl⟩⟩))⟩), trivial⟩,
  List.forall_mem_cons.mpr ⟨fun pc i hi => by rw [sm_k2 hi]; exact ⟨sm_al1 (⟨"TwoWayGrammar", sc_T0, 16, "TwoWayGrammar", sc_ty0, rfl, by decide, sc_in0, sm_mem 559 (by decide +kernel), Or.inl rfl, sc_tyok0, sc_nm0, Or.inr ⟨rfl, rfl, rfl⟩, Or.inr (Or.inr (Or.inl ⟨rfl, Or.inl ⟨_, rfl⟩⟩))⟩), trivial⟩,
  List.forall_mem_cons.mpr ⟨fun pc i hi => by rw [sm_k4 hi]; exact ⟨⟨"TwoWayGrammar$Parsing", sc_T8, 12, sc_ty8, rfl, sc_in8, sc_tyok8, sm_mem 422 (by decide +kernel), sm_mem 423 (by decide +kernel), sm_mem 109 (by decide +kernel), rfl, by decide +kernel⟩, trivial⟩,
  List.forall_mem_cons.mpr ⟨fun pc i hi => by rw [sm_k1 hi]; exact ⟨sm_al1 (⟨"TwoWayGrammar", sc_T0, 16, "TwoWayGrammar", rfl, by decide, sc_in0, sm_mem 559 (by decide +kernel), Or.inl rfl⟩), trivial⟩,
  List.forall_mem_cons.mpr ⟨fun pc i hi => by rw [sm_k1 hi]; exact ⟨sm_al1 (⟨"TwoWayGrammar", sc_T0, 16, "TwoWayGrammar", rfl, by decide, sc_in0, sm_mem 550 (by decide +kernel), Or.inl rfl⟩), trivial⟩,
  List.forall_mem_cons.mpr ⟨fun pc i hi => by rw [sm_k10 hi]; exact ⟨trivial, ⟨rfl, rfl, sm_mem 425 (by decide +kernel), sm_mem 109 (by decide +kernel), ⟨4, rfl, by decide +kernel⟩, Or.inl (sm_mem 424 (by decide +kernel))⟩⟩,
  List.forall_mem_cons.mpr ⟨fun pc i hi => by rw [sm_k2 hi]; exact ⟨sm_al1 (⟨"TwoWayGrammar", sc_T0, 16, "TwoWayGrammar", sc_ty0, rfl, by decide, sc_in0, sm_mem 560 (by decide +kernel), Or.inl rfl, sc_tyok0, sc_nm0, Or.inr ⟨rfl, rfl, rfl⟩, Or.inr (Or.inr (Or.inl ⟨rfl, Or.inl ⟨_, rfl⟩⟩))⟩), trivial⟩,
  List.forall_mem_cons.mpr ⟨fun pc i hi => by rw [sm_k4 hi]; exact ⟨⟨"TwoWayGrammar$Growing", sc_T9, 8, sc_ty9, rfl, sc_in9, sc_tyok9, sm_mem 495 (by decide +kernel), sm_mem 496 (by decide +kernel), sm_mem 110 (by decide +kernel), rfl, by decide +kernel⟩, trivial⟩,
  List.forall_mem_cons.mpr ⟨fun pc i hi => by rw [sm_k10 hi]; exact ⟨trivial, ⟨rfl, rfl, sm_mem 498 (by decide +kernel), sm_mem 110 (by decide +kernel), ⟨3, rfl, by decide +kernel⟩, Or.inl (sm_mem 497 (by decide +kernel))⟩⟩,
  List.forall_mem_cons.mpr ⟨fun pc i hi => by rw [sm_k2 hi]; exact ⟨sm_al1 (⟨"TwoWayGrammar", sc_T0, 16, "TwoWayGrammar", sc_ty0, rfl, by decide, sc_in0, sm_mem 561 (by decide +kernel), Or.inl rfl, sc_tyok0, sc_nm0, Or.inr ⟨rfl, rfl, rfl⟩, Or.inr (Or.inr (Or.inl ⟨rfl, Or.inl ⟨_, rfl⟩⟩))⟩), trivial⟩,
  List.forall_mem_cons.mpr ⟨fun pc i hi => by rw [sm_k4 hi]; exact ⟨⟨"TwoWayGrammar$Printing", sc_T10, 13, sc_ty10, rfl, sc_in10, sc_tyok10, sm_mem 514 (by decide +kernel), sm_mem 515 (by decide +kernel), sm_mem 111 (by decide +kernel), rfl, by decide +kernel⟩, trivial⟩,
  List.forall_mem_cons.mpr ⟨fun pc i hi => by rw [sm_k1 hi]; exact ⟨sm_al1 (⟨"TwoWayGrammar", sc_T0, 16, "TwoWayGrammar", rfl, by decide, sc_in0, sm_mem 557 (by decide +kernel), Or.inl rfl⟩), trivial⟩,
  List.forall_mem_cons.mpr ⟨fun pc i hi => by rw [sm_k1 hi]; exact ⟨sm_al1 (⟨"TwoWayGrammar", sc_T0, 16, "TwoWayGrammar", rfl, by decide, sc_in0, sm_mem 552 (by decide +kernel), Or.inl rfl⟩), trivial⟩,
  fun _ h => absurd h List.not_mem_nil⟩⟩⟩⟩⟩⟩⟩⟩⟩⟩⟩⟩⟩⟩⟩⟩⟩⟩⟩⟩
def sp_0_2 : List ((Nat × Nat) × List Nat) := [((10, 99), [0, 11, 5]), ((2, 100), [13, 2, 1, 0])]
set_option maxRecDepth 20000 in
theorem sp_ok_0_2 {K : sm_H} (hK : sc_KOk K) : sm_poolOk sc_Ts sc_sx sc_zx sc_oc K sc_cl sc_Y "TwoWayGrammar" "<init>" sp_0_2 :=
  List.forall_mem_cons.mpr ⟨fun pc i hi => by rw [sm_k10 hi]; exact ⟨trivial, ⟨rfl, rfl, sm_mem 517 (by decide +kernel), sm_mem 111 (by decide +kernel), ⟨4, rfl, by decide +kernel⟩, Or.inl (sm_mem 516 (by decide +kernel))⟩⟩,
  List.forall_mem_cons.mpr ⟨fun pc i hi => by rw [sm_k2 hi]; exact ⟨sm_al1 (⟨"TwoWayGrammar", sc_T0, 16, "TwoWayGrammar", sc_ty0, rfl, by decide, sc_in0, sm_mem 562 (by decide +kernel), Or.inl rfl, sc_tyok0, sc_nm0, Or.inr ⟨rfl, rfl, rfl⟩, Or.inr (Or.inr (Or.inl ⟨rfl, Or.inl ⟨_, rfl⟩⟩))⟩), trivial⟩,
  fun _ h => absurd h List.not_mem_nil⟩⟩
def sp_0 : List ((Nat × Nat) × List Nat) := sp_0_0 ++ sp_0_1 ++ sp_0_2
theorem sp_ok_0 {K : sm_H} (hK : sc_KOk K) : sm_poolOk sc_Ts sc_sx sc_zx sc_oc K sc_cl sc_Y "TwoWayGrammar" "<init>" sp_0 := by
  intro e he
  simp only [sp_0, List.mem_append] at he
  rcases he with he | he
  rotate_left
  · exact sp_ok_0_2 hK e he
  rcases he with he | he
  rotate_left
  · exact sp_ok_0_1 hK e he
  exact sp_ok_0_0 hK e he
def sp_1_0 : List ((Nat × Nat) × List Nat) := [((10, 1), [2]), ((9, 7), [7, 0]), ((5, 5), [2]), ((2, 13), [0, 2, 1, 1])]
set_option maxRecDepth 20000 in
theorem sp_ok_1_0 {K : sm_H} (hK : sc_KOk K) : sm_poolOk sc_Ts sc_sx sc_zx sc_oc K sc_cl sc_Y "TwoWayGrammar$Text" "<init>" sp_1_0 :=
  List.forall_mem_cons.mpr ⟨fun pc i hi => by rw [sm_k10 hi]; exact ⟨⟨sm_mem 140 (by decide +kernel), sm_mem 133 (by decide +kernel), sm_mem 134 (by decide +kernel)⟩, trivial⟩,
  List.forall_mem_cons.mpr ⟨fun pc i hi => by rw [sm_k9 hi]; exact ⟨Or.inl ⟨rfl, sm_mem 141 (by decide +kernel), sm_mem 142 (by decide +kernel), sm_mem 101 (by decide +kernel), sm_mem 143 (by decide +kernel)⟩, trivial⟩,
  List.forall_mem_cons.mpr ⟨fun pc i hi => by rw [sm_k5c hi]; exact ⟨⟨rfl, sm_mem 151 (by decide +kernel)⟩, trivial⟩,
  List.forall_mem_cons.mpr ⟨fun pc i hi => by rw [sm_k2 hi]; exact ⟨sm_al1 (⟨"TwoWayGrammar$Text", sc_T1, 2, "TwoWayGrammar$Text", sc_ty1, rfl, by decide, sc_in1, sm_mem 144 (by decide +kernel), Or.inl rfl, sc_tyok1, sc_nm1, Or.inr ⟨rfl, rfl, rfl⟩, Or.inr (Or.inr (Or.inl ⟨rfl, Or.inr ⟨_, rfl⟩⟩))⟩), trivial⟩,
  fun _ h => absurd h List.not_mem_nil⟩⟩⟩⟩
def sp_1 : List ((Nat × Nat) × List Nat) := sp_1_0
theorem sp_ok_1 {K : sm_H} (hK : sc_KOk K) : sm_poolOk sc_Ts sc_sx sc_zx sc_oc K sc_cl sc_Y "TwoWayGrammar$Text" "<init>" sp_1 := by
  intro e he
  exact sp_ok_1_0 hK e he
def sp_2_0 : List ((Nat × Nat) × List Nat) := [((10, 3), [2]), ((5, 10), [0]), ((2, 9), [1, 2, 1, 2]), ((2, 15), [2, 2, 1, 2]), ((2, 18), [3, 2, 1, 2]), ((2, 21), [4, 2, 1, 2]), ((2, 24), [7, 2, 1, 2]), ((2, 27), [8, 2, 1, 2]), ((2, 30), [9, 2, 1, 2]), ((2, 33), [11, 2, 1, 2]), ((2, 36), [12, 2, 1, 2]), ((2, 39), [13, 2, 1, 2]), ((2, 42), [14, 2, 1, 2]), ((2, 45), [15, 2, 1, 2]), ((2, 48), [16, 2, 1, 2]), ((2, 51), [17, 2, 1, 2]), ((2, 54), [19, 2, 1, 2])]
set_option maxRecDepth 20000 in
theorem sp_ok_2_0 {K : sm_H} (hK : sc_KOk K) : sm_poolOk sc_Ts sc_sx sc_zx sc_oc K sc_cl sc_Y "TwoWayGrammar$Grammar" "<init>" sp_2_0 :=
  List.forall_mem_cons.mpr ⟨fun pc i hi => by rw [sm_k10 hi]; exact ⟨⟨sm_mem 157 (by decide +kernel), sm_mem 133 (by decide +kernel), sm_mem 134 (by decide +kernel)⟩, trivial⟩,
  List.forall_mem_cons.mpr ⟨fun pc i hi => by rw [sm_k5i hi]; exact ⟨⟨rfl, sm_mem 266 (by decide +kernel)⟩, trivial⟩,
  List.forall_mem_cons.mpr ⟨fun pc i hi => by rw [sm_k2 hi]; exact ⟨sm_al1 (⟨"TwoWayGrammar$Grammar", sc_T2, 20, "TwoWayGrammar$Grammar", sc_ty2, rfl, by decide, sc_in2, sm_mem 162 (by decide +kernel), Or.inl rfl, sc_tyok2, sc_nm2, Or.inr ⟨rfl, rfl, rfl⟩, Or.inr (Or.inr (Or.inl ⟨rfl, Or.inr ⟨_, rfl⟩⟩))⟩), trivial⟩,
  List.forall_mem_cons.mpr ⟨fun pc i hi => by rw [sm_k2 hi]; exact ⟨sm_al1 (⟨"TwoWayGrammar$Grammar", sc_T2, 20, "TwoWayGrammar$Grammar", sc_ty2, rfl, by decide, sc_in2, sm_mem 163 (by decide +kernel), Or.inl rfl, sc_tyok2, sc_nm2, Or.inr ⟨rfl, rfl, rfl⟩, Or.inr (Or.inr (Or.inl ⟨rfl, Or.inr ⟨_, rfl⟩⟩))⟩), trivial⟩,
  List.forall_mem_cons.mpr ⟨fun pc i hi => by rw [sm_k2 hi]; exact ⟨sm_al1 (⟨"TwoWayGrammar$Grammar", sc_T2, 20, "TwoWayGrammar$Grammar", sc_ty2, rfl, by decide, sc_in2, sm_mem 165 (by decide +kernel), Or.inl rfl, sc_tyok2, sc_nm2, Or.inr ⟨rfl, rfl, rfl⟩, Or.inr (Or.inr (Or.inl ⟨rfl, Or.inr ⟨_, rfl⟩⟩))⟩), trivial⟩,
  List.forall_mem_cons.mpr ⟨fun pc i hi => by rw [sm_k2 hi]; exact ⟨sm_al1 (⟨"TwoWayGrammar$Grammar", sc_T2, 20, "TwoWayGrammar$Grammar", sc_ty2, rfl, by decide, sc_in2, sm_mem 170 (by decide +kernel), Or.inl rfl, sc_tyok2, sc_nm2, Or.inr ⟨rfl, rfl, rfl⟩, Or.inr (Or.inr (Or.inl ⟨rfl, Or.inr ⟨_, rfl⟩⟩))⟩), trivial⟩,
  List.forall_mem_cons.mpr ⟨fun pc i hi => by rw [sm_k2 hi]; exact ⟨sm_al1 (⟨"TwoWayGrammar$Grammar", sc_T2, 20, "TwoWayGrammar$Grammar", sc_ty2, rfl, by decide, sc_in2, sm_mem 178 (by decide +kernel), Or.inl rfl, sc_tyok2, sc_nm2, Or.inr ⟨rfl, rfl, rfl⟩, Or.inr (Or.inr (Or.inl ⟨rfl, Or.inr ⟨_, rfl⟩⟩))⟩), trivial⟩,
  List.forall_mem_cons.mpr ⟨fun pc i hi => by rw [sm_k2 hi]; exact ⟨sm_al1 (⟨"TwoWayGrammar$Grammar", sc_T2, 20, "TwoWayGrammar$Grammar", sc_ty2, rfl, by decide, sc_in2, sm_mem 181 (by decide +kernel), Or.inl rfl, sc_tyok2, sc_nm2, Or.inr ⟨rfl, rfl, rfl⟩, Or.inr (Or.inr (Or.inl ⟨rfl, Or.inr ⟨_, rfl⟩⟩))⟩), trivial⟩,
  List.forall_mem_cons.mpr ⟨fun pc i hi => by rw [sm_k2 hi]; exact ⟨sm_al1 (⟨"TwoWayGrammar$Grammar", sc_T2, 20, "TwoWayGrammar$Grammar", sc_ty2, rfl, by decide, sc_in2, sm_mem 186 (by decide +kernel), Or.inl rfl, sc_tyok2, sc_nm2, Or.inr ⟨rfl, rfl, rfl⟩, Or.inr (Or.inr (Or.inl ⟨rfl, Or.inr ⟨_, rfl⟩⟩))⟩), trivial⟩,
  List.forall_mem_cons.mpr ⟨fun pc i hi => by rw [sm_k2 hi]; exact ⟨sm_al1 (⟨"TwoWayGrammar$Grammar", sc_T2, 20, "TwoWayGrammar$Grammar", sc_ty2, rfl, by decide, sc_in2, sm_mem 192 (by decide +kernel), Or.inl rfl, sc_tyok2, sc_nm2, Or.inr ⟨rfl, rfl, rfl⟩, Or.inr (Or.inr (Or.inl ⟨rfl, Or.inr ⟨_, rfl⟩⟩))⟩), trivial⟩,
  List.forall_mem_cons.mpr ⟨fun pc i hi => by rw [sm_k2 hi]; exact ⟨sm_al1 (⟨"TwoWayGrammar$Grammar", sc_T2, 20, "TwoWayGrammar$Grammar", sc_ty2, rfl, by decide, sc_in2, sm_mem 198 (by decide +kernel), Or.inl rfl, sc_tyok2, sc_nm2, Or.inr ⟨rfl, rfl, rfl⟩, Or.inr (Or.inr (Or.inl ⟨rfl, Or.inr ⟨_, rfl⟩⟩))⟩), trivial⟩,
  List.forall_mem_cons.mpr ⟨fun pc i hi => by rw [sm_k2 hi]; exact ⟨sm_al1 (⟨"TwoWayGrammar$Grammar", sc_T2, 20, "TwoWayGrammar$Grammar", sc_ty2, rfl, by decide, sc_in2, sm_mem 204 (by decide +kernel), Or.inl rfl, sc_tyok2, sc_nm2, Or.inr ⟨rfl, rfl, rfl⟩, Or.inr (Or.inr (Or.inl ⟨rfl, Or.inr ⟨_, rfl⟩⟩))⟩), trivial⟩,
  List.forall_mem_cons.mpr ⟨fun pc i hi => by rw [sm_k2 hi]; exact ⟨sm_al1 (⟨"TwoWayGrammar$Grammar", sc_T2, 20, "TwoWayGrammar$Grammar", sc_ty2, rfl, by decide, sc_in2, sm_mem 206 (by decide +kernel), Or.inl rfl, sc_tyok2, sc_nm2, Or.inr ⟨rfl, rfl, rfl⟩, Or.inr (Or.inr (Or.inl ⟨rfl, Or.inr ⟨_, rfl⟩⟩))⟩), trivial⟩,
  List.forall_mem_cons.mpr ⟨fun pc i hi => by rw [sm_k2 hi]; exact ⟨sm_al1 (⟨"TwoWayGrammar$Grammar", sc_T2, 20, "TwoWayGrammar$Grammar", sc_ty2, rfl, by decide, sc_in2, sm_mem 209 (by decide +kernel), Or.inl rfl, sc_tyok2, sc_nm2, Or.inr ⟨rfl, rfl, rfl⟩, Or.inr (Or.inr (Or.inl ⟨rfl, Or.inr ⟨_, rfl⟩⟩))⟩), trivial⟩,
  List.forall_mem_cons.mpr ⟨fun pc i hi => by rw [sm_k2 hi]; exact ⟨sm_al1 (⟨"TwoWayGrammar$Grammar", sc_T2, 20, "TwoWayGrammar$Grammar", sc_ty2, rfl, by decide, sc_in2, sm_mem 214 (by decide +kernel), Or.inl rfl, sc_tyok2, sc_nm2, Or.inr ⟨rfl, rfl, rfl⟩, Or.inr (Or.inr (Or.inl ⟨rfl, Or.inr ⟨_, rfl⟩⟩))⟩), trivial⟩,
  List.forall_mem_cons.mpr ⟨fun pc i hi => by rw [sm_k2 hi]; exact ⟨sm_al1 (⟨"TwoWayGrammar$Grammar", sc_T2, 20, "TwoWayGrammar$Grammar", sc_ty2, rfl, by decide, sc_in2, sm_mem 217 (by decide +kernel), Or.inl rfl, sc_tyok2, sc_nm2, Or.inr ⟨rfl, rfl, rfl⟩, Or.inr (Or.inr (Or.inl ⟨rfl, Or.inr ⟨_, rfl⟩⟩))⟩), trivial⟩,
  List.forall_mem_cons.mpr ⟨fun pc i hi => by rw [sm_k2 hi]; exact ⟨sm_al1 (⟨"TwoWayGrammar$Grammar", sc_T2, 20, "TwoWayGrammar$Grammar", sc_ty2, rfl, by decide, sc_in2, sm_mem 223 (by decide +kernel), Or.inl rfl, sc_tyok2, sc_nm2, Or.inr ⟨rfl, rfl, rfl⟩, Or.inr (Or.inr (Or.inl ⟨rfl, Or.inr ⟨_, rfl⟩⟩))⟩), trivial⟩,
  fun _ h => absurd h List.not_mem_nil⟩⟩⟩⟩⟩⟩⟩⟩⟩⟩⟩⟩⟩⟩⟩⟩⟩
def sp_2 : List ((Nat × Nat) × List Nat) := sp_2_0
theorem sp_ok_2 {K : sm_H} (hK : sc_KOk K) : sm_poolOk sc_Ts sc_sx sc_zx sc_oc K sc_cl sc_Y "TwoWayGrammar$Grammar" "<init>" sp_2 := by
  intro e he
  exact sp_ok_2_0 hK e he
def sp_3_0 : List ((Nat × Nat) × List Nat) := [((10, 3), [2]), ((2, 9), [0, 2, 1, 4])]
set_option maxRecDepth 20000 in
theorem sp_ok_3_0 {K : sm_H} (hK : sc_KOk K) : sm_poolOk sc_Ts sc_sx sc_zx sc_oc K sc_cl sc_Y "TwoWayGrammar$Tokens" "<init>" sp_3_0 :=
  List.forall_mem_cons.mpr ⟨fun pc i hi => by rw [sm_k10 hi]; exact ⟨⟨sm_mem 274 (by decide +kernel), sm_mem 133 (by decide +kernel), sm_mem 134 (by decide +kernel)⟩, trivial⟩,
  List.forall_mem_cons.mpr ⟨fun pc i hi => by rw [sm_k2 hi]; exact ⟨sm_al1 (⟨"TwoWayGrammar$Tokens", sc_T4, 5, "TwoWayGrammar$Tokens", sc_ty4, rfl, by decide, sc_in4, sm_mem 275 (by decide +kernel), Or.inl rfl, sc_tyok4, sc_nm4, Or.inr ⟨rfl, rfl, rfl⟩, Or.inr (Or.inr (Or.inl ⟨rfl, Or.inl ⟨_, rfl⟩⟩))⟩), trivial⟩,
  fun _ h => absurd h List.not_mem_nil⟩⟩
def sp_3 : List ((Nat × Nat) × List Nat) := sp_3_0
theorem sp_ok_3 {K : sm_H} (hK : sc_KOk K) : sm_poolOk sc_Ts sc_sx sc_zx sc_oc K sc_cl sc_Y "TwoWayGrammar$Tokens" "<init>" sp_3 := by
  intro e he
  exact sp_ok_3_0 hK e he
def sp_4_0 : List ((Nat × Nat) × List Nat) := [((10, 3), [2]), ((2, 9), [0, 2, 1, 3]), ((2, 15), [1, 2, 1, 3])]
set_option maxRecDepth 20000 in
theorem sp_ok_4_0 {K : sm_H} (hK : sc_KOk K) : sm_poolOk sc_Ts sc_sx sc_zx sc_oc K sc_cl sc_Y "TwoWayGrammar$Reader" "<init>" sp_4_0 :=
  List.forall_mem_cons.mpr ⟨fun pc i hi => by rw [sm_k10 hi]; exact ⟨⟨sm_mem 297 (by decide +kernel), sm_mem 133 (by decide +kernel), sm_mem 134 (by decide +kernel)⟩, trivial⟩,
  List.forall_mem_cons.mpr ⟨fun pc i hi => by rw [sm_k2 hi]; exact ⟨sm_al1 (⟨"TwoWayGrammar$Reader", sc_T3, 4, "TwoWayGrammar$Reader", sc_ty3, rfl, by decide, sc_in3, sm_mem 298 (by decide +kernel), Or.inl rfl, sc_tyok3, sc_nm3, Or.inr ⟨rfl, rfl, rfl⟩, Or.inr (Or.inr (Or.inl ⟨rfl, Or.inl ⟨_, rfl⟩⟩))⟩), trivial⟩,
  List.forall_mem_cons.mpr ⟨fun pc i hi => by rw [sm_k2 hi]; exact ⟨sm_al1 (⟨"TwoWayGrammar$Reader", sc_T3, 4, "TwoWayGrammar$Reader", sc_ty3, rfl, by decide, sc_in3, sm_mem 299 (by decide +kernel), Or.inl rfl, sc_tyok3, sc_nm3, Or.inr ⟨rfl, rfl, rfl⟩, Or.inr (Or.inr (Or.inl ⟨rfl, Or.inl ⟨_, rfl⟩⟩))⟩), trivial⟩,
  fun _ h => absurd h List.not_mem_nil⟩⟩⟩
def sp_4 : List ((Nat × Nat) × List Nat) := sp_4_0
theorem sp_ok_4 {K : sm_H} (hK : sc_KOk K) : sm_poolOk sc_Ts sc_sx sc_zx sc_oc K sc_cl sc_Y "TwoWayGrammar$Reader" "<init>" sp_4 := by
  intro e he
  exact sp_ok_4_0 hK e he
def sp_5_0 : List ((Nat × Nat) × List Nat) := [((10, 3), [2]), ((5, 10), [0]), ((2, 9), [1, 2, 1, 5]), ((5, 11), [1]), ((2, 15), [2, 2, 1, 5]), ((2, 19), [3, 2, 1, 5]), ((2, 22), [4, 2, 1, 5]), ((2, 25), [5, 2, 1, 5]), ((2, 28), [6, 2, 1, 5]), ((2, 31), [7, 2, 1, 5]), ((2, 34), [8, 2, 1, 5]), ((2, 37), [9, 2, 1, 5]), ((2, 40), [10, 2, 1, 5]), ((2, 43), [11, 2, 1, 5]), ((2, 46), [12, 2, 1, 5]), ((2, 49), [13, 2, 1, 5]), ((2, 52), [14, 2, 1, 5]), ((2, 55), [0, 2, 1, 5])]
set_option maxRecDepth 20000 in
theorem sp_ok_5_0 {K : sm_H} (hK : sc_KOk K) : sm_poolOk sc_Ts sc_sx sc_zx sc_oc K sc_cl sc_Y "TwoWayGrammar$Sets" "<init>" sp_5_0 :=
  List.forall_mem_cons.mpr ⟨fun pc i hi => by rw [sm_k10 hi]; exact ⟨⟨sm_mem 316 (by decide +kernel), sm_mem 133 (by decide +kernel), sm_mem 134 (by decide +kernel)⟩, trivial⟩,
  List.forall_mem_cons.mpr ⟨fun pc i hi => by rw [sm_k5i hi]; exact ⟨⟨rfl, sm_mem 266 (by decide +kernel)⟩, trivial⟩,
  List.forall_mem_cons.mpr ⟨fun pc i hi => by rw [sm_k2 hi]; exact ⟨sm_al1 (⟨"TwoWayGrammar$Sets", sc_T5, 16, "TwoWayGrammar$Sets", sc_ty5, rfl, by decide, sc_in5, sm_mem 318 (by decide +kernel), Or.inl rfl, sc_tyok5, sc_nm5, Or.inr ⟨rfl, rfl, rfl⟩, Or.inr (Or.inr (Or.inl ⟨rfl, Or.inr ⟨_, rfl⟩⟩))⟩), trivial⟩,
  List.forall_mem_cons.mpr ⟨fun pc i hi => by rw [sm_k5l hi]; exact ⟨⟨rfl, sm_mem 378 (by decide +kernel)⟩, trivial⟩,
  List.forall_mem_cons.mpr ⟨fun pc i hi => by rw [sm_k2 hi]; exact ⟨sm_al1 (⟨"TwoWayGrammar$Sets", sc_T5, 16, "TwoWayGrammar$Sets", sc_ty5, rfl, by decide, sc_in5, sm_mem 320 (by decide +kernel), Or.inl rfl, sc_tyok5, sc_nm5, Or.inr ⟨rfl, rfl, rfl⟩, Or.inr (Or.inr (Or.inl ⟨rfl, Or.inr ⟨_, rfl⟩⟩))⟩), trivial⟩,
  List.forall_mem_cons.mpr ⟨fun pc i hi => by rw [sm_k2 hi]; exact ⟨sm_al1 (⟨"TwoWayGrammar$Sets", sc_T5, 16, "TwoWayGrammar$Sets", sc_ty5, rfl, by decide, sc_in5, sm_mem 322 (by decide +kernel), Or.inl rfl, sc_tyok5, sc_nm5, Or.inr ⟨rfl, rfl, rfl⟩, Or.inr (Or.inr (Or.inl ⟨rfl, Or.inr ⟨_, rfl⟩⟩))⟩), trivial⟩,
  List.forall_mem_cons.mpr ⟨fun pc i hi => by rw [sm_k2 hi]; exact ⟨sm_al1 (⟨"TwoWayGrammar$Sets", sc_T5, 16, "TwoWayGrammar$Sets", sc_ty5, rfl, by decide, sc_in5, sm_mem 324 (by decide +kernel), Or.inl rfl, sc_tyok5, sc_nm5, Or.inr ⟨rfl, rfl, rfl⟩, Or.inr (Or.inr (Or.inl ⟨rfl, Or.inr ⟨_, rfl⟩⟩))⟩), trivial⟩,
  List.forall_mem_cons.mpr ⟨fun pc i hi => by rw [sm_k2 hi]; exact ⟨sm_al1 (⟨"TwoWayGrammar$Sets", sc_T5, 16, "TwoWayGrammar$Sets", sc_ty5, rfl, by decide, sc_in5, sm_mem 325 (by decide +kernel), Or.inl rfl, sc_tyok5, sc_nm5, Or.inr ⟨rfl, rfl, rfl⟩, Or.inr (Or.inr (Or.inl ⟨rfl, Or.inr ⟨_, rfl⟩⟩))⟩), trivial⟩,
  List.forall_mem_cons.mpr ⟨fun pc i hi => by rw [sm_k2 hi]; exact ⟨sm_al1 (⟨"TwoWayGrammar$Sets", sc_T5, 16, "TwoWayGrammar$Sets", sc_ty5, rfl, by decide, sc_in5, sm_mem 327 (by decide +kernel), Or.inl rfl, sc_tyok5, sc_nm5, Or.inr ⟨rfl, rfl, rfl⟩, Or.inr (Or.inr (Or.inl ⟨rfl, Or.inr ⟨_, rfl⟩⟩))⟩), trivial⟩,
  List.forall_mem_cons.mpr ⟨fun pc i hi => by rw [sm_k2 hi]; exact ⟨sm_al1 (⟨"TwoWayGrammar$Sets", sc_T5, 16, "TwoWayGrammar$Sets", sc_ty5, rfl, by decide, sc_in5, sm_mem 328 (by decide +kernel), Or.inl rfl, sc_tyok5, sc_nm5, Or.inr ⟨rfl, rfl, rfl⟩, Or.inr (Or.inr (Or.inl ⟨rfl, Or.inr ⟨_, rfl⟩⟩))⟩), trivial⟩,
  List.forall_mem_cons.mpr ⟨fun pc i hi => by rw [sm_k2 hi]; exact ⟨sm_al1 (⟨"TwoWayGrammar$Sets", sc_T5, 16, "TwoWayGrammar$Sets", sc_ty5, rfl, by decide, sc_in5, sm_mem 329 (by decide +kernel), Or.inl rfl, sc_tyok5, sc_nm5, Or.inr ⟨rfl, rfl, rfl⟩, Or.inr (Or.inr (Or.inl ⟨rfl, Or.inr ⟨_, rfl⟩⟩))⟩), trivial⟩,
  List.forall_mem_cons.mpr ⟨fun pc i hi => by rw [sm_k2 hi]; exact ⟨sm_al1 (⟨"TwoWayGrammar$Sets", sc_T5, 16, "TwoWayGrammar$Sets", sc_ty5, rfl, by decide, sc_in5, sm_mem 330 (by decide +kernel), Or.inl rfl, sc_tyok5, sc_nm5, Or.inr ⟨rfl, rfl, rfl⟩, Or.inr (Or.inr (Or.inl ⟨rfl, Or.inr ⟨_, rfl⟩⟩))⟩), trivial⟩,
  List.forall_mem_cons.mpr ⟨fun pc i hi => by rw [sm_k2 hi]; exact ⟨sm_al1 (⟨"TwoWayGrammar$Sets", sc_T5, 16, "TwoWayGrammar$Sets", sc_ty5, rfl, by decide, sc_in5, sm_mem 332 (by decide +kernel), Or.inl rfl, sc_tyok5, sc_nm5, Or.inr ⟨rfl, rfl, rfl⟩, Or.inr (Or.inr (Or.inl ⟨rfl, Or.inr ⟨_, rfl⟩⟩))⟩), trivial⟩,
  List.forall_mem_cons.mpr ⟨fun pc i hi => by rw [sm_k2 hi]; exact ⟨sm_al1 (⟨"TwoWayGrammar$Sets", sc_T5, 16, "TwoWayGrammar$Sets", sc_ty5, rfl, by decide, sc_in5, sm_mem 335 (by decide +kernel), Or.inl rfl, sc_tyok5, sc_nm5, Or.inr ⟨rfl, rfl, rfl⟩, Or.inr (Or.inr (Or.inl ⟨rfl, Or.inr ⟨_, rfl⟩⟩))⟩), trivial⟩,
  List.forall_mem_cons.mpr ⟨fun pc i hi => by rw [sm_k2 hi]; exact ⟨sm_al1 (⟨"TwoWayGrammar$Sets", sc_T5, 16, "TwoWayGrammar$Sets", sc_ty5, rfl, by decide, sc_in5, sm_mem 337 (by decide +kernel), Or.inl rfl, sc_tyok5, sc_nm5, Or.inr ⟨rfl, rfl, rfl⟩, Or.inr (Or.inr (Or.inl ⟨rfl, Or.inr ⟨_, rfl⟩⟩))⟩), trivial⟩,
  List.forall_mem_cons.mpr ⟨fun pc i hi => by rw [sm_k2 hi]; exact ⟨sm_al1 (⟨"TwoWayGrammar$Sets", sc_T5, 16, "TwoWayGrammar$Sets", sc_ty5, rfl, by decide, sc_in5, sm_mem 340 (by decide +kernel), Or.inl rfl, sc_tyok5, sc_nm5, Or.inr ⟨rfl, rfl, rfl⟩, Or.inr (Or.inr (Or.inl ⟨rfl, Or.inr ⟨_, rfl⟩⟩))⟩), trivial⟩,
  List.forall_mem_cons.mpr ⟨fun pc i hi => by rw [sm_k2 hi]; exact ⟨sm_al1 (⟨"TwoWayGrammar$Sets", sc_T5, 16, "TwoWayGrammar$Sets", sc_ty5, rfl, by decide, sc_in5, sm_mem 342 (by decide +kernel), Or.inl rfl, sc_tyok5, sc_nm5, Or.inr ⟨rfl, rfl, rfl⟩, Or.inr (Or.inr (Or.inl ⟨rfl, Or.inr ⟨_, rfl⟩⟩))⟩), trivial⟩,
  List.forall_mem_cons.mpr ⟨fun pc i hi => by rw [sm_k2 hi]; exact ⟨sm_al1 (⟨"TwoWayGrammar$Sets", sc_T5, 16, "TwoWayGrammar$Sets", sc_ty5, rfl, by decide, sc_in5, sm_mem 317 (by decide +kernel), Or.inl rfl, sc_tyok5, sc_nm5, Or.inr ⟨rfl, rfl, rfl⟩, Or.inr (Or.inr (Or.inl ⟨rfl, Or.inl ⟨_, rfl⟩⟩))⟩), trivial⟩,
  fun _ h => absurd h List.not_mem_nil⟩⟩⟩⟩⟩⟩⟩⟩⟩⟩⟩⟩⟩⟩⟩⟩⟩⟩
def sp_5 : List ((Nat × Nat) × List Nat) := sp_5_0
theorem sp_ok_5 {K : sm_H} (hK : sc_KOk K) : sm_poolOk sc_Ts sc_sx sc_zx sc_oc K sc_cl sc_Y "TwoWayGrammar$Sets" "<init>" sp_5 := by
  intro e he
  exact sp_ok_5_0 hK e he
def sp_6_0 : List ((Nat × Nat) × List Nat) := [((10, 3), [2]), ((2, 9), [0, 2, 1, 6]), ((2, 15), [1, 2, 1, 6])]
set_option maxRecDepth 20000 in
theorem sp_ok_6_0 {K : sm_H} (hK : sc_KOk K) : sm_poolOk sc_Ts sc_sx sc_zx sc_oc K sc_cl sc_Y "TwoWayGrammar$Checks" "<init>" sp_6_0 :=
  List.forall_mem_cons.mpr ⟨fun pc i hi => by rw [sm_k10 hi]; exact ⟨⟨sm_mem 384 (by decide +kernel), sm_mem 133 (by decide +kernel), sm_mem 134 (by decide +kernel)⟩, trivial⟩,
  List.forall_mem_cons.mpr ⟨fun pc i hi => by rw [sm_k2 hi]; exact ⟨sm_al1 (⟨"TwoWayGrammar$Checks", sc_T6, 3, "TwoWayGrammar$Checks", sc_ty6, rfl, by decide, sc_in6, sm_mem 385 (by decide +kernel), Or.inl rfl, sc_tyok6, sc_nm6, Or.inr ⟨rfl, rfl, rfl⟩, Or.inr (Or.inr (Or.inl ⟨rfl, Or.inl ⟨_, rfl⟩⟩))⟩), trivial⟩,
  List.forall_mem_cons.mpr ⟨fun pc i hi => by rw [sm_k2 hi]; exact ⟨sm_al1 (⟨"TwoWayGrammar$Checks", sc_T6, 3, "TwoWayGrammar$Checks", sc_ty6, rfl, by decide, sc_in6, sm_mem 386 (by decide +kernel), Or.inl rfl, sc_tyok6, sc_nm6, Or.inr ⟨rfl, rfl, rfl⟩, Or.inr (Or.inr (Or.inl ⟨rfl, Or.inl ⟨_, rfl⟩⟩))⟩), trivial⟩,
  fun _ h => absurd h List.not_mem_nil⟩⟩⟩
def sp_6 : List ((Nat × Nat) × List Nat) := sp_6_0
theorem sp_ok_6 {K : sm_H} (hK : sc_KOk K) : sm_poolOk sc_Ts sc_sx sc_zx sc_oc K sc_cl sc_Y "TwoWayGrammar$Checks" "<init>" sp_6 := by
  intro e he
  exact sp_ok_6_0 hK e he
def sp_7_0 : List ((Nat × Nat) × List Nat) := [((10, 3), [2]), ((5, 10), [0]), ((2, 9), [1, 2, 1, 7]), ((2, 15), [2, 2, 1, 7]), ((2, 18), [3, 2, 1, 7])]
set_option maxRecDepth 20000 in
theorem sp_ok_7_0 {K : sm_H} (hK : sc_KOk K) : sm_poolOk sc_Ts sc_sx sc_zx sc_oc K sc_cl sc_Y "TwoWayGrammar$Tree" "<init>" sp_7_0 :=
  List.forall_mem_cons.mpr ⟨fun pc i hi => by rw [sm_k10 hi]; exact ⟨⟨sm_mem 400 (by decide +kernel), sm_mem 133 (by decide +kernel), sm_mem 134 (by decide +kernel)⟩, trivial⟩,
  List.forall_mem_cons.mpr ⟨fun pc i hi => by rw [sm_k5i hi]; exact ⟨⟨rfl, sm_mem 266 (by decide +kernel)⟩, trivial⟩,
  List.forall_mem_cons.mpr ⟨fun pc i hi => by rw [sm_k2 hi]; exact ⟨sm_al1 (⟨"TwoWayGrammar$Tree", sc_T7, 4, "TwoWayGrammar$Tree", sc_ty7, rfl, by decide, sc_in7, sm_mem 404 (by decide +kernel), Or.inl rfl, sc_tyok7, sc_nm7, Or.inr ⟨rfl, rfl, rfl⟩, Or.inr (Or.inr (Or.inl ⟨rfl, Or.inr ⟨_, rfl⟩⟩))⟩), trivial⟩,
  List.forall_mem_cons.mpr ⟨fun pc i hi => by rw [sm_k2 hi]; exact ⟨sm_al1 (⟨"TwoWayGrammar$Tree", sc_T7, 4, "TwoWayGrammar$Tree", sc_ty7, rfl, by decide, sc_in7, sm_mem 406 (by decide +kernel), Or.inl rfl, sc_tyok7, sc_nm7, Or.inr ⟨rfl, rfl, rfl⟩, Or.inr (Or.inr (Or.inl ⟨rfl, Or.inr ⟨_, rfl⟩⟩))⟩), trivial⟩,
  List.forall_mem_cons.mpr ⟨fun pc i hi => by rw [sm_k2 hi]; exact ⟨sm_al1 (⟨"TwoWayGrammar$Tree", sc_T7, 4, "TwoWayGrammar$Tree", sc_ty7, rfl, by decide, sc_in7, sm_mem 411 (by decide +kernel), Or.inl rfl, sc_tyok7, sc_nm7, Or.inr ⟨rfl, rfl, rfl⟩, Or.inr (Or.inr (Or.inl ⟨rfl, Or.inr ⟨_, rfl⟩⟩))⟩), trivial⟩,
  fun _ h => absurd h List.not_mem_nil⟩⟩⟩⟩⟩
def sp_7 : List ((Nat × Nat) × List Nat) := sp_7_0
theorem sp_ok_7 {K : sm_H} (hK : sc_KOk K) : sm_poolOk sc_Ts sc_sx sc_zx sc_oc K sc_cl sc_Y "TwoWayGrammar$Tree" "<init>" sp_7 := by
  intro e he
  exact sp_ok_7_0 hK e he
def sp_8_0 : List ((Nat × Nat) × List Nat) := [((10, 3), [0, 9, 4]), ((2, 9), [6, 2, 1, 8])]
set_option maxRecDepth 20000 in
theorem sp_ok_8_0 {K : sm_H} (hK : sc_KOk K) : sm_poolOk sc_Ts sc_sx sc_zx sc_oc K sc_cl sc_Y "TwoWayGrammar$Parsing" "<init>" sp_8_0 :=
  List.forall_mem_cons.mpr ⟨fun pc i hi => by rw [sm_k10 hi]; exact ⟨trivial, ⟨rfl, rfl, sm_mem 428 (by decide +kernel), sm_mem 108 (by decide +kernel), ⟨3, rfl, by decide +kernel⟩, Or.inl (sm_mem 427 (by decide +kernel))⟩⟩,
  List.forall_mem_cons.mpr ⟨fun pc i hi => by rw [sm_k2 hi]; exact ⟨sm_al1 (⟨"TwoWayGrammar$Parsing", sc_T8, 12, "TwoWayGrammar$Parsing", sc_ty8, rfl, by decide, sc_in8, sm_mem 431 (by decide +kernel), Or.inl rfl, sc_tyok8, sc_nm8, Or.inr ⟨rfl, rfl, rfl⟩, Or.inr (Or.inr (Or.inl ⟨rfl, Or.inl ⟨_, rfl⟩⟩))⟩), trivial⟩,
  fun _ h => absurd h List.not_mem_nil⟩⟩
def sp_8 : List ((Nat × Nat) × List Nat) := sp_8_0
theorem sp_ok_8 {K : sm_H} (hK : sc_KOk K) : sm_poolOk sc_Ts sc_sx sc_zx sc_oc K sc_cl sc_Y "TwoWayGrammar$Parsing" "<init>" sp_8 := by
  intro e he
  exact sp_ok_8_0 hK e he
def sp_9_0 : List ((Nat × Nat) × List Nat) := [((10, 3), [2]), ((2, 9), [0, 2, 1, 8, 9, 10]), ((2, 15), [1, 2, 1, 8, 9, 10]), ((2, 19), [2, 2, 1, 8, 9, 10])]
set_option maxRecDepth 20000 in
theorem sp_ok_9_0 {K : sm_H} (hK : sc_KOk K) : sm_poolOk sc_Ts sc_sx sc_zx sc_oc K sc_cl sc_Y "TwoWayGrammar$Walk" "<init>" sp_9_0 :=
  List.forall_mem_cons.mpr ⟨fun pc i hi => by rw [sm_k10 hi]; exact ⟨⟨sm_mem 430 (by decide +kernel), sm_mem 133 (by decide +kernel), sm_mem 134 (by decide +kernel)⟩, trivial⟩,
  List.forall_mem_cons.mpr ⟨fun pc i hi => by rw [sm_k2 hi]; exact ⟨sm_al3 (⟨"TwoWayGrammar$Parsing", sc_T8, 12, "TwoWayGrammar$Walk", sc_ty8, rfl, by decide, sc_in8, sm_mem 438 (by decide +kernel), Or.inl rfl, sc_tyok8, sc_nm8, Or.inr ⟨rfl, rfl, rfl⟩, Or.inr (Or.inr (Or.inl ⟨rfl, Or.inl ⟨_, rfl⟩⟩))⟩) (⟨"TwoWayGrammar$Growing", sc_T9, 8, "TwoWayGrammar$Walk", sc_ty9, rfl, by decide, sc_in9, sm_mem 438 (by decide +kernel), Or.inl rfl, sc_tyok9, sc_nm9, Or.inr ⟨rfl, rfl, rfl⟩, Or.inr (Or.inr (Or.inl ⟨rfl, Or.inl ⟨_, rfl⟩⟩))⟩) (⟨"TwoWayGrammar$Printing", sc_T10, 13, "TwoWayGrammar$Walk", sc_ty10, rfl, by decide, sc_in10, sm_mem 438 (by decide +kernel), Or.inl rfl, sc_tyok10, sc_nm10, Or.inr ⟨rfl, rfl, rfl⟩, Or.inr (Or.inr (Or.inl ⟨rfl, Or.inl ⟨_, rfl⟩⟩))⟩), trivial⟩,
  List.forall_mem_cons.mpr ⟨fun pc i hi => by rw [sm_k2 hi]; exact ⟨sm_al3 (⟨"TwoWayGrammar$Parsing", sc_T8, 12, "TwoWayGrammar$Walk", sc_ty8, rfl, by decide, sc_in8, sm_mem 445 (by decide +kernel), Or.inl rfl, sc_tyok8, sc_nm8, Or.inr ⟨rfl, rfl, rfl⟩, Or.inr (Or.inr (Or.inl ⟨rfl, Or.inl ⟨_, rfl⟩⟩))⟩) (⟨"TwoWayGrammar$Growing", sc_T9, 8, "TwoWayGrammar$Walk", sc_ty9, rfl, by decide, sc_in9, sm_mem 445 (by decide +kernel), Or.inl rfl, sc_tyok9, sc_nm9, Or.inr ⟨rfl, rfl, rfl⟩, Or.inr (Or.inr (Or.inl ⟨rfl, Or.inl ⟨_, rfl⟩⟩))⟩) (⟨"TwoWayGrammar$Printing", sc_T10, 13, "TwoWayGrammar$Walk", sc_ty10, rfl, by decide, sc_in10, sm_mem 445 (by decide +kernel), Or.inl rfl, sc_tyok10, sc_nm10, Or.inr ⟨rfl, rfl, rfl⟩, Or.inr (Or.inr (Or.inl ⟨rfl, Or.inl ⟨_, rfl⟩⟩))⟩), trivial⟩,
  List.forall_mem_cons.mpr ⟨fun pc i hi => by rw [sm_k2 hi]; exact ⟨sm_al3 (⟨"TwoWayGrammar$Parsing", sc_T8, 12, "TwoWayGrammar$Walk", sc_ty8, rfl, by decide, sc_in8, sm_mem 452 (by decide +kernel), Or.inl rfl, sc_tyok8, sc_nm8, Or.inr ⟨rfl, rfl, rfl⟩, Or.inr (Or.inr (Or.inl ⟨rfl, Or.inl ⟨_, rfl⟩⟩))⟩) (⟨"TwoWayGrammar$Growing", sc_T9, 8, "TwoWayGrammar$Walk", sc_ty9, rfl, by decide, sc_in9, sm_mem 452 (by decide +kernel), Or.inl rfl, sc_tyok9, sc_nm9, Or.inr ⟨rfl, rfl, rfl⟩, Or.inr (Or.inr (Or.inl ⟨rfl, Or.inl ⟨_, rfl⟩⟩))⟩) (⟨"TwoWayGrammar$Printing", sc_T10, 13, "TwoWayGrammar$Walk", sc_ty10, rfl, by decide, sc_in10, sm_mem 452 (by decide +kernel), Or.inl rfl, sc_tyok10, sc_nm10, Or.inr ⟨rfl, rfl, rfl⟩, Or.inr (Or.inr (Or.inl ⟨rfl, Or.inl ⟨_, rfl⟩⟩))⟩), trivial⟩,
  fun _ h => absurd h List.not_mem_nil⟩⟩⟩⟩
def sp_9 : List ((Nat × Nat) × List Nat) := sp_9_0
theorem sp_ok_9 {K : sm_H} (hK : sc_KOk K) : sm_poolOk sc_Ts sc_sx sc_zx sc_oc K sc_cl sc_Y "TwoWayGrammar$Walk" "<init>" sp_9 := by
  intro e he
  exact sp_ok_9_0 hK e he
def sp_10_0 : List ((Nat × Nat) × List Nat) := [((10, 3), [0, 9, 4])]
set_option maxRecDepth 20000 in
theorem sp_ok_10_0 {K : sm_H} (hK : sc_KOk K) : sm_poolOk sc_Ts sc_sx sc_zx sc_oc K sc_cl sc_Y "TwoWayGrammar$Growing" "<init>" sp_10_0 :=
  List.forall_mem_cons.mpr ⟨fun pc i hi => by rw [sm_k10 hi]; exact ⟨trivial, ⟨rfl, rfl, sm_mem 428 (by decide +kernel), sm_mem 108 (by decide +kernel), ⟨3, rfl, by decide +kernel⟩, Or.inl (sm_mem 500 (by decide +kernel))⟩⟩,
  fun _ h => absurd h List.not_mem_nil⟩
def sp_10 : List ((Nat × Nat) × List Nat) := sp_10_0
theorem sp_ok_10 {K : sm_H} (hK : sc_KOk K) : sm_poolOk sc_Ts sc_sx sc_zx sc_oc K sc_cl sc_Y "TwoWayGrammar$Growing" "<init>" sp_10 := by
  intro e he
  exact sp_ok_10_0 hK e he
def sp_11_0 : List ((Nat × Nat) × List Nat) := [((10, 3), [0, 9, 4]), ((2, 9), [6, 2, 1, 10])]
set_option maxRecDepth 20000 in
theorem sp_ok_11_0 {K : sm_H} (hK : sc_KOk K) : sm_poolOk sc_Ts sc_sx sc_zx sc_oc K sc_cl sc_Y "TwoWayGrammar$Printing" "<init>" sp_11_0 :=
  List.forall_mem_cons.mpr ⟨fun pc i hi => by rw [sm_k10 hi]; exact ⟨trivial, ⟨rfl, rfl, sm_mem 428 (by decide +kernel), sm_mem 108 (by decide +kernel), ⟨3, rfl, by decide +kernel⟩, Or.inl (sm_mem 519 (by decide +kernel))⟩⟩,
  List.forall_mem_cons.mpr ⟨fun pc i hi => by rw [sm_k2 hi]; exact ⟨sm_al1 (⟨"TwoWayGrammar$Printing", sc_T10, 13, "TwoWayGrammar$Printing", sc_ty10, rfl, by decide, sc_in10, sm_mem 520 (by decide +kernel), Or.inl rfl, sc_tyok10, sc_nm10, Or.inr ⟨rfl, rfl, rfl⟩, Or.inr (Or.inr (Or.inl ⟨rfl, Or.inl ⟨_, rfl⟩⟩))⟩), trivial⟩,
  fun _ h => absurd h List.not_mem_nil⟩⟩
def sp_11 : List ((Nat × Nat) × List Nat) := sp_11_0
theorem sp_ok_11 {K : sm_H} (hK : sc_KOk K) : sm_poolOk sc_Ts sc_sx sc_zx sc_oc K sc_cl sc_Y "TwoWayGrammar$Printing" "<init>" sp_11 := by
  intro e he
  exact sp_ok_11_0 hK e he
def sp_12_0 : List ((Nat × Nat) × List Nat) := [((1, 69), [8, 0, 0]), ((11, 140), [0, 0, 7, 13]), ((1, 73), [9, 0, 0]), ((1, 44), [5, 0, 0]), ((11, 141), [0, 0, 3, 14]), ((2, 144), [14, 3, 0, 0]), ((1, 144), [14, 0, 0]), ((1, 53), [6, 0, 0]), ((11, 148), [0, 0, 5, 65]), ((1, 62), [7, 0, 0]), ((11, 151), [0, 0, 6, 82]), ((2, 154), [15, 3, 0, 0]), ((1, 18), [1, 0, 0]), ((1, 21), [2, 0, 0]), ((11, 269), [0, 1, 1, 89]), ((11, 119), [0, 0, 1, 22]), ((1, 218), [0, 0, 7]), ((11, 214), [0, 1, 7, 93]), ((1, 14), [0, 0, 0]), ((1, 30), [4, 0, 0])]
set_option maxRecDepth 20000 in
theorem sp_ok_12_0 {K : sm_H} (hK : sc_KOk K) (mn : String) : sm_poolOk sc_Ts sc_sx sc_zx sc_oc K sc_cl sc_Y "TwoWayGrammar" mn sp_12_0 :=
  List.forall_mem_cons.mpr ⟨fun pc i hi => by rw [sm_k1 hi]; exact ⟨sm_al1 (⟨"TwoWayGrammar", sc_T0, 16, "TwoWayGrammar", rfl, by decide, sc_in0, sm_mem 557 (by decide +kernel), Or.inl rfl⟩), trivial⟩,
  List.forall_mem_cons.mpr ⟨fun pc i hi => by rw [sm_k11 hi]; exact ⟨trivial, sm_pk1 (⟨"TwoWayGrammar$Tree", sc_T7, 4, rfl, sm_mem 603 (by decide +kernel), sm_mem 107 (by decide +kernel), Or.inl ⟨sm_mem 602 (by decide +kernel), sm_mem 604 (by decide +kernel), by decide +kernel⟩⟩)⟩,
  List.forall_mem_cons.mpr ⟨fun pc i hi => by rw [sm_k1 hi]; exact ⟨sm_al1 (⟨"TwoWayGrammar", sc_T0, 16, "TwoWayGrammar", rfl, by decide, sc_in0, sm_mem 558 (by decide +kernel), Or.inl rfl⟩), trivial⟩,
  List.forall_mem_cons.mpr ⟨fun pc i hi => by rw [sm_k1 hi]; exact ⟨sm_al1 (⟨"TwoWayGrammar", sc_T0, 16, "TwoWayGrammar", rfl, by decide, sc_in0, sm_mem 554 (by decide +kernel), Or.inl rfl⟩), trivial⟩,
  List.forall_mem_cons.mpr ⟨fun pc i hi => by rw [sm_k11 hi]; exact ⟨trivial, sm_pk1 (⟨"TwoWayGrammar$Reader", sc_T3, 4, rfl, sm_mem 607 (by decide +kernel), sm_mem 103 (by decide +kernel), Or.inl ⟨sm_mem 606 (by decide +kernel), sm_mem 608 (by decide +kernel), by decide +kernel⟩⟩)⟩,
  List.forall_mem_cons.mpr ⟨fun pc i hi => by rw [sm_k2 hi]; exact ⟨sm_al1 (⟨"TwoWayGrammar", sc_T0, 16, "TwoWayGrammar", sc_ty0, rfl, by decide, sc_in0, sm_mem 563 (by decide +kernel), Or.inl rfl, sc_tyok0, sc_nm0, Or.inl rfl, Or.inr (Or.inr (Or.inr (Or.inl ⟨rfl, rfl⟩)))⟩), trivial⟩,
  List.forall_mem_cons.mpr ⟨fun pc i hi => by rw [sm_k1 hi]; exact ⟨sm_al1 (⟨"TwoWayGrammar", sc_T0, 16, "TwoWayGrammar", rfl, by decide, sc_in0, sm_mem 563 (by decide +kernel), Or.inl rfl⟩), trivial⟩,
  List.forall_mem_cons.mpr ⟨fun pc i hi => by rw [sm_k1 hi]; exact ⟨sm_al1 (⟨"TwoWayGrammar", sc_T0, 16, "TwoWayGrammar", rfl, by decide, sc_in0, sm_mem 555 (by decide +kernel), Or.inl rfl⟩), trivial⟩,
  List.forall_mem_cons.mpr ⟨fun pc i hi => by rw [sm_k11 hi]; exact ⟨trivial, sm_pk1 (⟨"TwoWayGrammar$Sets", sc_T5, 16, rfl, sm_mem 876 (by decide +kernel), sm_mem 105 (by decide +kernel), Or.inl ⟨sm_mem 875 (by decide +kernel), sm_mem 877 (by decide +kernel), by decide +kernel⟩⟩)⟩,
  List.forall_mem_cons.mpr ⟨fun pc i hi => by rw [sm_k1 hi]; exact ⟨sm_al1 (⟨"TwoWayGrammar", sc_T0, 16, "TwoWayGrammar", rfl, by decide, sc_in0, sm_mem 556 (by decide +kernel), Or.inl rfl⟩), trivial⟩,
  List.forall_mem_cons.mpr ⟨fun pc i hi => by rw [sm_k11 hi]; exact ⟨trivial, sm_pk1 (⟨"TwoWayGrammar$Checks", sc_T6, 3, rfl, sm_mem 950 (by decide +kernel), sm_mem 106 (by decide +kernel), Or.inl ⟨sm_mem 949 (by decide +kernel), sm_mem 951 (by decide +kernel), by decide +kernel⟩⟩)⟩,
  List.forall_mem_cons.mpr ⟨fun pc i hi => by rw [sm_k2 hi]; exact ⟨sm_al1 (⟨"TwoWayGrammar", sc_T0, 16, "TwoWayGrammar", sc_ty0, rfl, by decide, sc_in0, sm_mem 564 (by decide +kernel), Or.inl rfl, sc_tyok0, sc_nm0, Or.inl rfl, Or.inr (Or.inr (Or.inr (Or.inl ⟨rfl, rfl⟩)))⟩), trivial⟩,
  List.forall_mem_cons.mpr ⟨fun pc i hi => by rw [sm_k1 hi]; exact ⟨sm_al1 (⟨"TwoWayGrammar", sc_T0, 16, "TwoWayGrammar", rfl, by decide, sc_in0, sm_mem 550 (by decide +kernel), Or.inl rfl⟩), trivial⟩,
  List.forall_mem_cons.mpr ⟨fun pc i hi => by rw [sm_k1 hi]; exact ⟨sm_al1 (⟨"TwoWayGrammar", sc_T0, 16, "TwoWayGrammar", rfl, by decide, sc_in0, sm_mem 551 (by decide +kernel), Or.inl rfl⟩), trivial⟩,
  List.forall_mem_cons.mpr ⟨fun pc i hi => by rw [sm_k11 hi]; exact ⟨trivial, sm_pk1 (⟨"TwoWayGrammar$Text", sc_T1, 2, rfl, sm_mem 981 (by decide +kernel), sm_mem 100 (by decide +kernel), Or.inl ⟨sm_mem 980 (by decide +kernel), sm_mem 982 (by decide +kernel), by decide +kernel⟩⟩)⟩,
  List.forall_mem_cons.mpr ⟨fun pc i hi => by rw [sm_k11 hi]; exact ⟨trivial, sm_pk1 (⟨"TwoWayGrammar$Text", sc_T1, 2, rfl, sm_mem 638 (by decide +kernel), sm_mem 100 (by decide +kernel), Or.inl ⟨sm_mem 993 (by decide +kernel), sm_mem 639 (by decide +kernel), by decide +kernel⟩⟩)⟩,
  List.forall_mem_cons.mpr ⟨fun pc i hi => by rw [sm_k1 hi]; exact ⟨sm_al1 (⟨"TwoWayGrammar$Tree", sc_T7, 4, "TwoWayGrammar$Tree", rfl, by decide, sc_in7, sm_mem 402 (by decide +kernel), Or.inl rfl⟩), trivial⟩,
  List.forall_mem_cons.mpr ⟨fun pc i hi => by rw [sm_k11 hi]; exact ⟨trivial, sm_pk1 (⟨"TwoWayGrammar$Tree", sc_T7, 4, rfl, sm_mem 999 (by decide +kernel), sm_mem 107 (by decide +kernel), Or.inl ⟨sm_mem 998 (by decide +kernel), sm_mem 1000 (by decide +kernel), by decide +kernel⟩⟩)⟩,
  List.forall_mem_cons.mpr ⟨fun pc i hi => by rw [sm_k1 hi]; exact ⟨sm_al1 (⟨"TwoWayGrammar", sc_T0, 16, "TwoWayGrammar", rfl, by decide, sc_in0, sm_mem 549 (by decide +kernel), Or.inl rfl⟩), trivial⟩,
  List.forall_mem_cons.mpr ⟨fun pc i hi => by rw [sm_k1 hi]; exact ⟨sm_al1 (⟨"TwoWayGrammar", sc_T0, 16, "TwoWayGrammar", rfl, by decide, sc_in0, sm_mem 553 (by decide +kernel), Or.inl rfl⟩), trivial⟩,
  fun _ h => absurd h List.not_mem_nil⟩⟩⟩⟩⟩⟩⟩⟩⟩⟩⟩⟩⟩⟩⟩⟩⟩⟩⟩⟩
end
section
def sp_12_1 : List ((Nat × Nat) × List Nat) := [((1, 162), [0, 0, 2]), ((1, 282), [18, 0, 2]), ((4, 104), [1000, 12]), ((6, 106), [1, 9]), ((11, 111), [0, 1, 0, 96]), ((11, 115), [0, 1, 1, 91]), ((11, 123), [0, 0, 1, 90]), ((4, 126), [1000, 13]), ((6, 128), [1, 10]), ((6, 131), [1, 11]), ((6, 133), [1, 12]), ((6, 135), [1, 13]), ((11, 137), [0, 1, 1, 99]), ((4, 157), [1000, 14]), ((6, 159), [1, 14]), ((6, 166), [1, 15]), ((1, 168), [2, 0, 5]), ((9, 172), [0, 72, 2]), ((1, 176), [3, 0, 5]), ((1, 179), [1, 0, 5])]
set_option maxRecDepth 20000 in
theorem sp_ok_12_1 {K : sm_H} (hK : sc_KOk K) (mn : String) : sm_poolOk sc_Ts sc_sx sc_zx sc_oc K sc_cl sc_Y "TwoWayGrammar" mn sp_12_1 :=
  List.forall_mem_cons.mpr ⟨fun pc i hi => by rw [sm_k1 hi]; exact ⟨sm_al1 (⟨"TwoWayGrammar$Grammar", sc_T2, 20, "TwoWayGrammar$Grammar", rfl, by decide, sc_in2, sm_mem 161 (by decide +kernel), Or.inl rfl⟩), trivial⟩,
  List.forall_mem_cons.mpr ⟨fun pc i hi => by rw [sm_k1 hi]; exact ⟨sm_al1 (⟨"TwoWayGrammar$Grammar", sc_T2, 20, "TwoWayGrammar$Grammar", rfl, by decide, sc_in2, sm_mem 222 (by decide +kernel), Or.inl rfl⟩), trivial⟩,
  List.forall_mem_cons.mpr ⟨fun pc i hi => by rw [sm_k4 hi]; exact ⟨trivial, trivial⟩,
  List.forall_mem_cons.mpr ⟨fun pc i hi => by rw [sm_k6 hi]; exact ⟨⟨"no such text", sc_sx_mem 8 (by decide +kernel)⟩, trivial⟩,
  List.forall_mem_cons.mpr ⟨fun pc i hi => by rw [sm_k11 hi]; exact ⟨trivial, sm_pk1 (⟨"TwoWayGrammar", sc_T0, 16, rfl, sm_mem 1087 (by decide +kernel), sm_mem 99 (by decide +kernel), Or.inl ⟨sm_mem 1085 (by decide +kernel), sm_mem 31 (by decide +kernel), by decide +kernel⟩⟩)⟩,
  List.forall_mem_cons.mpr ⟨fun pc i hi => by rw [sm_k11 hi]; exact ⟨trivial, sm_pk1 (⟨"TwoWayGrammar$Text", sc_T1, 2, rfl, sm_mem 990 (by decide +kernel), sm_mem 100 (by decide +kernel), Or.inl ⟨sm_mem 1089 (by decide +kernel), sm_mem 991 (by decide +kernel), by decide +kernel⟩⟩)⟩,
  List.forall_mem_cons.mpr ⟨fun pc i hi => by rw [sm_k11 hi]; exact ⟨trivial, sm_pk1 (⟨"TwoWayGrammar$Text", sc_T1, 2, rfl, sm_mem 985 (by decide +kernel), sm_mem 100 (by decide +kernel), Or.inl ⟨sm_mem 1097 (by decide +kernel), sm_mem 986 (by decide +kernel), by decide +kernel⟩⟩)⟩,
  List.forall_mem_cons.mpr ⟨fun pc i hi => by rw [sm_k4 hi]; exact ⟨trivial, trivial⟩,
  List.forall_mem_cons.mpr ⟨fun pc i hi => by rw [sm_k6 hi]; exact ⟨⟨"no such sample", sc_sx_mem 9 (by decide +kernel)⟩, trivial⟩,
  List.forall_mem_cons.mpr ⟨fun pc i hi => by rw [sm_k6 hi]; exact ⟨⟨"E = T ( ( '+ | '- ) T )* ;\nT = F ( ( '* | '/ ) F )* ;\nF = number | name | '( E ') ;\n", sc_sx_mem 10 (by decide +kernel)⟩, trivial⟩,
  List.forall_mem_cons.mpr ⟨fun pc i hi => by rw [sm_k6 hi]; exact ⟨⟨"P = '{ deeper ( line S )* back line '} ;\nS = \"let\" name blank '= blank V '; | \"do\" P | \"put\" V '; ;\nV = name | number + 1 | '- V ;\n", sc_sx_mem 11 (by decide +kernel)⟩, trivial⟩,
  List.forall_mem_cons.mpr ⟨fun pc i hi => by rw [sm_k6 hi]; exact ⟨⟨"D = '[ ( R ( ', blank R )* )? '] ;\nR = name ': ( number ~ U ) ;\nU = '# name? | '$ | empty ;\n", sc_sx_mem 12 (by decide +kernel)⟩, trivial⟩,
  List.forall_mem_cons.mpr ⟨fun pc i hi => by rw [sm_k11 hi]; exact ⟨trivial, sm_pk1 (⟨"TwoWayGrammar$Text", sc_T1, 2, rfl, sm_mem 1126 (by decide +kernel), sm_mem 100 (by decide +kernel), Or.inl ⟨sm_mem 1125 (by decide +kernel), sm_mem 1127 (by decide +kernel), by decide +kernel⟩⟩)⟩,
  List.forall_mem_cons.mpr ⟨fun pc i hi => by rw [sm_k4 hi]; exact ⟨trivial, trivial⟩,
  List.forall_mem_cons.mpr ⟨fun pc i hi => by rw [sm_k6 hi]; exact ⟨⟨"no description that can be read", sc_sx_mem 13 (by decide +kernel)⟩, trivial⟩,
  List.forall_mem_cons.mpr ⟨fun pc i hi => by rw [sm_k6 hi]; exact ⟨⟨"no such rule", sc_sx_mem 14 (by decide +kernel)⟩, trivial⟩,
  List.forall_mem_cons.mpr ⟨fun pc i hi => by rw [sm_k1 hi]; exact ⟨sm_al1 (⟨"TwoWayGrammar$Sets", sc_T5, 16, "TwoWayGrammar$Sets", rfl, by decide, sc_in5, sm_mem 321 (by decide +kernel), Or.inl rfl⟩), trivial⟩,
  List.forall_mem_cons.mpr ⟨fun pc i hi => by rw [sm_k9 hi]; exact ⟨trivial, ⟨sm_mem 906 (by decide +kernel), sm_mem 99 (by decide +kernel), by decide +kernel, Or.inl (sm_mem 1154 (by decide +kernel))⟩⟩,
  List.forall_mem_cons.mpr ⟨fun pc i hi => by rw [sm_k1 hi]; exact ⟨sm_al1 (⟨"TwoWayGrammar$Sets", sc_T5, 16, "TwoWayGrammar$Sets", rfl, by decide, sc_in5, sm_mem 323 (by decide +kernel), Or.inl rfl⟩), trivial⟩,
  List.forall_mem_cons.mpr ⟨fun pc i hi => by rw [sm_k1 hi]; exact ⟨sm_al1 (⟨"TwoWayGrammar$Sets", sc_T5, 16, "TwoWayGrammar$Sets", rfl, by decide, sc_in5, sm_mem 319 (by decide +kernel), Or.inl rfl⟩), trivial⟩,
  fun _ h => absurd h List.not_mem_nil⟩⟩⟩⟩⟩⟩⟩⟩⟩⟩⟩⟩⟩⟩⟩⟩⟩⟩⟩⟩
def sp_12_2 : List ((Nat × Nat) × List Nat) := [((9, 183), [0, 49, 2]), ((11, 186), [0, 1, 5, 85]), ((11, 190), [0, 1, 5, 101]), ((8, 194), [18446744073709551615]), ((6, 196), [1, 16]), ((1, 154), [15, 0, 0]), ((6, 198), [1, 17]), ((1, 84), [11, 0, 0]), ((11, 200), [0, 0, 8, 103]), ((1, 203), [4, 0, 8, 9, 10]), ((4, 206), [1000, 15]), ((6, 208), [1, 18]), ((1, 211), [11, 0, 8]), ((1, 76), [10, 0, 0]), ((6, 221), [1, 19]), ((1, 93), [12, 0, 0]), ((11, 223), [0, 2, 9, 159]), ((11, 227), [0, 0, 9, 103]), ((1, 228), [4, 0, 8, 9, 10]), ((4, 229), [1000, 16])]
set_option maxRecDepth 20000 in
theorem sp_ok_12_2 {K : sm_H} (hK : sc_KOk K) (mn : String) : sm_poolOk sc_Ts sc_sx sc_zx sc_oc K sc_cl sc_Y "TwoWayGrammar" mn sp_12_2 :=
  List.forall_mem_cons.mpr ⟨fun pc i hi => by rw [sm_k9 hi]; exact ⟨trivial, ⟨sm_mem 809 (by decide +kernel), sm_mem 99 (by decide +kernel), by decide +kernel, Or.inl (sm_mem 1155 (by decide +kernel))⟩⟩,
  List.forall_mem_cons.mpr ⟨fun pc i hi => by rw [sm_k11 hi]; exact ⟨trivial, sm_pk1 (⟨"TwoWayGrammar$Sets", sc_T5, 16, rfl, sm_mem 963 (by decide +kernel), sm_mem 105 (by decide +kernel), Or.inl ⟨sm_mem 1156 (by decide +kernel), sm_mem 964 (by decide +kernel), by decide +kernel⟩⟩)⟩,
  List.forall_mem_cons.mpr ⟨fun pc i hi => by rw [sm_k11 hi]; exact ⟨trivial, sm_pk1 (⟨"TwoWayGrammar$Sets", sc_T5, 16, rfl, sm_mem 1158 (by decide +kernel), sm_mem 105 (by decide +kernel), Or.inl ⟨sm_mem 1157 (by decide +kernel), sm_mem 1159 (by decide +kernel), by decide +kernel⟩⟩)⟩,
  List.forall_mem_cons.mpr ⟨fun pc i hi => by rw [sm_k8 hi]; exact ⟨sm_mem 1161 (by decide +kernel), trivial⟩,
  List.forall_mem_cons.mpr ⟨fun pc i hi => by rw [sm_k6 hi]; exact ⟨⟨"nothing that a rule has", sc_sx_mem 15 (by decide +kernel)⟩, trivial⟩,
  List.forall_mem_cons.mpr ⟨fun pc i hi => by rw [sm_k1 hi]; exact ⟨sm_al1 (⟨"TwoWayGrammar", sc_T0, 16, "TwoWayGrammar", rfl, by decide, sc_in0, sm_mem 564 (by decide +kernel), Or.inl rfl⟩), trivial⟩,
  List.forall_mem_cons.mpr ⟨fun pc i hi => by rw [sm_k6 hi]; exact ⟨⟨"no good description", sc_sx_mem 16 (by decide +kernel)⟩, trivial⟩,
  List.forall_mem_cons.mpr ⟨fun pc i hi => by rw [sm_k1 hi]; exact ⟨sm_al1 (⟨"TwoWayGrammar", sc_T0, 16, "TwoWayGrammar", rfl, by decide, sc_in0, sm_mem 560 (by decide +kernel), Or.inl rfl⟩), trivial⟩,
  List.forall_mem_cons.mpr ⟨fun pc i hi => by rw [sm_k11 hi]; exact ⟨trivial, sm_pk1 (⟨"TwoWayGrammar$Parsing", sc_T8, 12, rfl, sm_mem 1176 (by decide +kernel), sm_mem 108 (by decide +kernel), Or.inr (Or.inr ⟨⟨"TwoWayGrammar$Parsing", "walk", "()V"⟩, "TwoWayGrammar$Walk", sm_mem 1172 (by decide +kernel), sm_mem 1173 (by decide +kernel), ⟨by decide, by decide⟩, sm_mem 1175 (by decide +kernel), by decide +kernel, Or.inr ⟨sm_mem 1176 (by decide +kernel), prog_12_method_14_code, 1, none, sm_mem 1177 (by decide +kernel)⟩⟩)⟩)⟩,
  List.forall_mem_cons.mpr ⟨fun pc i hi => by rw [sm_k1 hi]; exact ⟨sm_al3 (⟨"TwoWayGrammar$Parsing", sc_T8, 12, "TwoWayGrammar$Parsing", rfl, by decide, sc_in8, sm_mem 464 (by decide +kernel), Or.inr (sm_mem 465 (by decide +kernel))⟩) (⟨"TwoWayGrammar$Growing", sc_T9, 8, "TwoWayGrammar$Parsing", rfl, by decide, sc_in9, sm_mem 464 (by decide +kernel), Or.inr (sm_mem 465 (by decide +kernel))⟩) (⟨"TwoWayGrammar$Printing", sc_T10, 13, "TwoWayGrammar$Parsing", rfl, by decide, sc_in10, sm_mem 464 (by decide +kernel), Or.inr (sm_mem 465 (by decide +kernel))⟩), trivial⟩,
  List.forall_mem_cons.mpr ⟨fun pc i hi => by rw [sm_k4 hi]; exact ⟨trivial, trivial⟩,
  List.forall_mem_cons.mpr ⟨fun pc i hi => by rw [sm_k6 hi]; exact ⟨⟨"too many nodes or uses", sc_sx_mem 17 (by decide +kernel)⟩, trivial⟩,
  List.forall_mem_cons.mpr ⟨fun pc i hi => by rw [sm_k1 hi]; exact ⟨sm_al1 (⟨"TwoWayGrammar$Parsing", sc_T8, 12, "TwoWayGrammar$Parsing", rfl, by decide, sc_in8, sm_mem 437 (by decide +kernel), Or.inl rfl⟩), trivial⟩,
  List.forall_mem_cons.mpr ⟨fun pc i hi => by rw [sm_k1 hi]; exact ⟨sm_al1 (⟨"TwoWayGrammar", sc_T0, 16, "TwoWayGrammar", rfl, by decide, sc_in0, sm_mem 559 (by decide +kernel), Or.inl rfl⟩), trivial⟩,
  List.forall_mem_cons.mpr ⟨fun pc i hi => by rw [sm_k6 hi]; exact ⟨⟨"no such fuel", sc_sx_mem 18 (by decide +kernel)⟩, trivial⟩,
  List.forall_mem_cons.mpr ⟨fun pc i hi => by rw [sm_k1 hi]; exact ⟨sm_al1 (⟨"TwoWayGrammar", sc_T0, 16, "TwoWayGrammar", rfl, by decide, sc_in0, sm_mem 561 (by decide +kernel), Or.inl rfl⟩), trivial⟩,
  List.forall_mem_cons.mpr ⟨fun pc i hi => by rw [sm_k11 hi]; exact ⟨trivial, sm_pk1 (⟨"TwoWayGrammar$Growing", sc_T9, 8, rfl, sm_mem 1462 (by decide +kernel), sm_mem 110 (by decide +kernel), Or.inl ⟨sm_mem 1461 (by decide +kernel), sm_mem 1463 (by decide +kernel), by decide +kernel⟩⟩)⟩,
  List.forall_mem_cons.mpr ⟨fun pc i hi => by rw [sm_k11 hi]; exact ⟨trivial, sm_pk1 (⟨"TwoWayGrammar$Growing", sc_T9, 8, rfl, sm_mem 1176 (by decide +kernel), sm_mem 108 (by decide +kernel), Or.inr (Or.inr ⟨⟨"TwoWayGrammar$Growing", "walk", "()V"⟩, "TwoWayGrammar$Walk", sm_mem 1465 (by decide +kernel), sm_mem 1466 (by decide +kernel), ⟨by decide, by decide⟩, sm_mem 1467 (by decide +kernel), by decide +kernel, Or.inr ⟨sm_mem 1176 (by decide +kernel), prog_12_method_14_code, 1, none, sm_mem 1177 (by decide +kernel)⟩⟩)⟩)⟩,
  List.forall_mem_cons.mpr ⟨fun pc i hi => by rw [sm_k1 hi]; exact ⟨sm_al3 (⟨"TwoWayGrammar$Parsing", sc_T8, 12, "TwoWayGrammar$Growing", rfl, by decide, sc_in8, sm_mem 466 (by decide +kernel), Or.inr (sm_mem 467 (by decide +kernel))⟩) (⟨"TwoWayGrammar$Growing", sc_T9, 8, "TwoWayGrammar$Growing", rfl, by decide, sc_in9, sm_mem 466 (by decide +kernel), Or.inr (sm_mem 467 (by decide +kernel))⟩) (⟨"TwoWayGrammar$Printing", sc_T10, 13, "TwoWayGrammar$Growing", rfl, by decide, sc_in10, sm_mem 466 (by decide +kernel), Or.inr (sm_mem 467 (by decide +kernel))⟩), trivial⟩,
  List.forall_mem_cons.mpr ⟨fun pc i hi => by rw [sm_k4 hi]; exact ⟨trivial, trivial⟩,
  fun _ h => absurd h List.not_mem_nil⟩⟩⟩⟩⟩⟩⟩⟩⟩⟩⟩⟩⟩⟩⟩⟩⟩⟩⟩⟩
def sp_12_3 : List ((Nat × Nat) × List Nat) := [((6, 231), [1, 20]), ((1, 234), [1, 0, 7]), ((1, 237), [2, 0, 7]), ((11, 240), [0, 1, 7, 161]), ((1, 243), [3, 0, 7]), ((6, 246), [1, 21]), ((8, 248), [10000]), ((9, 250), [0, 163, 1]), ((11, 254), [0, 1, 2, 58]), ((9, 257), [0, 16, 3]), ((8, 285), [1073741824]), ((8, 287), [31]), ((8, 289), [26]), ((1, 100), [13, 0, 0]), ((11, 263), [0, 0, 10, 103]), ((1, 264), [12, 0, 10]), ((1, 24), [3, 0, 0]), ((11, 273), [0, 1, 1, 20]), ((11, 278), [0, 1, 7, 167])]
set_option maxRecDepth 20000 in
theorem sp_ok_12_3 {K : sm_H} (hK : sc_KOk K) (mn : String) : sm_poolOk sc_Ts sc_sx sc_zx sc_oc K sc_cl sc_Y "TwoWayGrammar" mn sp_12_3 :=
  List.forall_mem_cons.mpr ⟨fun pc i hi => by rw [sm_k6 hi]; exact ⟨⟨"no such node", sc_sx_mem 19 (by decide +kernel)⟩, trivial⟩,
  List.forall_mem_cons.mpr ⟨fun pc i hi => by rw [sm_k1 hi]; exact ⟨sm_al1 (⟨"TwoWayGrammar$Tree", sc_T7, 4, "TwoWayGrammar$Tree", rfl, by decide, sc_in7, sm_mem 405 (by decide +kernel), Or.inl rfl⟩), trivial⟩,
  List.forall_mem_cons.mpr ⟨fun pc i hi => by rw [sm_k1 hi]; exact ⟨sm_al1 (⟨"TwoWayGrammar$Tree", sc_T7, 4, "TwoWayGrammar$Tree", rfl, by decide, sc_in7, sm_mem 409 (by decide +kernel), Or.inl rfl⟩), trivial⟩,
  List.forall_mem_cons.mpr ⟨fun pc i hi => by rw [sm_k11 hi]; exact ⟨trivial, sm_pk1 (⟨"TwoWayGrammar$Tree", sc_T7, 4, rfl, sm_mem 1493 (by decide +kernel), sm_mem 107 (by decide +kernel), Or.inl ⟨sm_mem 1492 (by decide +kernel), sm_mem 1494 (by decide +kernel), by decide +kernel⟩⟩)⟩,
  List.forall_mem_cons.mpr ⟨fun pc i hi => by rw [sm_k1 hi]; exact ⟨sm_al1 (⟨"TwoWayGrammar$Tree", sc_T7, 4, "TwoWayGrammar$Tree", rfl, by decide, sc_in7, sm_mem 412 (by decide +kernel), Or.inl rfl⟩), trivial⟩,
  List.forall_mem_cons.mpr ⟨fun pc i hi => by rw [sm_k6 hi]; exact ⟨⟨"nothing that a node has", sc_sx_mem 20 (by decide +kernel)⟩, trivial⟩,
  List.forall_mem_cons.mpr ⟨fun pc i hi => by rw [sm_k8 hi]; exact ⟨sm_mem 1504 (by decide +kernel), trivial⟩,
  List.forall_mem_cons.mpr ⟨fun pc i hi => by rw [sm_k9 hi]; exact ⟨trivial, ⟨sm_mem 1506 (by decide +kernel), sm_mem 99 (by decide +kernel), by decide +kernel, Or.inl (sm_mem 1505 (by decide +kernel))⟩⟩,
  List.forall_mem_cons.mpr ⟨fun pc i hi => by rw [sm_k11 hi]; exact ⟨trivial, sm_pk1 (⟨"TwoWayGrammar$Grammar", sc_T2, 20, rfl, sm_mem 845 (by decide +kernel), sm_mem 102 (by decide +kernel), Or.inl ⟨sm_mem 1511 (by decide +kernel), sm_mem 846 (by decide +kernel), by decide +kernel⟩⟩)⟩,
  List.forall_mem_cons.mpr ⟨fun pc i hi => by rw [sm_k9 hi]; exact ⟨trivial, ⟨sm_mem 615 (by decide +kernel), sm_mem 99 (by decide +kernel), by decide +kernel, Or.inl (sm_mem 1512 (by decide +kernel))⟩⟩,
  List.forall_mem_cons.mpr ⟨fun pc i hi => by rw [sm_k8 hi]; exact ⟨sm_mem 1508 (by decide +kernel), trivial⟩,
  List.forall_mem_cons.mpr ⟨fun pc i hi => by rw [sm_k8 hi]; exact ⟨sm_mem 1509 (by decide +kernel), trivial⟩,
  List.forall_mem_cons.mpr ⟨fun pc i hi => by rw [sm_k8 hi]; exact ⟨sm_mem 1510 (by decide +kernel), trivial⟩,
  List.forall_mem_cons.mpr ⟨fun pc i hi => by rw [sm_k1 hi]; exact ⟨sm_al1 (⟨"TwoWayGrammar", sc_T0, 16, "TwoWayGrammar", rfl, by decide, sc_in0, sm_mem 562 (by decide +kernel), Or.inl rfl⟩), trivial⟩,
  List.forall_mem_cons.mpr ⟨fun pc i hi => by rw [sm_k11 hi]; exact ⟨trivial, sm_pk1 (⟨"TwoWayGrammar$Printing", sc_T10, 13, rfl, sm_mem 1176 (by decide +kernel), sm_mem 108 (by decide +kernel), Or.inr (Or.inr ⟨⟨"TwoWayGrammar$Printing", "walk", "()V"⟩, "TwoWayGrammar$Walk", sm_mem 1521 (by decide +kernel), sm_mem 1522 (by decide +kernel), ⟨by decide, by decide⟩, sm_mem 1523 (by decide +kernel), by decide +kernel, Or.inr ⟨sm_mem 1176 (by decide +kernel), prog_12_method_14_code, 1, none, sm_mem 1177 (by decide +kernel)⟩⟩)⟩)⟩,
  List.forall_mem_cons.mpr ⟨fun pc i hi => by rw [sm_k1 hi]; exact ⟨sm_al1 (⟨"TwoWayGrammar$Printing", sc_T10, 13, "TwoWayGrammar$Printing", rfl, by decide, sc_in10, sm_mem 527 (by decide +kernel), Or.inl rfl⟩), trivial⟩,
  List.forall_mem_cons.mpr ⟨fun pc i hi => by rw [sm_k1 hi]; exact ⟨sm_al1 (⟨"TwoWayGrammar", sc_T0, 16, "TwoWayGrammar", rfl, by decide, sc_in0, sm_mem 552 (by decide +kernel), Or.inl rfl⟩), trivial⟩,
  List.forall_mem_cons.mpr ⟨fun pc i hi => by rw [sm_k11 hi]; exact ⟨trivial, sm_pk1 (⟨"TwoWayGrammar$Text", sc_T1, 2, rfl, sm_mem 630 (by decide +kernel), sm_mem 100 (by decide +kernel), Or.inl ⟨sm_mem 1533 (by decide +kernel), sm_mem 631 (by decide +kernel), by decide +kernel⟩⟩)⟩,
  List.forall_mem_cons.mpr ⟨fun pc i hi => by rw [sm_k11 hi]; exact ⟨trivial, sm_pk1 (⟨"TwoWayGrammar$Tree", sc_T7, 4, rfl, sm_mem 1543 (by decide +kernel), sm_mem 107 (by decide +kernel), Or.inl ⟨sm_mem 1542 (by decide +kernel), sm_mem 1544 (by decide +kernel), by decide +kernel⟩⟩)⟩,
  fun _ h => absurd h List.not_mem_nil⟩⟩⟩⟩⟩⟩⟩⟩⟩⟩⟩⟩⟩⟩⟩⟩⟩⟩⟩
def sp_12 : List ((Nat × Nat) × List Nat) := sp_12_0 ++ sp_12_1 ++ sp_12_2 ++ sp_12_3
theorem sp_ok_12 {K : sm_H} (hK : sc_KOk K) (mn : String) : sm_poolOk sc_Ts sc_sx sc_zx sc_oc K sc_cl sc_Y "TwoWayGrammar" mn sp_12 := by
  intro e he
  simp only [sp_12, List.mem_append] at he
  rcases he with he | he
  rotate_left
  · exact sp_ok_12_3 hK mn e he
  rcases he with he | he
  rotate_left
  · exact sp_ok_12_2 hK mn e he
  rcases he with he | he
  rotate_left
  · exact sp_ok_12_1 hK mn e he
  exact sp_ok_12_0 hK mn e he
def sp_13_0 : List ((Nat × Nat) × List Nat) := [((2, 21), [0, 0, 0, 7]), ((1, 21), [0, 0, 7]), ((1, 9), [1, 0, 7]), ((9, 29), [0, 49, 2]), ((9, 25), [0, 16, 3]), ((1, 15), [2, 0, 7]), ((1, 18), [3, 0, 7]), ((11, 33), [0, 2, 7, 154]), ((9, 37), [0, 155, 3]), ((9, 40), [0, 168, 2])]
set_option maxRecDepth 20000 in
theorem sp_ok_13_0 {K : sm_H} (hK : sc_KOk K) (mn : String) : sm_poolOk sc_Ts sc_sx sc_zx sc_oc K sc_cl sc_Y "TwoWayGrammar$Tree" mn sp_13_0 :=
  List.forall_mem_cons.mpr ⟨fun pc i hi => by rw [sm_k2 hi]; exact ⟨sm_al1 (⟨"TwoWayGrammar$Tree", sc_T7, 4, "TwoWayGrammar$Tree", sc_ty7, rfl, by decide, sc_in7, sm_mem 401 (by decide +kernel), Or.inl rfl, sc_tyok7, sc_nm7, Or.inl rfl, Or.inl ⟨rfl, rfl⟩⟩), trivial⟩,
  List.forall_mem_cons.mpr ⟨fun pc i hi => by rw [sm_k1 hi]; exact ⟨sm_al1 (⟨"TwoWayGrammar$Tree", sc_T7, 4, "TwoWayGrammar$Tree", rfl, by decide, sc_in7, sm_mem 401 (by decide +kernel), Or.inl rfl⟩), trivial⟩,
  List.forall_mem_cons.mpr ⟨fun pc i hi => by rw [sm_k1 hi]; exact ⟨sm_al1 (⟨"TwoWayGrammar$Tree", sc_T7, 4, "TwoWayGrammar$Tree", rfl, by decide, sc_in7, sm_mem 404 (by decide +kernel), Or.inl rfl⟩), trivial⟩,
  List.forall_mem_cons.mpr ⟨fun pc i hi => by rw [sm_k9 hi]; exact ⟨trivial, ⟨sm_mem 809 (by decide +kernel), sm_mem 99 (by decide +kernel), by decide +kernel, Or.inr ⟨"TwoWayGrammar", sc_nx_mem 19 (by decide +kernel)⟩⟩⟩,
  List.forall_mem_cons.mpr ⟨fun pc i hi => by rw [sm_k9 hi]; exact ⟨trivial, ⟨sm_mem 615 (by decide +kernel), sm_mem 99 (by decide +kernel), by decide +kernel, Or.inr ⟨"TwoWayGrammar", sc_nx_mem 20 (by decide +kernel)⟩⟩⟩,
  List.forall_mem_cons.mpr ⟨fun pc i hi => by rw [sm_k1 hi]; exact ⟨sm_al1 (⟨"TwoWayGrammar$Tree", sc_T7, 4, "TwoWayGrammar$Tree", rfl, by decide, sc_in7, sm_mem 406 (by decide +kernel), Or.inl rfl⟩), trivial⟩,
  List.forall_mem_cons.mpr ⟨fun pc i hi => by rw [sm_k1 hi]; exact ⟨sm_al1 (⟨"TwoWayGrammar$Tree", sc_T7, 4, "TwoWayGrammar$Tree", rfl, by decide, sc_in7, sm_mem 411 (by decide +kernel), Or.inl rfl⟩), trivial⟩,
  List.forall_mem_cons.mpr ⟨fun pc i hi => by rw [sm_k11 hi]; exact ⟨trivial, sm_pk1 (⟨"TwoWayGrammar$Tree", sc_T7, 4, rfl, sm_mem 1423 (by decide +kernel), sm_mem 107 (by decide +kernel), Or.inl ⟨sm_mem 1421 (by decide +kernel), sm_mem 46 (by decide +kernel), by decide +kernel⟩⟩)⟩,
  List.forall_mem_cons.mpr ⟨fun pc i hi => by rw [sm_k9 hi]; exact ⟨trivial, ⟨sm_mem 1426 (by decide +kernel), sm_mem 107 (by decide +kernel), by decide +kernel, Or.inl (sm_mem 1425 (by decide +kernel))⟩⟩,
  List.forall_mem_cons.mpr ⟨fun pc i hi => by rw [sm_k9 hi]; exact ⟨trivial, ⟨sm_mem 1547 (by decide +kernel), sm_mem 126 (by decide +kernel), by decide +kernel, Or.inl (sm_mem 1546 (by decide +kernel))⟩⟩,
  fun _ h => absurd h List.not_mem_nil⟩⟩⟩⟩⟩⟩⟩⟩⟩⟩
def sp_13 : List ((Nat × Nat) × List Nat) := sp_13_0
theorem sp_ok_13 {K : sm_H} (hK : sc_KOk K) (mn : String) : sm_poolOk sc_Ts sc_sx sc_zx sc_oc K sc_cl sc_Y "TwoWayGrammar$Tree" mn sp_13 := by
  intro e he
  exact sp_ok_13_0 hK mn e he
def sp_14_0 : List ((Nat × Nat) × List Nat) := [((1, 15), [1, 0, 3]), ((11, 19), [0, 0, 2, 15]), ((2, 24), [2, 0, 0, 3]), ((2, 28), [3, 0, 0, 3]), ((1, 9), [0, 0, 3]), ((11, 31), [0, 0, 4, 17]), ((1, 24), [2, 0, 3]), ((1, 36), [3, 0, 4]), ((11, 39), [0, 0, 3, 46]), ((11, 43), [0, 1, 3, 51]), ((11, 47), [0, 2, 3, 52]), ((11, 51), [0, 0, 3, 64]), ((1, 28), [3, 0, 3]), ((1, 54), [2, 0, 4]), ((11, 57), [0, 2, 3, 47]), ((1, 63), [4, 0, 4]), ((11, 66), [0, 1, 2, 48]), ((1, 70), [0, 0, 2]), ((11, 73), [0, 2, 2, 50]), ((11, 60), [0, 0, 4, 18])]
set_option maxRecDepth 20000 in
theorem sp_ok_14_0 {K : sm_H} (hK : sc_KOk K) (mn : String) : sm_poolOk sc_Ts sc_sx sc_zx sc_oc K sc_cl sc_Y "TwoWayGrammar$Reader" mn sp_14_0 :=
  List.forall_mem_cons.mpr ⟨fun pc i hi => by rw [sm_k1 hi]; exact ⟨sm_al1 (⟨"TwoWayGrammar$Reader", sc_T3, 4, "TwoWayGrammar$Reader", rfl, by decide, sc_in3, sm_mem 299 (by decide +kernel), Or.inl rfl⟩), trivial⟩,
  List.forall_mem_cons.mpr ⟨fun pc i hi => by rw [sm_k11 hi]; exact ⟨trivial, sm_pk1 (⟨"TwoWayGrammar$Grammar", sc_T2, 20, rfl, sm_mem 611 (by decide +kernel), sm_mem 102 (by decide +kernel), Or.inl ⟨sm_mem 610 (by decide +kernel), sm_mem 612 (by decide +kernel), by decide +kernel⟩⟩)⟩,
  List.forall_mem_cons.mpr ⟨fun pc i hi => by rw [sm_k2 hi]; exact ⟨sm_al1 (⟨"TwoWayGrammar$Reader", sc_T3, 4, "TwoWayGrammar$Reader", sc_ty3, rfl, by decide, sc_in3, sm_mem 300 (by decide +kernel), Or.inl rfl, sc_tyok3, sc_nm3, Or.inl rfl, Or.inl ⟨rfl, rfl⟩⟩), trivial⟩,
  List.forall_mem_cons.mpr ⟨fun pc i hi => by rw [sm_k2 hi]; exact ⟨sm_al1 (⟨"TwoWayGrammar$Reader", sc_T3, 4, "TwoWayGrammar$Reader", sc_ty3, rfl, by decide, sc_in3, sm_mem 301 (by decide +kernel), Or.inl rfl, sc_tyok3, sc_nm3, Or.inl rfl, Or.inl ⟨rfl, rfl⟩⟩), trivial⟩,
  List.forall_mem_cons.mpr ⟨fun pc i hi => by rw [sm_k1 hi]; exact ⟨sm_al1 (⟨"TwoWayGrammar$Reader", sc_T3, 4, "TwoWayGrammar$Reader", rfl, by decide, sc_in3, sm_mem 298 (by decide +kernel), Or.inl rfl⟩), trivial⟩,
  List.forall_mem_cons.mpr ⟨fun pc i hi => by rw [sm_k11 hi]; exact ⟨trivial, sm_pk1 (⟨"TwoWayGrammar$Tokens", sc_T4, 5, rfl, sm_mem 618 (by decide +kernel), sm_mem 104 (by decide +kernel), Or.inl ⟨sm_mem 617 (by decide +kernel), sm_mem 619 (by decide +kernel), by decide +kernel⟩⟩)⟩,
  List.forall_mem_cons.mpr ⟨fun pc i hi => by rw [sm_k1 hi]; exact ⟨sm_al1 (⟨"TwoWayGrammar$Reader", sc_T3, 4, "TwoWayGrammar$Reader", rfl, by decide, sc_in3, sm_mem 300 (by decide +kernel), Or.inl rfl⟩), trivial⟩,
  List.forall_mem_cons.mpr ⟨fun pc i hi => by rw [sm_k1 hi]; exact ⟨sm_al1 (⟨"TwoWayGrammar$Tokens", sc_T4, 5, "TwoWayGrammar$Tokens", rfl, by decide, sc_in4, sm_mem 279 (by decide +kernel), Or.inl rfl⟩), trivial⟩,
  List.forall_mem_cons.mpr ⟨fun pc i hi => by rw [sm_k11 hi]; exact ⟨trivial, sm_pk1 (⟨"TwoWayGrammar$Reader", sc_T3, 4, rfl, sm_mem 798 (by decide +kernel), sm_mem 103 (by decide +kernel), Or.inl ⟨sm_mem 796 (by decide +kernel), sm_mem 4 (by decide +kernel), by decide +kernel⟩⟩)⟩,
  List.forall_mem_cons.mpr ⟨fun pc i hi => by rw [sm_k11 hi]; exact ⟨trivial, sm_pk1 (⟨"TwoWayGrammar$Reader", sc_T3, 4, rfl, sm_mem 818 (by decide +kernel), sm_mem 103 (by decide +kernel), Or.inl ⟨sm_mem 816 (by decide +kernel), sm_mem 6 (by decide +kernel), by decide +kernel⟩⟩)⟩,
  List.forall_mem_cons.mpr ⟨fun pc i hi => by rw [sm_k11 hi]; exact ⟨trivial, sm_pk1 (⟨"TwoWayGrammar$Reader", sc_T3, 4, rfl, sm_mem 822 (by decide +kernel), sm_mem 103 (by decide +kernel), Or.inl ⟨sm_mem 820 (by decide +kernel), sm_mem 7 (by decide +kernel), by decide +kernel⟩⟩)⟩,
  List.forall_mem_cons.mpr ⟨fun pc i hi => by rw [sm_k11 hi]; exact ⟨trivial, sm_pk1 (⟨"TwoWayGrammar$Reader", sc_T3, 4, rfl, sm_mem 872 (by decide +kernel), sm_mem 103 (by decide +kernel), Or.inl ⟨sm_mem 870 (by decide +kernel), sm_mem 12 (by decide +kernel), by decide +kernel⟩⟩)⟩,
  List.forall_mem_cons.mpr ⟨fun pc i hi => by rw [sm_k1 hi]; exact ⟨sm_al1 (⟨"TwoWayGrammar$Reader", sc_T3, 4, "TwoWayGrammar$Reader", rfl, by decide, sc_in3, sm_mem 301 (by decide +kernel), Or.inl rfl⟩), trivial⟩,
  List.forall_mem_cons.mpr ⟨fun pc i hi => by rw [sm_k1 hi]; exact ⟨sm_al1 (⟨"TwoWayGrammar$Tokens", sc_T4, 5, "TwoWayGrammar$Tokens", rfl, by decide, sc_in4, sm_mem 278 (by decide +kernel), Or.inl rfl⟩), trivial⟩,
  List.forall_mem_cons.mpr ⟨fun pc i hi => by rw [sm_k11 hi]; exact ⟨trivial, sm_pk1 (⟨"TwoWayGrammar$Reader", sc_T3, 4, rfl, sm_mem 802 (by decide +kernel), sm_mem 103 (by decide +kernel), Or.inl ⟨sm_mem 800 (by decide +kernel), sm_mem 5 (by decide +kernel), by decide +kernel⟩⟩)⟩,
  List.forall_mem_cons.mpr ⟨fun pc i hi => by rw [sm_k1 hi]; exact ⟨sm_al1 (⟨"TwoWayGrammar$Tokens", sc_T4, 5, "TwoWayGrammar$Tokens", rfl, by decide, sc_in4, sm_mem 282 (by decide +kernel), Or.inl rfl⟩), trivial⟩,
  List.forall_mem_cons.mpr ⟨fun pc i hi => by rw [sm_k11 hi]; exact ⟨trivial, sm_pk1 (⟨"TwoWayGrammar$Grammar", sc_T2, 20, rfl, sm_mem 805 (by decide +kernel), sm_mem 102 (by decide +kernel), Or.inl ⟨sm_mem 804 (by decide +kernel), sm_mem 806 (by decide +kernel), by decide +kernel⟩⟩)⟩,
  List.forall_mem_cons.mpr ⟨fun pc i hi => by rw [sm_k1 hi]; exact ⟨sm_al1 (⟨"TwoWayGrammar$Grammar", sc_T2, 20, "TwoWayGrammar$Grammar", rfl, by decide, sc_in2, sm_mem 160 (by decide +kernel), Or.inl rfl⟩), trivial⟩,
  List.forall_mem_cons.mpr ⟨fun pc i hi => by rw [sm_k11 hi]; exact ⟨trivial, sm_pk1 (⟨"TwoWayGrammar$Grammar", sc_T2, 20, rfl, sm_mem 812 (by decide +kernel), sm_mem 102 (by decide +kernel), Or.inl ⟨sm_mem 811 (by decide +kernel), sm_mem 813 (by decide +kernel), by decide +kernel⟩⟩)⟩,
  List.forall_mem_cons.mpr ⟨fun pc i hi => by rw [sm_k11 hi]; exact ⟨trivial, sm_pk1 (⟨"TwoWayGrammar$Tokens", sc_T4, 5, rfl, sm_mem 622 (by decide +kernel), sm_mem 104 (by decide +kernel), Or.inl ⟨sm_mem 815 (by decide +kernel), sm_mem 623 (by decide +kernel), by decide +kernel⟩⟩)⟩,
  fun _ h => absurd h List.not_mem_nil⟩⟩⟩⟩⟩⟩⟩⟩⟩⟩⟩⟩⟩⟩⟩⟩⟩⟩⟩⟩
def sp_14_1 : List ((Nat × Nat) × List Nat) := [((11, 77), [0, 3, 2, 53]), ((11, 81), [0, 2, 3, 54]), ((11, 84), [0, 3, 3, 55]), ((1, 87), [17, 0, 2]), ((9, 91), [0, 16, 3]), ((11, 95), [0, 0, 4, 56]), ((11, 99), [0, 1, 3, 57]), ((11, 103), [0, 1, 3, 59]), ((11, 106), [0, 3, 2, 63]), ((1, 110), [15, 0, 2]), ((1, 113), [16, 0, 2]), ((11, 116), [0, 1, 2, 58]), ((1, 119), [10, 0, 2]), ((1, 122), [18, 0, 2]), ((11, 125), [0, 3, 2, 60]), ((1, 128), [12, 0, 2]), ((11, 131), [0, 1, 2, 61]), ((11, 134), [0, 0, 2, 62]), ((1, 137), [11, 0, 2]), ((9, 140), [0, 49, 2])]
set_option maxRecDepth 20000 in
theorem sp_ok_14_1 {K : sm_H} (hK : sc_KOk K) (mn : String) : sm_poolOk sc_Ts sc_sx sc_zx sc_oc K sc_cl sc_Y "TwoWayGrammar$Reader" mn sp_14_1 :=
  List.forall_mem_cons.mpr ⟨fun pc i hi => by rw [sm_k11 hi]; exact ⟨trivial, sm_pk1 (⟨"TwoWayGrammar$Grammar", sc_T2, 20, rfl, sm_mem 825 (by decide +kernel), sm_mem 102 (by decide +kernel), Or.inl ⟨sm_mem 824 (by decide +kernel), sm_mem 826 (by decide +kernel), by decide +kernel⟩⟩)⟩,
  List.forall_mem_cons.mpr ⟨fun pc i hi => by rw [sm_k11 hi]; exact ⟨trivial, sm_pk1 (⟨"TwoWayGrammar$Reader", sc_T3, 4, rfl, sm_mem 830 (by decide +kernel), sm_mem 103 (by decide +kernel), Or.inl ⟨sm_mem 828 (by decide +kernel), sm_mem 8 (by decide +kernel), by decide +kernel⟩⟩)⟩,
  List.forall_mem_cons.mpr ⟨fun pc i hi => by rw [sm_k11 hi]; exact ⟨trivial, sm_pk1 (⟨"TwoWayGrammar$Reader", sc_T3, 4, rfl, sm_mem 834 (by decide +kernel), sm_mem 103 (by decide +kernel), Or.inl ⟨sm_mem 832 (by decide +kernel), sm_mem 9 (by decide +kernel), by decide +kernel⟩⟩)⟩,
  List.forall_mem_cons.mpr ⟨fun pc i hi => by rw [sm_k1 hi]; exact ⟨sm_al1 (⟨"TwoWayGrammar$Grammar", sc_T2, 20, "TwoWayGrammar$Grammar", rfl, by decide, sc_in2, sm_mem 218 (by decide +kernel), Or.inl rfl⟩), trivial⟩,
  List.forall_mem_cons.mpr ⟨fun pc i hi => by rw [sm_k9 hi]; exact ⟨trivial, ⟨sm_mem 615 (by decide +kernel), sm_mem 99 (by decide +kernel), by decide +kernel, Or.inr ⟨"TwoWayGrammar", sc_nx_mem 11 (by decide +kernel)⟩⟩⟩,
  List.forall_mem_cons.mpr ⟨fun pc i hi => by rw [sm_k11 hi]; exact ⟨trivial, sm_pk1 (⟨"TwoWayGrammar$Tokens", sc_T4, 5, rfl, sm_mem 837 (by decide +kernel), sm_mem 104 (by decide +kernel), Or.inl ⟨sm_mem 836 (by decide +kernel), sm_mem 838 (by decide +kernel), by decide +kernel⟩⟩)⟩,
  List.forall_mem_cons.mpr ⟨fun pc i hi => by rw [sm_k11 hi]; exact ⟨trivial, sm_pk1 (⟨"TwoWayGrammar$Reader", sc_T3, 4, rfl, sm_mem 842 (by decide +kernel), sm_mem 103 (by decide +kernel), Or.inl ⟨sm_mem 840 (by decide +kernel), sm_mem 10 (by decide +kernel), by decide +kernel⟩⟩)⟩,
  List.forall_mem_cons.mpr ⟨fun pc i hi => by rw [sm_k11 hi]; exact ⟨trivial, sm_pk1 (⟨"TwoWayGrammar$Reader", sc_T3, 4, rfl, sm_mem 850 (by decide +kernel), sm_mem 103 (by decide +kernel), Or.inl ⟨sm_mem 848 (by decide +kernel), sm_mem 11 (by decide +kernel), by decide +kernel⟩⟩)⟩,
  List.forall_mem_cons.mpr ⟨fun pc i hi => by rw [sm_k11 hi]; exact ⟨trivial, sm_pk1 (⟨"TwoWayGrammar$Grammar", sc_T2, 20, rfl, sm_mem 867 (by decide +kernel), sm_mem 102 (by decide +kernel), Or.inl ⟨sm_mem 866 (by decide +kernel), sm_mem 868 (by decide +kernel), by decide +kernel⟩⟩)⟩,
  List.forall_mem_cons.mpr ⟨fun pc i hi => by rw [sm_k1 hi]; exact ⟨sm_al1 (⟨"TwoWayGrammar$Grammar", sc_T2, 20, "TwoWayGrammar$Grammar", rfl, by decide, sc_in2, sm_mem 212 (by decide +kernel), Or.inl rfl⟩), trivial⟩,
  List.forall_mem_cons.mpr ⟨fun pc i hi => by rw [sm_k1 hi]; exact ⟨sm_al1 (⟨"TwoWayGrammar$Grammar", sc_T2, 20, "TwoWayGrammar$Grammar", rfl, by decide, sc_in2, sm_mem 216 (by decide +kernel), Or.inl rfl⟩), trivial⟩,
  List.forall_mem_cons.mpr ⟨fun pc i hi => by rw [sm_k11 hi]; exact ⟨trivial, sm_pk1 (⟨"TwoWayGrammar$Grammar", sc_T2, 20, rfl, sm_mem 845 (by decide +kernel), sm_mem 102 (by decide +kernel), Or.inl ⟨sm_mem 844 (by decide +kernel), sm_mem 846 (by decide +kernel), by decide +kernel⟩⟩)⟩,
  List.forall_mem_cons.mpr ⟨fun pc i hi => by rw [sm_k1 hi]; exact ⟨sm_al1 (⟨"TwoWayGrammar$Grammar", sc_T2, 20, "TwoWayGrammar$Grammar", rfl, by decide, sc_in2, sm_mem 190 (by decide +kernel), Or.inl rfl⟩), trivial⟩,
  List.forall_mem_cons.mpr ⟨fun pc i hi => by rw [sm_k1 hi]; exact ⟨sm_al1 (⟨"TwoWayGrammar$Grammar", sc_T2, 20, "TwoWayGrammar$Grammar", rfl, by decide, sc_in2, sm_mem 221 (by decide +kernel), Or.inl rfl⟩), trivial⟩,
  List.forall_mem_cons.mpr ⟨fun pc i hi => by rw [sm_k11 hi]; exact ⟨trivial, sm_pk1 (⟨"TwoWayGrammar$Grammar", sc_T2, 20, rfl, sm_mem 853 (by decide +kernel), sm_mem 102 (by decide +kernel), Or.inl ⟨sm_mem 852 (by decide +kernel), sm_mem 854 (by decide +kernel), by decide +kernel⟩⟩)⟩,
  List.forall_mem_cons.mpr ⟨fun pc i hi => by rw [sm_k1 hi]; exact ⟨sm_al1 (⟨"TwoWayGrammar$Grammar", sc_T2, 20, "TwoWayGrammar$Grammar", rfl, by decide, sc_in2, sm_mem 201 (by decide +kernel), Or.inl rfl⟩), trivial⟩,
  List.forall_mem_cons.mpr ⟨fun pc i hi => by rw [sm_k11 hi]; exact ⟨trivial, sm_pk1 (⟨"TwoWayGrammar$Grammar", sc_T2, 20, rfl, sm_mem 857 (by decide +kernel), sm_mem 102 (by decide +kernel), Or.inl ⟨sm_mem 856 (by decide +kernel), sm_mem 858 (by decide +kernel), by decide +kernel⟩⟩)⟩,
  List.forall_mem_cons.mpr ⟨fun pc i hi => by rw [sm_k11 hi]; exact ⟨trivial, sm_pk1 (⟨"TwoWayGrammar$Grammar", sc_T2, 20, rfl, sm_mem 863 (by decide +kernel), sm_mem 102 (by decide +kernel), Or.inl ⟨sm_mem 862 (by decide +kernel), sm_mem 864 (by decide +kernel), by decide +kernel⟩⟩)⟩,
  List.forall_mem_cons.mpr ⟨fun pc i hi => by rw [sm_k1 hi]; exact ⟨sm_al1 (⟨"TwoWayGrammar$Grammar", sc_T2, 20, "TwoWayGrammar$Grammar", rfl, by decide, sc_in2, sm_mem 196 (by decide +kernel), Or.inl rfl⟩), trivial⟩,
  List.forall_mem_cons.mpr ⟨fun pc i hi => by rw [sm_k9 hi]; exact ⟨trivial, ⟨sm_mem 809 (by decide +kernel), sm_mem 99 (by decide +kernel), by decide +kernel, Or.inr ⟨"TwoWayGrammar", sc_nx_mem 12 (by decide +kernel)⟩⟩⟩,
  fun _ h => absurd h List.not_mem_nil⟩⟩⟩⟩⟩⟩⟩⟩⟩⟩⟩⟩⟩⟩⟩⟩⟩⟩⟩⟩
def sp_14_2 : List ((Nat × Nat) × List Nat) := [((1, 144), [13, 0, 2])]
set_option maxRecDepth 20000 in
theorem sp_ok_14_2 {K : sm_H} (hK : sc_KOk K) (mn : String) : sm_poolOk sc_Ts sc_sx sc_zx sc_oc K sc_cl sc_Y "TwoWayGrammar$Reader" mn sp_14_2 :=
  List.forall_mem_cons.mpr ⟨fun pc i hi => by rw [sm_k1 hi]; exact ⟨sm_al1 (⟨"TwoWayGrammar$Grammar", sc_T2, 20, "TwoWayGrammar$Grammar", rfl, by decide, sc_in2, sm_mem 205 (by decide +kernel), Or.inl rfl⟩), trivial⟩,
  fun _ h => absurd h List.not_mem_nil⟩
def sp_14 : List ((Nat × Nat) × List Nat) := sp_14_0 ++ sp_14_1 ++ sp_14_2
theorem sp_ok_14 {K : sm_H} (hK : sc_KOk K) (mn : String) : sm_poolOk sc_Ts sc_sx sc_zx sc_oc K sc_cl sc_Y "TwoWayGrammar$Reader" mn sp_14 := by
  intro e he
  simp only [sp_14, List.mem_append] at he
  rcases he with he | he
  rotate_left
  · exact sp_ok_14_2 hK mn e he
  rcases he with he | he
  rotate_left
  · exact sp_ok_14_1 hK mn e he
  exact sp_ok_14_0 hK mn e he
def sp_15_0 : List ((Nat × Nat) × List Nat) := [((2, 57), [0, 0, 0, 2]), ((2, 61), [5, 0, 0, 2]), ((2, 64), [6, 0, 0, 2]), ((2, 67), [10, 0, 0, 2]), ((2, 70), [18, 0, 0, 2]), ((1, 18), [3, 0, 2]), ((9, 73), [0, 16, 3]), ((1, 21), [4, 0, 2]), ((1, 57), [0, 0, 2]), ((1, 9), [1, 0, 2]), ((9, 77), [0, 49, 2]), ((1, 15), [2, 0, 2]), ((1, 64), [6, 0, 2]), ((1, 24), [7, 0, 2]), ((1, 27), [8, 0, 2]), ((1, 30), [9, 0, 2]), ((1, 70), [18, 0, 2]), ((1, 54), [19, 0, 2]), ((1, 67), [10, 0, 2]), ((1, 33), [11, 0, 2])]
set_option maxRecDepth 20000 in
theorem sp_ok_15_0 {K : sm_H} (hK : sc_KOk K) (mn : String) : sm_poolOk sc_Ts sc_sx sc_zx sc_oc K sc_cl sc_Y "TwoWayGrammar$Grammar" mn sp_15_0 :=
  List.forall_mem_cons.mpr ⟨fun pc i hi => by rw [sm_k2 hi]; exact ⟨sm_al1 (⟨"TwoWayGrammar$Grammar", sc_T2, 20, "TwoWayGrammar$Grammar", sc_ty2, rfl, by decide, sc_in2, sm_mem 158 (by decide +kernel), Or.inl rfl, sc_tyok2, sc_nm2, Or.inl rfl, Or.inl ⟨rfl, rfl⟩⟩), trivial⟩,
  List.forall_mem_cons.mpr ⟨fun pc i hi => by rw [sm_k2 hi]; exact ⟨sm_al1 (⟨"TwoWayGrammar$Grammar", sc_T2, 20, "TwoWayGrammar$Grammar", sc_ty2, rfl, by decide, sc_in2, sm_mem 176 (by decide +kernel), Or.inl rfl, sc_tyok2, sc_nm2, Or.inl rfl, Or.inl ⟨rfl, rfl⟩⟩), trivial⟩,
  List.forall_mem_cons.mpr ⟨fun pc i hi => by rw [sm_k2 hi]; exact ⟨sm_al1 (⟨"TwoWayGrammar$Grammar", sc_T2, 20, "TwoWayGrammar$Grammar", sc_ty2, rfl, by decide, sc_in2, sm_mem 177 (by decide +kernel), Or.inl rfl, sc_tyok2, sc_nm2, Or.inl rfl, Or.inl ⟨rfl, rfl⟩⟩), trivial⟩,
  List.forall_mem_cons.mpr ⟨fun pc i hi => by rw [sm_k2 hi]; exact ⟨sm_al1 (⟨"TwoWayGrammar$Grammar", sc_T2, 20, "TwoWayGrammar$Grammar", sc_ty2, rfl, by decide, sc_in2, sm_mem 188 (by decide +kernel), Or.inl rfl, sc_tyok2, sc_nm2, Or.inl rfl, Or.inl ⟨rfl, rfl⟩⟩), trivial⟩,
  List.forall_mem_cons.mpr ⟨fun pc i hi => by rw [sm_k2 hi]; exact ⟨sm_al1 (⟨"TwoWayGrammar$Grammar", sc_T2, 20, "TwoWayGrammar$Grammar", sc_ty2, rfl, by decide, sc_in2, sm_mem 220 (by decide +kernel), Or.inl rfl, sc_tyok2, sc_nm2, Or.inl rfl, Or.inl ⟨rfl, rfl⟩⟩), trivial⟩,
  List.forall_mem_cons.mpr ⟨fun pc i hi => by rw [sm_k1 hi]; exact ⟨sm_al1 (⟨"TwoWayGrammar$Grammar", sc_T2, 20, "TwoWayGrammar$Grammar", rfl, by decide, sc_in2, sm_mem 165 (by decide +kernel), Or.inl rfl⟩), trivial⟩,
  List.forall_mem_cons.mpr ⟨fun pc i hi => by rw [sm_k9 hi]; exact ⟨trivial, ⟨sm_mem 615 (by decide +kernel), sm_mem 99 (by decide +kernel), by decide +kernel, Or.inr ⟨"TwoWayGrammar", sc_nx_mem 2 (by decide +kernel)⟩⟩⟩,
  List.forall_mem_cons.mpr ⟨fun pc i hi => by rw [sm_k1 hi]; exact ⟨sm_al1 (⟨"TwoWayGrammar$Grammar", sc_T2, 20, "TwoWayGrammar$Grammar", rfl, by decide, sc_in2, sm_mem 170 (by decide +kernel), Or.inl rfl⟩), trivial⟩,
  List.forall_mem_cons.mpr ⟨fun pc i hi => by rw [sm_k1 hi]; exact ⟨sm_al1 (⟨"TwoWayGrammar$Grammar", sc_T2, 20, "TwoWayGrammar$Grammar", rfl, by decide, sc_in2, sm_mem 158 (by decide +kernel), Or.inl rfl⟩), trivial⟩,
  List.forall_mem_cons.mpr ⟨fun pc i hi => by rw [sm_k1 hi]; exact ⟨sm_al1 (⟨"TwoWayGrammar$Grammar", sc_T2, 20, "TwoWayGrammar$Grammar", rfl, by decide, sc_in2, sm_mem 162 (by decide +kernel), Or.inl rfl⟩), trivial⟩,
  List.forall_mem_cons.mpr ⟨fun pc i hi => by rw [sm_k9 hi]; exact ⟨trivial, ⟨sm_mem 809 (by decide +kernel), sm_mem 99 (by decide +kernel), by decide +kernel, Or.inr ⟨"TwoWayGrammar", sc_nx_mem 10 (by decide +kernel)⟩⟩⟩,
  List.forall_mem_cons.mpr ⟨fun pc i hi => by rw [sm_k1 hi]; exact ⟨sm_al1 (⟨"TwoWayGrammar$Grammar", sc_T2, 20, "TwoWayGrammar$Grammar", rfl, by decide, sc_in2, sm_mem 163 (by decide +kernel), Or.inl rfl⟩), trivial⟩,
  List.forall_mem_cons.mpr ⟨fun pc i hi => by rw [sm_k1 hi]; exact ⟨sm_al1 (⟨"TwoWayGrammar$Grammar", sc_T2, 20, "TwoWayGrammar$Grammar", rfl, by decide, sc_in2, sm_mem 177 (by decide +kernel), Or.inl rfl⟩), trivial⟩,
  List.forall_mem_cons.mpr ⟨fun pc i hi => by rw [sm_k1 hi]; exact ⟨sm_al1 (⟨"TwoWayGrammar$Grammar", sc_T2, 20, "TwoWayGrammar$Grammar", rfl, by decide, sc_in2, sm_mem 178 (by decide +kernel), Or.inl rfl⟩), trivial⟩,
  List.forall_mem_cons.mpr ⟨fun pc i hi => by rw [sm_k1 hi]; exact ⟨sm_al1 (⟨"TwoWayGrammar$Grammar", sc_T2, 20, "TwoWayGrammar$Grammar", rfl, by decide, sc_in2, sm_mem 181 (by decide +kernel), Or.inl rfl⟩), trivial⟩,
  List.forall_mem_cons.mpr ⟨fun pc i hi => by rw [sm_k1 hi]; exact ⟨sm_al1 (⟨"TwoWayGrammar$Grammar", sc_T2, 20, "TwoWayGrammar$Grammar", rfl, by decide, sc_in2, sm_mem 186 (by decide +kernel), Or.inl rfl⟩), trivial⟩,
  List.forall_mem_cons.mpr ⟨fun pc i hi => by rw [sm_k1 hi]; exact ⟨sm_al1 (⟨"TwoWayGrammar$Grammar", sc_T2, 20, "TwoWayGrammar$Grammar", rfl, by decide, sc_in2, sm_mem 220 (by decide +kernel), Or.inl rfl⟩), trivial⟩,
  List.forall_mem_cons.mpr ⟨fun pc i hi => by rw [sm_k1 hi]; exact ⟨sm_al1 (⟨"TwoWayGrammar$Grammar", sc_T2, 20, "TwoWayGrammar$Grammar", rfl, by decide, sc_in2, sm_mem 223 (by decide +kernel), Or.inl rfl⟩), trivial⟩,
  List.forall_mem_cons.mpr ⟨fun pc i hi => by rw [sm_k1 hi]; exact ⟨sm_al1 (⟨"TwoWayGrammar$Grammar", sc_T2, 20, "TwoWayGrammar$Grammar", rfl, by decide, sc_in2, sm_mem 188 (by decide +kernel), Or.inl rfl⟩), trivial⟩,
  List.forall_mem_cons.mpr ⟨fun pc i hi => by rw [sm_k1 hi]; exact ⟨sm_al1 (⟨"TwoWayGrammar$Grammar", sc_T2, 20, "TwoWayGrammar$Grammar", rfl, by decide, sc_in2, sm_mem 192 (by decide +kernel), Or.inl rfl⟩), trivial⟩,
  fun _ h => absurd h List.not_mem_nil⟩⟩⟩⟩⟩⟩⟩⟩⟩⟩⟩⟩⟩⟩⟩⟩⟩⟩⟩⟩
end
section
def sp_15_1 : List ((Nat × Nat) × List Nat) := [((1, 36), [12, 0, 2]), ((1, 39), [13, 0, 2]), ((1, 42), [14, 0, 2]), ((1, 45), [15, 0, 2]), ((1, 48), [16, 0, 2]), ((1, 51), [17, 0, 2]), ((11, 81), [0, 1, 2, 58]), ((1, 61), [5, 0, 2])]
set_option maxRecDepth 20000 in
theorem sp_ok_15_1 {K : sm_H} (hK : sc_KOk K) (mn : String) : sm_poolOk sc_Ts sc_sx sc_zx sc_oc K sc_cl sc_Y "TwoWayGrammar$Grammar" mn sp_15_1 :=
  List.forall_mem_cons.mpr ⟨fun pc i hi => by rw [sm_k1 hi]; exact ⟨sm_al1 (⟨"TwoWayGrammar$Grammar", sc_T2, 20, "TwoWayGrammar$Grammar", rfl, by decide, sc_in2, sm_mem 198 (by decide +kernel), Or.inl rfl⟩), trivial⟩,
  List.forall_mem_cons.mpr ⟨fun pc i hi => by rw [sm_k1 hi]; exact ⟨sm_al1 (⟨"TwoWayGrammar$Grammar", sc_T2, 20, "TwoWayGrammar$Grammar", rfl, by decide, sc_in2, sm_mem 204 (by decide +kernel), Or.inl rfl⟩), trivial⟩,
  List.forall_mem_cons.mpr ⟨fun pc i hi => by rw [sm_k1 hi]; exact ⟨sm_al1 (⟨"TwoWayGrammar$Grammar", sc_T2, 20, "TwoWayGrammar$Grammar", rfl, by decide, sc_in2, sm_mem 206 (by decide +kernel), Or.inl rfl⟩), trivial⟩,
  List.forall_mem_cons.mpr ⟨fun pc i hi => by rw [sm_k1 hi]; exact ⟨sm_al1 (⟨"TwoWayGrammar$Grammar", sc_T2, 20, "TwoWayGrammar$Grammar", rfl, by decide, sc_in2, sm_mem 209 (by decide +kernel), Or.inl rfl⟩), trivial⟩,
  List.forall_mem_cons.mpr ⟨fun pc i hi => by rw [sm_k1 hi]; exact ⟨sm_al1 (⟨"TwoWayGrammar$Grammar", sc_T2, 20, "TwoWayGrammar$Grammar", rfl, by decide, sc_in2, sm_mem 214 (by decide +kernel), Or.inl rfl⟩), trivial⟩,
  List.forall_mem_cons.mpr ⟨fun pc i hi => by rw [sm_k1 hi]; exact ⟨sm_al1 (⟨"TwoWayGrammar$Grammar", sc_T2, 20, "TwoWayGrammar$Grammar", rfl, by decide, sc_in2, sm_mem 217 (by decide +kernel), Or.inl rfl⟩), trivial⟩,
  List.forall_mem_cons.mpr ⟨fun pc i hi => by rw [sm_k11 hi]; exact ⟨trivial, sm_pk1 (⟨"TwoWayGrammar$Grammar", sc_T2, 20, rfl, sm_mem 845 (by decide +kernel), sm_mem 102 (by decide +kernel), Or.inl ⟨sm_mem 860 (by decide +kernel), sm_mem 846 (by decide +kernel), by decide +kernel⟩⟩)⟩,
  List.forall_mem_cons.mpr ⟨fun pc i hi => by rw [sm_k1 hi]; exact ⟨sm_al1 (⟨"TwoWayGrammar$Grammar", sc_T2, 20, "TwoWayGrammar$Grammar", rfl, by decide, sc_in2, sm_mem 176 (by decide +kernel), Or.inl rfl⟩), trivial⟩,
  fun _ h => absurd h List.not_mem_nil⟩⟩⟩⟩⟩⟩⟩⟩
def sp_15 : List ((Nat × Nat) × List Nat) := sp_15_0 ++ sp_15_1
theorem sp_ok_15 {K : sm_H} (hK : sc_KOk K) (mn : String) : sm_poolOk sc_Ts sc_sx sc_zx sc_oc K sc_cl sc_Y "TwoWayGrammar$Grammar" mn sp_15 := by
  intro e he
  simp only [sp_15, List.mem_append] at he
  rcases he with he | he
  rotate_left
  · exact sp_ok_15_1 hK mn e he
  exact sp_ok_15_0 hK mn e he
def sp_16_0 : List ((Nat × Nat) × List Nat) := [((2, 15), [1, 0, 0, 4]), ((11, 19), [0, 0, 4, 18]), ((1, 9), [0, 0, 4]), ((1, 15), [1, 0, 4]), ((11, 22), [0, 1, 1, 19]), ((2, 28), [2, 0, 0, 4]), ((1, 28), [2, 0, 4]), ((2, 31), [4, 0, 0, 4]), ((11, 34), [0, 1, 1, 20]), ((11, 38), [0, 0, 1, 22]), ((2, 42), [3, 0, 0, 4]), ((9, 45), [0, 23, 1]), ((11, 49), [0, 0, 4, 24]), ((11, 52), [0, 0, 4, 33]), ((11, 55), [0, 0, 4, 35]), ((11, 58), [0, 1, 4, 39]), ((11, 62), [0, 1, 1, 25]), ((6, 65), [1, 1]), ((11, 67), [0, 3, 1, 26]), ((6, 71), [1, 2])]
set_option maxRecDepth 20000 in
theorem sp_ok_16_0 {K : sm_H} (hK : sc_KOk K) (mn : String) : sm_poolOk sc_Ts sc_sx sc_zx sc_oc K sc_cl sc_Y "TwoWayGrammar$Tokens" mn sp_16_0 :=
  List.forall_mem_cons.mpr ⟨fun pc i hi => by rw [sm_k2 hi]; exact ⟨sm_al1 (⟨"TwoWayGrammar$Tokens", sc_T4, 5, "TwoWayGrammar$Tokens", sc_ty4, rfl, by decide, sc_in4, sm_mem 276 (by decide +kernel), Or.inl rfl, sc_tyok4, sc_nm4, Or.inl rfl, Or.inl ⟨rfl, rfl⟩⟩), trivial⟩,
  List.forall_mem_cons.mpr ⟨fun pc i hi => by rw [sm_k11 hi]; exact ⟨trivial, sm_pk1 (⟨"TwoWayGrammar$Tokens", sc_T4, 5, rfl, sm_mem 622 (by decide +kernel), sm_mem 104 (by decide +kernel), Or.inl ⟨sm_mem 621 (by decide +kernel), sm_mem 623 (by decide +kernel), by decide +kernel⟩⟩)⟩,
  List.forall_mem_cons.mpr ⟨fun pc i hi => by rw [sm_k1 hi]; exact ⟨sm_al1 (⟨"TwoWayGrammar$Tokens", sc_T4, 5, "TwoWayGrammar$Tokens", rfl, by decide, sc_in4, sm_mem 275 (by decide +kernel), Or.inl rfl⟩), trivial⟩,
  List.forall_mem_cons.mpr ⟨fun pc i hi => by rw [sm_k1 hi]; exact ⟨sm_al1 (⟨"TwoWayGrammar$Tokens", sc_T4, 5, "TwoWayGrammar$Tokens", rfl, by decide, sc_in4, sm_mem 276 (by decide +kernel), Or.inl rfl⟩), trivial⟩,
  List.forall_mem_cons.mpr ⟨fun pc i hi => by rw [sm_k11 hi]; exact ⟨trivial, sm_pk1 (⟨"TwoWayGrammar$Text", sc_T1, 2, rfl, sm_mem 626 (by decide +kernel), sm_mem 100 (by decide +kernel), Or.inl ⟨sm_mem 625 (by decide +kernel), sm_mem 627 (by decide +kernel), by decide +kernel⟩⟩)⟩,
  List.forall_mem_cons.mpr ⟨fun pc i hi => by rw [sm_k2 hi]; exact ⟨sm_al1 (⟨"TwoWayGrammar$Tokens", sc_T4, 5, "TwoWayGrammar$Tokens", sc_ty4, rfl, by decide, sc_in4, sm_mem 277 (by decide +kernel), Or.inl rfl, sc_tyok4, sc_nm4, Or.inl rfl, Or.inl ⟨rfl, rfl⟩⟩), trivial⟩,
  List.forall_mem_cons.mpr ⟨fun pc i hi => by rw [sm_k1 hi]; exact ⟨sm_al1 (⟨"TwoWayGrammar$Tokens", sc_T4, 5, "TwoWayGrammar$Tokens", rfl, by decide, sc_in4, sm_mem 277 (by decide +kernel), Or.inl rfl⟩), trivial⟩,
  List.forall_mem_cons.mpr ⟨fun pc i hi => by rw [sm_k2 hi]; exact ⟨sm_al1 (⟨"TwoWayGrammar$Tokens", sc_T4, 5, "TwoWayGrammar$Tokens", sc_ty4, rfl, by decide, sc_in4, sm_mem 281 (by decide +kernel), Or.inl rfl, sc_tyok4, sc_nm4, Or.inl rfl, Or.inl ⟨rfl, rfl⟩⟩), trivial⟩,
  List.forall_mem_cons.mpr ⟨fun pc i hi => by rw [sm_k11 hi]; exact ⟨trivial, sm_pk1 (⟨"TwoWayGrammar$Text", sc_T1, 2, rfl, sm_mem 630 (by decide +kernel), sm_mem 100 (by decide +kernel), Or.inl ⟨sm_mem 636 (by decide +kernel), sm_mem 631 (by decide +kernel), by decide +kernel⟩⟩)⟩,
  List.forall_mem_cons.mpr ⟨fun pc i hi => by rw [sm_k11 hi]; exact ⟨trivial, sm_pk1 (⟨"TwoWayGrammar$Text", sc_T1, 2, rfl, sm_mem 638 (by decide +kernel), sm_mem 100 (by decide +kernel), Or.inl ⟨sm_mem 637 (by decide +kernel), sm_mem 639 (by decide +kernel), by decide +kernel⟩⟩)⟩,
  List.forall_mem_cons.mpr ⟨fun pc i hi => by rw [sm_k2 hi]; exact ⟨sm_al1 (⟨"TwoWayGrammar$Tokens", sc_T4, 5, "TwoWayGrammar$Tokens", sc_ty4, rfl, by decide, sc_in4, sm_mem 280 (by decide +kernel), Or.inl rfl, sc_tyok4, sc_nm4, Or.inl rfl, Or.inl ⟨rfl, rfl⟩⟩), trivial⟩,
  List.forall_mem_cons.mpr ⟨fun pc i hi => by rw [sm_k9 hi]; exact ⟨trivial, ⟨sm_mem 642 (by decide +kernel), sm_mem 99 (by decide +kernel), by decide +kernel, Or.inr ⟨"TwoWayGrammar", sc_nx_mem 4 (by decide +kernel)⟩⟩⟩,
  List.forall_mem_cons.mpr ⟨fun pc i hi => by rw [sm_k11 hi]; exact ⟨trivial, sm_pk1 (⟨"TwoWayGrammar$Tokens", sc_T4, 5, rfl, sm_mem 646 (by decide +kernel), sm_mem 104 (by decide +kernel), Or.inl ⟨sm_mem 644 (by decide +kernel), sm_mem 0 (by decide +kernel), by decide +kernel⟩⟩)⟩,
  List.forall_mem_cons.mpr ⟨fun pc i hi => by rw [sm_k11 hi]; exact ⟨trivial, sm_pk1 (⟨"TwoWayGrammar$Tokens", sc_T4, 5, rfl, sm_mem 714 (by decide +kernel), sm_mem 104 (by decide +kernel), Or.inl ⟨sm_mem 712 (by decide +kernel), sm_mem 1 (by decide +kernel), by decide +kernel⟩⟩)⟩,
  List.forall_mem_cons.mpr ⟨fun pc i hi => by rw [sm_k11 hi]; exact ⟨trivial, sm_pk1 (⟨"TwoWayGrammar$Tokens", sc_T4, 5, rfl, sm_mem 722 (by decide +kernel), sm_mem 104 (by decide +kernel), Or.inl ⟨sm_mem 720 (by decide +kernel), sm_mem 2 (by decide +kernel), by decide +kernel⟩⟩)⟩,
  List.forall_mem_cons.mpr ⟨fun pc i hi => by rw [sm_k11 hi]; exact ⟨trivial, sm_pk1 (⟨"TwoWayGrammar$Tokens", sc_T4, 5, rfl, sm_mem 736 (by decide +kernel), sm_mem 104 (by decide +kernel), Or.inl ⟨sm_mem 734 (by decide +kernel), sm_mem 3 (by decide +kernel), by decide +kernel⟩⟩)⟩,
  List.forall_mem_cons.mpr ⟨fun pc i hi => by rw [sm_k11 hi]; exact ⟨trivial, sm_pk1 (⟨"TwoWayGrammar$Text", sc_T1, 2, rfl, sm_mem 649 (by decide +kernel), sm_mem 100 (by decide +kernel), Or.inl ⟨sm_mem 648 (by decide +kernel), sm_mem 650 (by decide +kernel), by decide +kernel⟩⟩)⟩,
  List.forall_mem_cons.mpr ⟨fun pc i hi => by rw [sm_k6 hi]; exact ⟨⟨"number", sc_sx_mem 0 (by decide +kernel)⟩, trivial⟩,
  List.forall_mem_cons.mpr ⟨fun pc i hi => by rw [sm_k11 hi]; exact ⟨trivial, sm_pk1 (⟨"TwoWayGrammar$Text", sc_T1, 2, rfl, sm_mem 655 (by decide +kernel), sm_mem 100 (by decide +kernel), Or.inl ⟨sm_mem 654 (by decide +kernel), sm_mem 656 (by decide +kernel), by decide +kernel⟩⟩)⟩,
  List.forall_mem_cons.mpr ⟨fun pc i hi => by rw [sm_k6 hi]; exact ⟨⟨"name", sc_sx_mem 1 (by decide +kernel)⟩, trivial⟩,
  fun _ h => absurd h List.not_mem_nil⟩⟩⟩⟩⟩⟩⟩⟩⟩⟩⟩⟩⟩⟩⟩⟩⟩⟩⟩⟩
def sp_16_1 : List ((Nat × Nat) × List Nat) := [((6, 73), [1, 3]), ((6, 75), [1, 4]), ((6, 77), [1, 5]), ((6, 79), [1, 6]), ((6, 81), [1, 7]), ((11, 83), [0, 2, 1, 34]), ((9, 87), [0, 21, 1]), ((9, 90), [0, 36, 1]), ((9, 93), [0, 37, 1]), ((9, 96), [0, 38, 1]), ((6, 100), [1, 8]), ((11, 102), [0, 1, 17, 40]), ((1, 42), [3, 0, 4])]
set_option maxRecDepth 20000 in
theorem sp_ok_16_1 {K : sm_H} (hK : sc_KOk K) (mn : String) : sm_poolOk sc_Ts sc_sx sc_zx sc_oc K sc_cl sc_Y "TwoWayGrammar$Tokens" mn sp_16_1 :=
  List.forall_mem_cons.mpr ⟨fun pc i hi => by rw [sm_k6 hi]; exact ⟨⟨"empty", sc_sx_mem 2 (by decide +kernel)⟩, trivial⟩,
  List.forall_mem_cons.mpr ⟨fun pc i hi => by rw [sm_k6 hi]; exact ⟨⟨"blank", sc_sx_mem 3 (by decide +kernel)⟩, trivial⟩,
  List.forall_mem_cons.mpr ⟨fun pc i hi => by rw [sm_k6 hi]; exact ⟨⟨"line", sc_sx_mem 4 (by decide +kernel)⟩, trivial⟩,
  List.forall_mem_cons.mpr ⟨fun pc i hi => by rw [sm_k6 hi]; exact ⟨⟨"deeper", sc_sx_mem 5 (by decide +kernel)⟩, trivial⟩,
  List.forall_mem_cons.mpr ⟨fun pc i hi => by rw [sm_k6 hi]; exact ⟨⟨"back", sc_sx_mem 6 (by decide +kernel)⟩, trivial⟩,
  List.forall_mem_cons.mpr ⟨fun pc i hi => by rw [sm_k11 hi]; exact ⟨trivial, sm_pk1 (⟨"TwoWayGrammar$Text", sc_T1, 2, rfl, sm_mem 717 (by decide +kernel), sm_mem 100 (by decide +kernel), Or.inl ⟨sm_mem 716 (by decide +kernel), sm_mem 718 (by decide +kernel), by decide +kernel⟩⟩)⟩,
  List.forall_mem_cons.mpr ⟨fun pc i hi => by rw [sm_k9 hi]; exact ⟨trivial, ⟨sm_mem 634 (by decide +kernel), sm_mem 99 (by decide +kernel), by decide +kernel, Or.inr ⟨"TwoWayGrammar", sc_nx_mem 6 (by decide +kernel)⟩⟩⟩,
  List.forall_mem_cons.mpr ⟨fun pc i hi => by rw [sm_k9 hi]; exact ⟨trivial, ⟨sm_mem 726 (by decide +kernel), sm_mem 99 (by decide +kernel), by decide +kernel, Or.inr ⟨"TwoWayGrammar", sc_nx_mem 7 (by decide +kernel)⟩⟩⟩,
  List.forall_mem_cons.mpr ⟨fun pc i hi => by rw [sm_k9 hi]; exact ⟨trivial, ⟨sm_mem 729 (by decide +kernel), sm_mem 99 (by decide +kernel), by decide +kernel, Or.inr ⟨"TwoWayGrammar", sc_nx_mem 8 (by decide +kernel)⟩⟩⟩,
  List.forall_mem_cons.mpr ⟨fun pc i hi => by rw [sm_k9 hi]; exact ⟨trivial, ⟨sm_mem 732 (by decide +kernel), sm_mem 99 (by decide +kernel), by decide +kernel, Or.inr ⟨"TwoWayGrammar", sc_nx_mem 9 (by decide +kernel)⟩⟩⟩,
  List.forall_mem_cons.mpr ⟨fun pc i hi => by rw [sm_k6 hi]; exact ⟨⟨"=;|*?)~+", sc_sx_mem 7 (by decide +kernel)⟩, trivial⟩,
  List.forall_mem_cons.mpr ⟨fun pc i hi => by rw [sm_k11 hi]; exact ⟨trivial, sm_pk1 (⟨"java/lang/String", sc_T17, 0, rfl, sm_mem 740 (by decide +kernel), sm_mem 118 (by decide +kernel), Or.inl ⟨sm_mem 739 (by decide +kernel), sm_mem 741 (by decide +kernel), by decide +kernel⟩⟩)⟩,
  List.forall_mem_cons.mpr ⟨fun pc i hi => by rw [sm_k1 hi]; exact ⟨sm_al1 (⟨"TwoWayGrammar$Tokens", sc_T4, 5, "TwoWayGrammar$Tokens", rfl, by decide, sc_in4, sm_mem 280 (by decide +kernel), Or.inl rfl⟩), trivial⟩,
  fun _ h => absurd h List.not_mem_nil⟩⟩⟩⟩⟩⟩⟩⟩⟩⟩⟩⟩⟩
def sp_16 : List ((Nat × Nat) × List Nat) := sp_16_0 ++ sp_16_1
theorem sp_ok_16 {K : sm_H} (hK : sc_KOk K) (mn : String) : sm_poolOk sc_Ts sc_sx sc_zx sc_oc K sc_cl sc_Y "TwoWayGrammar$Tokens" mn sp_16 := by
  intro e he
  simp only [sp_16, List.mem_append] at he
  rcases he with he | he
  rotate_left
  · exact sp_ok_16_1 hK mn e he
  exact sp_ok_16_0 hK mn e he
def sp_17_0 : List ((Nat × Nat) × List Nat) := [((1, 19), [1, 0, 1]), ((11, 40), [0, 1, 1, 20]), ((9, 43), [0, 21, 1]), ((1, 13), [0, 0, 1]), ((9, 49), [0, 23, 1]), ((11, 23), [0, 0, 17, 27]), ((11, 28), [0, 1, 17, 29]), ((11, 36), [0, 0, 1, 90]), ((11, 39), [0, 0, 1, 22]), ((11, 32), [0, 1, 1, 91]), ((2, 19), [1, 0, 0, 1]), ((9, 52), [0, 37, 1])]
set_option maxRecDepth 20000 in
theorem sp_ok_17_0 {K : sm_H} (hK : sc_KOk K) (mn : String) : sm_poolOk sc_Ts sc_sx sc_zx sc_oc K sc_cl sc_Y "TwoWayGrammar$Text" mn sp_17_0 :=
  List.forall_mem_cons.mpr ⟨fun pc i hi => by rw [sm_k1 hi]; exact ⟨sm_al1 (⟨"TwoWayGrammar$Text", sc_T1, 2, "TwoWayGrammar$Text", rfl, by decide, sc_in1, sm_mem 145 (by decide +kernel), Or.inl rfl⟩), trivial⟩,
  List.forall_mem_cons.mpr ⟨fun pc i hi => by rw [sm_k11 hi]; exact ⟨trivial, sm_pk1 (⟨"TwoWayGrammar$Text", sc_T1, 2, rfl, sm_mem 630 (by decide +kernel), sm_mem 100 (by decide +kernel), Or.inl ⟨sm_mem 629 (by decide +kernel), sm_mem 631 (by decide +kernel), by decide +kernel⟩⟩)⟩,
  List.forall_mem_cons.mpr ⟨fun pc i hi => by rw [sm_k9 hi]; exact ⟨trivial, ⟨sm_mem 634 (by decide +kernel), sm_mem 99 (by decide +kernel), by decide +kernel, Or.inr ⟨"TwoWayGrammar", sc_nx_mem 3 (by decide +kernel)⟩⟩⟩,
  List.forall_mem_cons.mpr ⟨fun pc i hi => by rw [sm_k1 hi]; exact ⟨sm_al1 (⟨"TwoWayGrammar$Text", sc_T1, 2, "TwoWayGrammar$Text", rfl, by decide, sc_in1, sm_mem 144 (by decide +kernel), Or.inl rfl⟩), trivial⟩,
  List.forall_mem_cons.mpr ⟨fun pc i hi => by rw [sm_k9 hi]; exact ⟨trivial, ⟨sm_mem 642 (by decide +kernel), sm_mem 99 (by decide +kernel), by decide +kernel, Or.inr ⟨"TwoWayGrammar", sc_nx_mem 5 (by decide +kernel)⟩⟩⟩,
  List.forall_mem_cons.mpr ⟨fun pc i hi => by rw [sm_k11 hi]; exact ⟨trivial, sm_pk1 (⟨"java/lang/String", sc_T17, 0, rfl, sm_mem 659 (by decide +kernel), sm_mem 118 (by decide +kernel), Or.inl ⟨sm_mem 658 (by decide +kernel), sm_mem 660 (by decide +kernel), by decide +kernel⟩⟩)⟩,
  List.forall_mem_cons.mpr ⟨fun pc i hi => by rw [sm_k11 hi]; exact ⟨trivial, sm_pk1 (⟨"java/lang/String", sc_T17, 0, rfl, sm_mem 669 (by decide +kernel), sm_mem 118 (by decide +kernel), Or.inl ⟨sm_mem 668 (by decide +kernel), sm_mem 670 (by decide +kernel), by decide +kernel⟩⟩)⟩,
  List.forall_mem_cons.mpr ⟨fun pc i hi => by rw [sm_k11 hi]; exact ⟨trivial, sm_pk1 (⟨"TwoWayGrammar$Text", sc_T1, 2, rfl, sm_mem 985 (by decide +kernel), sm_mem 100 (by decide +kernel), Or.inl ⟨sm_mem 984 (by decide +kernel), sm_mem 986 (by decide +kernel), by decide +kernel⟩⟩)⟩,
  List.forall_mem_cons.mpr ⟨fun pc i hi => by rw [sm_k11 hi]; exact ⟨trivial, sm_pk1 (⟨"TwoWayGrammar$Text", sc_T1, 2, rfl, sm_mem 638 (by decide +kernel), sm_mem 100 (by decide +kernel), Or.inl ⟨sm_mem 988 (by decide +kernel), sm_mem 639 (by decide +kernel), by decide +kernel⟩⟩)⟩,
  List.forall_mem_cons.mpr ⟨fun pc i hi => by rw [sm_k11 hi]; exact ⟨trivial, sm_pk1 (⟨"TwoWayGrammar$Text", sc_T1, 2, rfl, sm_mem 990 (by decide +kernel), sm_mem 100 (by decide +kernel), Or.inl ⟨sm_mem 989 (by decide +kernel), sm_mem 991 (by decide +kernel), by decide +kernel⟩⟩)⟩,
  List.forall_mem_cons.mpr ⟨fun pc i hi => by rw [sm_k2 hi]; exact ⟨sm_al1 (⟨"TwoWayGrammar$Text", sc_T1, 2, "TwoWayGrammar$Text", sc_ty1, rfl, by decide, sc_in1, sm_mem 145 (by decide +kernel), Or.inl rfl, sc_tyok1, sc_nm1, Or.inl rfl, Or.inl ⟨rfl, rfl⟩⟩), trivial⟩,
  List.forall_mem_cons.mpr ⟨fun pc i hi => by rw [sm_k9 hi]; exact ⟨trivial, ⟨sm_mem 729 (by decide +kernel), sm_mem 99 (by decide +kernel), by decide +kernel, Or.inr ⟨"TwoWayGrammar", sc_nx_mem 22 (by decide +kernel)⟩⟩⟩,
  fun _ h => absurd h List.not_mem_nil⟩⟩⟩⟩⟩⟩⟩⟩⟩⟩⟩⟩
def sp_17 : List ((Nat × Nat) × List Nat) := sp_17_0
theorem sp_ok_17 {K : sm_H} (hK : sc_KOk K) (mn : String) : sm_poolOk sc_Ts sc_sx sc_zx sc_oc K sc_cl sc_Y "TwoWayGrammar$Text" mn sp_17 := by
  intro e he
  exact sp_ok_17_0 hK mn e he
def sp_18_0 : List ((Nat × Nat) × List Nat) := [((1, 9), [0, 1, 17]), ((11, 335), [0, 0, 17, 28]), ((3, 38), [1]), ((1, 15), [1, 1, 17]), ((11, 492), [0, 0, 17, 30]), ((9, 495), [0, 31, 2]), ((11, 633), [0, 2, 17, 41]), ((11, 505), [0, 0, 17, 27]), ((9, 637), [0, 42, 4])]
set_option maxRecDepth 20000 in
theorem sp_ok_18_0 {K : sm_H} (hK : sc_KOk K) (mn : String) : sm_poolOk sc_Ts sc_sx sc_zx sc_oc K sc_cl sc_Y "java/lang/String" mn sp_18_0 :=
  List.forall_mem_cons.mpr ⟨fun pc i hi => by rw [sm_k1 hi]; exact ⟨sm_al1 (fun a fs v _ h1 h2 => ⟨"java/lang/String", "value", "[B", "java/lang/String", sc_str0 hK h1 h2, sm_mem 2194 (by decide +kernel), Or.inl rfl⟩), trivial⟩,
  List.forall_mem_cons.mpr ⟨fun pc i hi => by rw [sm_k11 hi]; exact ⟨trivial, sm_pk1 (⟨"java/lang/String", sc_T17, 0, rfl, sm_mem 663 (by decide +kernel), sm_mem 118 (by decide +kernel), Or.inl ⟨sm_mem 662 (by decide +kernel), sm_mem 664 (by decide +kernel), by decide +kernel⟩⟩)⟩,
  List.forall_mem_cons.mpr ⟨fun pc i hi => by rw [sm_k3 hi]; exact ⟨⟨"java/lang/String", "COMPACT_STRINGS", "Z", "java/lang/String", List.mem_singleton.mpr rfl, sm_mem 666 (by decide +kernel), Or.inl rfl⟩, trivial⟩,
  List.forall_mem_cons.mpr ⟨fun pc i hi => by rw [sm_k1 hi]; exact ⟨sm_al1 (fun a fs v _ h1 h2 => ⟨"java/lang/String", "coder", "B", "java/lang/String", sc_str1 hK h1 h2, sm_mem 2195 (by decide +kernel), Or.inl rfl⟩), trivial⟩,
  List.forall_mem_cons.mpr ⟨fun pc i hi => by rw [sm_k11 hi]; exact ⟨trivial, sm_pk1 (⟨"java/lang/String", sc_T17, 0, rfl, sm_mem 673 (by decide +kernel), sm_mem 118 (by decide +kernel), Or.inl ⟨sm_mem 672 (by decide +kernel), sm_mem 674 (by decide +kernel), by decide +kernel⟩⟩)⟩,
  List.forall_mem_cons.mpr ⟨fun pc i hi => by rw [sm_k9 hi]; exact ⟨trivial, ⟨sm_mem 677 (by decide +kernel), sm_mem 119 (by decide +kernel), by decide +kernel, Or.inl (sm_mem 676 (by decide +kernel))⟩⟩,
  List.forall_mem_cons.mpr ⟨fun pc i hi => by rw [sm_k11 hi]; exact ⟨trivial, sm_pk1 (⟨"java/lang/String", sc_T17, 0, rfl, sm_mem 744 (by decide +kernel), sm_mem 118 (by decide +kernel), Or.inl ⟨sm_mem 743 (by decide +kernel), sm_mem 745 (by decide +kernel), by decide +kernel⟩⟩)⟩,
  List.forall_mem_cons.mpr ⟨fun pc i hi => by rw [sm_k11 hi]; exact ⟨trivial, sm_pk1 (⟨"java/lang/String", sc_T17, 0, rfl, sm_mem 659 (by decide +kernel), sm_mem 118 (by decide +kernel), Or.inl ⟨sm_mem 747 (by decide +kernel), sm_mem 660 (by decide +kernel), by decide +kernel⟩⟩)⟩,
  List.forall_mem_cons.mpr ⟨fun pc i hi => by rw [sm_k9 hi]; exact ⟨trivial, ⟨sm_mem 749 (by decide +kernel), sm_mem 119 (by decide +kernel), by decide +kernel, Or.inl (sm_mem 748 (by decide +kernel))⟩⟩,
  fun _ h => absurd h List.not_mem_nil⟩⟩⟩⟩⟩⟩⟩⟩⟩
def sp_18 : List ((Nat × Nat) × List Nat) := sp_18_0
theorem sp_ok_18 {K : sm_H} (hK : sc_KOk K) (mn : String) : sm_poolOk sc_Ts sc_sx sc_zx sc_oc K sc_cl sc_Y "java/lang/String" mn sp_18 := by
  intro e he
  exact sp_ok_18_0 hK mn e he
def sp_19_0 : List ((Nat × Nat) × List Nat) := [((9, 9), [0, 32, 2]), ((9, 88), [0, 43, 1]), ((9, 92), [7, 0]), ((9, 38), [7, 1]), ((9, 95), [0, 44, 4])]
set_option maxRecDepth 20000 in
theorem sp_ok_19_0 {K : sm_H} (hK : sc_KOk K) (mn : String) : sm_poolOk sc_Ts sc_sx sc_zx sc_oc K sc_cl sc_Y "java/lang/StringLatin1" mn sp_19_0 :=
  List.forall_mem_cons.mpr ⟨fun pc i hi => by rw [sm_k9 hi]; exact ⟨trivial, ⟨sm_mem 680 (by decide +kernel), sm_mem 118 (by decide +kernel), by decide +kernel, Or.inl (sm_mem 679 (by decide +kernel))⟩⟩,
  List.forall_mem_cons.mpr ⟨fun pc i hi => by rw [sm_k9 hi]; exact ⟨trivial, ⟨sm_mem 752 (by decide +kernel), sm_mem 119 (by decide +kernel), by decide +kernel, Or.inl (sm_mem 751 (by decide +kernel))⟩⟩,
  List.forall_mem_cons.mpr ⟨fun pc i hi => by rw [sm_k9 hi]; exact ⟨Or.inl ⟨rfl, sm_mem 754 (by decide +kernel), sm_mem 142 (by decide +kernel), sm_mem 101 (by decide +kernel), sm_mem 143 (by decide +kernel)⟩, trivial⟩,
  List.forall_mem_cons.mpr ⟨fun pc i hi => by rw [sm_k9 hi]; exact ⟨Or.inr ⟨rfl, sm_mem 755 (by decide +kernel), sm_mem 756 (by decide +kernel), sm_mem 101 (by decide +kernel), sm_mem 757 (by decide +kernel)⟩, trivial⟩,
  List.forall_mem_cons.mpr ⟨fun pc i hi => by rw [sm_k9 hi]; exact ⟨trivial, ⟨sm_mem 759 (by decide +kernel), sm_mem 119 (by decide +kernel), by decide +kernel, Or.inl (sm_mem 758 (by decide +kernel))⟩⟩,
  fun _ h => absurd h List.not_mem_nil⟩⟩⟩⟩⟩
def sp_19 : List ((Nat × Nat) × List Nat) := sp_19_0
theorem sp_ok_19 {K : sm_H} (hK : sc_KOk K) (mn : String) : sm_poolOk sc_Ts sc_sx sc_zx sc_oc K sc_cl sc_Y "java/lang/StringLatin1" mn sp_19 := by
  intro e he
  exact sp_ok_19_0 hK mn e he
def sp_20_0 : List ((Nat × Nat) × List Nat) := [((1, 9), [1, 0, 5]), ((9, 59), [0, 16, 3]), ((1, 15), [2, 0, 5]), ((9, 63), [0, 66, 3]), ((1, 19), [3, 0, 5]), ((1, 22), [4, 0, 5]), ((1, 25), [5, 0, 5]), ((11, 66), [0, 0, 5, 67]), ((11, 69), [0, 0, 5, 76]), ((11, 72), [0, 0, 5, 79]), ((11, 75), [0, 0, 5, 80]), ((2, 110), [15, 3, 0, 5]), ((1, 110), [15, 0, 5]), ((6, 114), [0, 100000]), ((11, 115), [0, 1, 5, 68]), ((1, 55), [0, 0, 5]), ((1, 119), [3, 0, 2]), ((9, 78), [0, 49, 2]), ((1, 122), [4, 0, 2]), ((11, 125), [0, 1, 5, 69])]
set_option maxRecDepth 20000 in
theorem sp_ok_20_0 {K : sm_H} (hK : sc_KOk K) (mn : String) : sm_poolOk sc_Ts sc_sx sc_zx sc_oc K sc_cl sc_Y "TwoWayGrammar$Sets" mn sp_20_0 :=
  List.forall_mem_cons.mpr ⟨fun pc i hi => by rw [sm_k1 hi]; exact ⟨sm_al1 (⟨"TwoWayGrammar$Sets", sc_T5, 16, "TwoWayGrammar$Sets", rfl, by decide, sc_in5, sm_mem 318 (by decide +kernel), Or.inl rfl⟩), trivial⟩,
  List.forall_mem_cons.mpr ⟨fun pc i hi => by rw [sm_k9 hi]; exact ⟨trivial, ⟨sm_mem 615 (by decide +kernel), sm_mem 99 (by decide +kernel), by decide +kernel, Or.inr ⟨"TwoWayGrammar", sc_nx_mem 13 (by decide +kernel)⟩⟩⟩,
  List.forall_mem_cons.mpr ⟨fun pc i hi => by rw [sm_k1 hi]; exact ⟨sm_al1 (⟨"TwoWayGrammar$Sets", sc_T5, 16, "TwoWayGrammar$Sets", rfl, by decide, sc_in5, sm_mem 320 (by decide +kernel), Or.inl rfl⟩), trivial⟩,
  List.forall_mem_cons.mpr ⟨fun pc i hi => by rw [sm_k9 hi]; exact ⟨trivial, ⟨sm_mem 881 (by decide +kernel), sm_mem 99 (by decide +kernel), by decide +kernel, Or.inr ⟨"TwoWayGrammar", sc_nx_mem 14 (by decide +kernel)⟩⟩⟩,
  List.forall_mem_cons.mpr ⟨fun pc i hi => by rw [sm_k1 hi]; exact ⟨sm_al1 (⟨"TwoWayGrammar$Sets", sc_T5, 16, "TwoWayGrammar$Sets", rfl, by decide, sc_in5, sm_mem 322 (by decide +kernel), Or.inl rfl⟩), trivial⟩,
  List.forall_mem_cons.mpr ⟨fun pc i hi => by rw [sm_k1 hi]; exact ⟨sm_al1 (⟨"TwoWayGrammar$Sets", sc_T5, 16, "TwoWayGrammar$Sets", rfl, by decide, sc_in5, sm_mem 324 (by decide +kernel), Or.inl rfl⟩), trivial⟩,
  List.forall_mem_cons.mpr ⟨fun pc i hi => by rw [sm_k1 hi]; exact ⟨sm_al1 (⟨"TwoWayGrammar$Sets", sc_T5, 16, "TwoWayGrammar$Sets", rfl, by decide, sc_in5, sm_mem 325 (by decide +kernel), Or.inl rfl⟩), trivial⟩,
  List.forall_mem_cons.mpr ⟨fun pc i hi => by rw [sm_k11 hi]; exact ⟨trivial, sm_pk1 (⟨"TwoWayGrammar$Sets", sc_T5, 16, rfl, sm_mem 885 (by decide +kernel), sm_mem 105 (by decide +kernel), Or.inl ⟨sm_mem 883 (by decide +kernel), sm_mem 13 (by decide +kernel), by decide +kernel⟩⟩)⟩,
  List.forall_mem_cons.mpr ⟨fun pc i hi => by rw [sm_k11 hi]; exact ⟨trivial, sm_pk1 (⟨"TwoWayGrammar$Sets", sc_T5, 16, rfl, sm_mem 926 (by decide +kernel), sm_mem 105 (by decide +kernel), Or.inl ⟨sm_mem 924 (by decide +kernel), sm_mem 20 (by decide +kernel), by decide +kernel⟩⟩)⟩,
  List.forall_mem_cons.mpr ⟨fun pc i hi => by rw [sm_k11 hi]; exact ⟨trivial, sm_pk1 (⟨"TwoWayGrammar$Sets", sc_T5, 16, rfl, sm_mem 939 (by decide +kernel), sm_mem 105 (by decide +kernel), Or.inl ⟨sm_mem 937 (by decide +kernel), sm_mem 23 (by decide +kernel), by decide +kernel⟩⟩)⟩,
  List.forall_mem_cons.mpr ⟨fun pc i hi => by rw [sm_k11 hi]; exact ⟨trivial, sm_pk1 (⟨"TwoWayGrammar$Sets", sc_T5, 16, rfl, sm_mem 943 (by decide +kernel), sm_mem 105 (by decide +kernel), Or.inl ⟨sm_mem 941 (by decide +kernel), sm_mem 24 (by decide +kernel), by decide +kernel⟩⟩)⟩,
  List.forall_mem_cons.mpr ⟨fun pc i hi => by rw [sm_k2 hi]; exact ⟨sm_al1 (⟨"TwoWayGrammar$Sets", sc_T5, 16, "TwoWayGrammar$Sets", sc_ty5, rfl, by decide, sc_in5, sm_mem 344 (by decide +kernel), Or.inl rfl, sc_tyok5, sc_nm5, Or.inl rfl, Or.inr (Or.inr (Or.inr (Or.inl ⟨rfl, rfl⟩)))⟩), trivial⟩,
  List.forall_mem_cons.mpr ⟨fun pc i hi => by rw [sm_k1 hi]; exact ⟨sm_al1 (⟨"TwoWayGrammar$Sets", sc_T5, 16, "TwoWayGrammar$Sets", rfl, by decide, sc_in5, sm_mem 344 (by decide +kernel), Or.inl rfl⟩), trivial⟩,
  List.forall_mem_cons.mpr ⟨fun pc i hi => by rw [sm_k6 hi]; exact ⟨sm_mem 887 (by decide +kernel), trivial⟩,
  List.forall_mem_cons.mpr ⟨fun pc i hi => by rw [sm_k11 hi]; exact ⟨trivial, sm_pk1 (⟨"TwoWayGrammar$Sets", sc_T5, 16, rfl, sm_mem 890 (by decide +kernel), sm_mem 105 (by decide +kernel), Or.inl ⟨sm_mem 888 (by decide +kernel), sm_mem 14 (by decide +kernel), by decide +kernel⟩⟩)⟩,
  List.forall_mem_cons.mpr ⟨fun pc i hi => by rw [sm_k1 hi]; exact ⟨sm_al1 (⟨"TwoWayGrammar$Sets", sc_T5, 16, "TwoWayGrammar$Sets", rfl, by decide, sc_in5, sm_mem 317 (by decide +kernel), Or.inl rfl⟩), trivial⟩,
  List.forall_mem_cons.mpr ⟨fun pc i hi => by rw [sm_k1 hi]; exact ⟨sm_al1 (⟨"TwoWayGrammar$Grammar", sc_T2, 20, "TwoWayGrammar$Grammar", rfl, by decide, sc_in2, sm_mem 169 (by decide +kernel), Or.inl rfl⟩), trivial⟩,
  List.forall_mem_cons.mpr ⟨fun pc i hi => by rw [sm_k9 hi]; exact ⟨trivial, ⟨sm_mem 809 (by decide +kernel), sm_mem 99 (by decide +kernel), by decide +kernel, Or.inr ⟨"TwoWayGrammar", sc_nx_mem 15 (by decide +kernel)⟩⟩⟩,
  List.forall_mem_cons.mpr ⟨fun pc i hi => by rw [sm_k1 hi]; exact ⟨sm_al1 (⟨"TwoWayGrammar$Grammar", sc_T2, 20, "TwoWayGrammar$Grammar", rfl, by decide, sc_in2, sm_mem 174 (by decide +kernel), Or.inl rfl⟩), trivial⟩,
  List.forall_mem_cons.mpr ⟨fun pc i hi => by rw [sm_k11 hi]; exact ⟨trivial, sm_pk1 (⟨"TwoWayGrammar$Sets", sc_T5, 16, rfl, sm_mem 895 (by decide +kernel), sm_mem 105 (by decide +kernel), Or.inl ⟨sm_mem 893 (by decide +kernel), sm_mem 15 (by decide +kernel), by decide +kernel⟩⟩)⟩,
  fun _ h => absurd h List.not_mem_nil⟩⟩⟩⟩⟩⟩⟩⟩⟩⟩⟩⟩⟩⟩⟩⟩⟩⟩⟩⟩
def sp_20_1 : List ((Nat × Nat) × List Nat) := [((1, 28), [6, 0, 5]), ((1, 31), [7, 0, 5]), ((9, 88), [0, 72, 2]), ((1, 34), [8, 0, 5]), ((1, 37), [9, 0, 5]), ((9, 104), [7, 1]), ((1, 128), [8, 0, 2]), ((1, 131), [7, 0, 2]), ((11, 134), [0, 1, 5, 70]), ((1, 46), [12, 0, 5]), ((11, 137), [0, 1, 5, 73]), ((11, 140), [0, 1, 5, 74]), ((11, 144), [0, 1, 5, 75]), ((9, 147), [7, 0]), ((1, 150), [14, 0, 2]), ((11, 82), [0, 1, 2, 71]), ((1, 43), [11, 0, 5]), ((1, 91), [11, 0, 2]), ((8, 94), [2]), ((8, 96), [4])]
set_option maxRecDepth 20000 in
theorem sp_ok_20_1 {K : sm_H} (hK : sc_KOk K) (mn : String) : sm_poolOk sc_Ts sc_sx sc_zx sc_oc K sc_cl sc_Y "TwoWayGrammar$Sets" mn sp_20_1 :=
  List.forall_mem_cons.mpr ⟨fun pc i hi => by rw [sm_k1 hi]; exact ⟨sm_al1 (⟨"TwoWayGrammar$Sets", sc_T5, 16, "TwoWayGrammar$Sets", rfl, by decide, sc_in5, sm_mem 327 (by decide +kernel), Or.inl rfl⟩), trivial⟩,
  List.forall_mem_cons.mpr ⟨fun pc i hi => by rw [sm_k1 hi]; exact ⟨sm_al1 (⟨"TwoWayGrammar$Sets", sc_T5, 16, "TwoWayGrammar$Sets", rfl, by decide, sc_in5, sm_mem 328 (by decide +kernel), Or.inl rfl⟩), trivial⟩,
  List.forall_mem_cons.mpr ⟨fun pc i hi => by rw [sm_k9 hi]; exact ⟨trivial, ⟨sm_mem 906 (by decide +kernel), sm_mem 99 (by decide +kernel), by decide +kernel, Or.inr ⟨"TwoWayGrammar", sc_nx_mem 16 (by decide +kernel)⟩⟩⟩,
  List.forall_mem_cons.mpr ⟨fun pc i hi => by rw [sm_k1 hi]; exact ⟨sm_al1 (⟨"TwoWayGrammar$Sets", sc_T5, 16, "TwoWayGrammar$Sets", rfl, by decide, sc_in5, sm_mem 329 (by decide +kernel), Or.inl rfl⟩), trivial⟩,
  List.forall_mem_cons.mpr ⟨fun pc i hi => by rw [sm_k1 hi]; exact ⟨sm_al1 (⟨"TwoWayGrammar$Sets", sc_T5, 16, "TwoWayGrammar$Sets", rfl, by decide, sc_in5, sm_mem 330 (by decide +kernel), Or.inl rfl⟩), trivial⟩,
  List.forall_mem_cons.mpr ⟨fun pc i hi => by rw [sm_k9 hi]; exact ⟨Or.inr ⟨rfl, sm_mem 922 (by decide +kernel), sm_mem 756 (by decide +kernel), sm_mem 101 (by decide +kernel), sm_mem 757 (by decide +kernel)⟩, trivial⟩,
  List.forall_mem_cons.mpr ⟨fun pc i hi => by rw [sm_k1 hi]; exact ⟨sm_al1 (⟨"TwoWayGrammar$Grammar", sc_T2, 20, "TwoWayGrammar$Grammar", rfl, by decide, sc_in2, sm_mem 185 (by decide +kernel), Or.inl rfl⟩), trivial⟩,
  List.forall_mem_cons.mpr ⟨fun pc i hi => by rw [sm_k1 hi]; exact ⟨sm_al1 (⟨"TwoWayGrammar$Grammar", sc_T2, 20, "TwoWayGrammar$Grammar", rfl, by decide, sc_in2, sm_mem 179 (by decide +kernel), Or.inl rfl⟩), trivial⟩,
  List.forall_mem_cons.mpr ⟨fun pc i hi => by rw [sm_k11 hi]; exact ⟨trivial, sm_pk1 (⟨"TwoWayGrammar$Sets", sc_T5, 16, rfl, sm_mem 899 (by decide +kernel), sm_mem 105 (by decide +kernel), Or.inl ⟨sm_mem 897 (by decide +kernel), sm_mem 16 (by decide +kernel), by decide +kernel⟩⟩)⟩,
  List.forall_mem_cons.mpr ⟨fun pc i hi => by rw [sm_k1 hi]; exact ⟨sm_al1 (⟨"TwoWayGrammar$Sets", sc_T5, 16, "TwoWayGrammar$Sets", rfl, by decide, sc_in5, sm_mem 337 (by decide +kernel), Or.inl rfl⟩), trivial⟩,
  List.forall_mem_cons.mpr ⟨fun pc i hi => by rw [sm_k11 hi]; exact ⟨trivial, sm_pk1 (⟨"TwoWayGrammar$Sets", sc_T5, 16, rfl, sm_mem 912 (by decide +kernel), sm_mem 105 (by decide +kernel), Or.inl ⟨sm_mem 910 (by decide +kernel), sm_mem 17 (by decide +kernel), by decide +kernel⟩⟩)⟩,
  List.forall_mem_cons.mpr ⟨fun pc i hi => by rw [sm_k11 hi]; exact ⟨trivial, sm_pk1 (⟨"TwoWayGrammar$Sets", sc_T5, 16, rfl, sm_mem 916 (by decide +kernel), sm_mem 105 (by decide +kernel), Or.inl ⟨sm_mem 914 (by decide +kernel), sm_mem 18 (by decide +kernel), by decide +kernel⟩⟩)⟩,
  List.forall_mem_cons.mpr ⟨fun pc i hi => by rw [sm_k11 hi]; exact ⟨trivial, sm_pk1 (⟨"TwoWayGrammar$Sets", sc_T5, 16, rfl, sm_mem 920 (by decide +kernel), sm_mem 105 (by decide +kernel), Or.inl ⟨sm_mem 918 (by decide +kernel), sm_mem 19 (by decide +kernel), by decide +kernel⟩⟩)⟩,
  List.forall_mem_cons.mpr ⟨fun pc i hi => by rw [sm_k9 hi]; exact ⟨Or.inl ⟨rfl, sm_mem 923 (by decide +kernel), sm_mem 142 (by decide +kernel), sm_mem 101 (by decide +kernel), sm_mem 143 (by decide +kernel)⟩, trivial⟩,
  List.forall_mem_cons.mpr ⟨fun pc i hi => by rw [sm_k1 hi]; exact ⟨sm_al1 (⟨"TwoWayGrammar$Grammar", sc_T2, 20, "TwoWayGrammar$Grammar", rfl, by decide, sc_in2, sm_mem 207 (by decide +kernel), Or.inl rfl⟩), trivial⟩,
  List.forall_mem_cons.mpr ⟨fun pc i hi => by rw [sm_k11 hi]; exact ⟨trivial, sm_pk1 (⟨"TwoWayGrammar$Grammar", sc_T2, 20, rfl, sm_mem 902 (by decide +kernel), sm_mem 102 (by decide +kernel), Or.inl ⟨sm_mem 901 (by decide +kernel), sm_mem 903 (by decide +kernel), by decide +kernel⟩⟩)⟩,
  List.forall_mem_cons.mpr ⟨fun pc i hi => by rw [sm_k1 hi]; exact ⟨sm_al1 (⟨"TwoWayGrammar$Sets", sc_T5, 16, "TwoWayGrammar$Sets", rfl, by decide, sc_in5, sm_mem 335 (by decide +kernel), Or.inl rfl⟩), trivial⟩,
  List.forall_mem_cons.mpr ⟨fun pc i hi => by rw [sm_k1 hi]; exact ⟨sm_al1 (⟨"TwoWayGrammar$Grammar", sc_T2, 20, "TwoWayGrammar$Grammar", rfl, by decide, sc_in2, sm_mem 193 (by decide +kernel), Or.inl rfl⟩), trivial⟩,
  List.forall_mem_cons.mpr ⟨fun pc i hi => by rw [sm_k8 hi]; exact ⟨sm_mem 908 (by decide +kernel), trivial⟩,
  List.forall_mem_cons.mpr ⟨fun pc i hi => by rw [sm_k8 hi]; exact ⟨sm_mem 909 (by decide +kernel), trivial⟩,
  fun _ h => absurd h List.not_mem_nil⟩⟩⟩⟩⟩⟩⟩⟩⟩⟩⟩⟩⟩⟩⟩⟩⟩⟩⟩⟩
def sp_20_2 : List ((Nat × Nat) × List Nat) := [((1, 98), [12, 0, 2]), ((1, 101), [15, 0, 2]), ((11, 153), [0, 2, 5, 77]), ((11, 157), [0, 2, 5, 78]), ((1, 49), [13, 0, 5]), ((8, 161), [18446744073709551615]), ((1, 40), [10, 0, 5]), ((1, 163), [10, 0, 2]), ((11, 167), [0, 1, 5, 81]), ((1, 52), [14, 0, 5])]
set_option maxRecDepth 20000 in
theorem sp_ok_20_2 {K : sm_H} (hK : sc_KOk K) (mn : String) : sm_poolOk sc_Ts sc_sx sc_zx sc_oc K sc_cl sc_Y "TwoWayGrammar$Sets" mn sp_20_2 :=
  List.forall_mem_cons.mpr ⟨fun pc i hi => by rw [sm_k1 hi]; exact ⟨sm_al1 (⟨"TwoWayGrammar$Grammar", sc_T2, 20, "TwoWayGrammar$Grammar", rfl, by decide, sc_in2, sm_mem 199 (by decide +kernel), Or.inl rfl⟩), trivial⟩,
  List.forall_mem_cons.mpr ⟨fun pc i hi => by rw [sm_k1 hi]; exact ⟨sm_al1 (⟨"TwoWayGrammar$Grammar", sc_T2, 20, "TwoWayGrammar$Grammar", rfl, by decide, sc_in2, sm_mem 211 (by decide +kernel), Or.inl rfl⟩), trivial⟩,
  List.forall_mem_cons.mpr ⟨fun pc i hi => by rw [sm_k11 hi]; exact ⟨trivial, sm_pk1 (⟨"TwoWayGrammar$Sets", sc_T5, 16, rfl, sm_mem 930 (by decide +kernel), sm_mem 105 (by decide +kernel), Or.inl ⟨sm_mem 928 (by decide +kernel), sm_mem 21 (by decide +kernel), by decide +kernel⟩⟩)⟩,
  List.forall_mem_cons.mpr ⟨fun pc i hi => by rw [sm_k11 hi]; exact ⟨trivial, sm_pk1 (⟨"TwoWayGrammar$Sets", sc_T5, 16, rfl, sm_mem 934 (by decide +kernel), sm_mem 105 (by decide +kernel), Or.inl ⟨sm_mem 932 (by decide +kernel), sm_mem 22 (by decide +kernel), by decide +kernel⟩⟩)⟩,
  List.forall_mem_cons.mpr ⟨fun pc i hi => by rw [sm_k1 hi]; exact ⟨sm_al1 (⟨"TwoWayGrammar$Sets", sc_T5, 16, "TwoWayGrammar$Sets", rfl, by decide, sc_in5, sm_mem 340 (by decide +kernel), Or.inl rfl⟩), trivial⟩,
  List.forall_mem_cons.mpr ⟨fun pc i hi => by rw [sm_k8 hi]; exact ⟨sm_mem 936 (by decide +kernel), trivial⟩,
  List.forall_mem_cons.mpr ⟨fun pc i hi => by rw [sm_k1 hi]; exact ⟨sm_al1 (⟨"TwoWayGrammar$Sets", sc_T5, 16, "TwoWayGrammar$Sets", rfl, by decide, sc_in5, sm_mem 332 (by decide +kernel), Or.inl rfl⟩), trivial⟩,
  List.forall_mem_cons.mpr ⟨fun pc i hi => by rw [sm_k1 hi]; exact ⟨sm_al1 (⟨"TwoWayGrammar$Grammar", sc_T2, 20, "TwoWayGrammar$Grammar", rfl, by decide, sc_in2, sm_mem 191 (by decide +kernel), Or.inl rfl⟩), trivial⟩,
  List.forall_mem_cons.mpr ⟨fun pc i hi => by rw [sm_k11 hi]; exact ⟨trivial, sm_pk1 (⟨"TwoWayGrammar$Sets", sc_T5, 16, rfl, sm_mem 947 (by decide +kernel), sm_mem 105 (by decide +kernel), Or.inl ⟨sm_mem 945 (by decide +kernel), sm_mem 25 (by decide +kernel), by decide +kernel⟩⟩)⟩,
  List.forall_mem_cons.mpr ⟨fun pc i hi => by rw [sm_k1 hi]; exact ⟨sm_al1 (⟨"TwoWayGrammar$Sets", sc_T5, 16, "TwoWayGrammar$Sets", rfl, by decide, sc_in5, sm_mem 342 (by decide +kernel), Or.inl rfl⟩), trivial⟩,
  fun _ h => absurd h List.not_mem_nil⟩⟩⟩⟩⟩⟩⟩⟩⟩⟩
def sp_20 : List ((Nat × Nat) × List Nat) := sp_20_0 ++ sp_20_1 ++ sp_20_2
theorem sp_ok_20 {K : sm_H} (hK : sc_KOk K) (mn : String) : sm_poolOk sc_Ts sc_sx sc_zx sc_oc K sc_cl sc_Y "TwoWayGrammar$Sets" mn sp_20 := by
  intro e he
  simp only [sp_20, List.mem_append] at he
  rcases he with he | he
  rotate_left
  · exact sp_ok_20_2 hK mn e he
  rcases he with he | he
  rotate_left
  · exact sp_ok_20_1 hK mn e he
  exact sp_ok_20_0 hK mn e he
def sp_21_0 : List ((Nat × Nat) × List Nat) := [((2, 19), [2, 0, 0, 6]), ((11, 23), [0, 0, 6, 83]), ((11, 26), [0, 0, 6, 86]), ((11, 29), [0, 1, 6, 87]), ((1, 19), [2, 0, 6]), ((1, 9), [0, 0, 6]), ((1, 33), [0, 0, 2]), ((1, 38), [2, 0, 2]), ((9, 42), [0, 49, 2]), ((1, 15), [1, 0, 6]), ((1, 46), [5, 0, 5]), ((11, 51), [0, 2, 6, 84]), ((11, 55), [0, 1, 5, 85]), ((1, 59), [10, 0, 2]), ((1, 62), [15, 0, 2]), ((1, 65), [16, 0, 2]), ((1, 68), [11, 0, 5]), ((1, 71), [12, 0, 5]), ((9, 75), [0, 72, 2]), ((1, 78), [13, 0, 5])]
set_option maxRecDepth 20000 in
theorem sp_ok_21_0 {K : sm_H} (hK : sc_KOk K) (mn : String) : sm_poolOk sc_Ts sc_sx sc_zx sc_oc K sc_cl sc_Y "TwoWayGrammar$Checks" mn sp_21_0 :=
  List.forall_mem_cons.mpr ⟨fun pc i hi => by rw [sm_k2 hi]; exact ⟨sm_al1 (⟨"TwoWayGrammar$Checks", sc_T6, 3, "TwoWayGrammar$Checks", sc_ty6, rfl, by decide, sc_in6, sm_mem 387 (by decide +kernel), Or.inl rfl, sc_tyok6, sc_nm6, Or.inl rfl, Or.inl ⟨rfl, rfl⟩⟩), trivial⟩,
  List.forall_mem_cons.mpr ⟨fun pc i hi => by rw [sm_k11 hi]; exact ⟨trivial, sm_pk1 (⟨"TwoWayGrammar$Checks", sc_T6, 3, rfl, sm_mem 955 (by decide +kernel), sm_mem 106 (by decide +kernel), Or.inl ⟨sm_mem 953 (by decide +kernel), sm_mem 26 (by decide +kernel), by decide +kernel⟩⟩)⟩,
  List.forall_mem_cons.mpr ⟨fun pc i hi => by rw [sm_k11 hi]; exact ⟨trivial, sm_pk1 (⟨"TwoWayGrammar$Checks", sc_T6, 3, rfl, sm_mem 968 (by decide +kernel), sm_mem 106 (by decide +kernel), Or.inl ⟨sm_mem 966 (by decide +kernel), sm_mem 28 (by decide +kernel), by decide +kernel⟩⟩)⟩,
  List.forall_mem_cons.mpr ⟨fun pc i hi => by rw [sm_k11 hi]; exact ⟨trivial, sm_pk1 (⟨"TwoWayGrammar$Checks", sc_T6, 3, rfl, sm_mem 973 (by decide +kernel), sm_mem 106 (by decide +kernel), Or.inl ⟨sm_mem 971 (by decide +kernel), sm_mem 29 (by decide +kernel), by decide +kernel⟩⟩)⟩,
  List.forall_mem_cons.mpr ⟨fun pc i hi => by rw [sm_k1 hi]; exact ⟨sm_al1 (⟨"TwoWayGrammar$Checks", sc_T6, 3, "TwoWayGrammar$Checks", rfl, by decide, sc_in6, sm_mem 387 (by decide +kernel), Or.inl rfl⟩), trivial⟩,
  List.forall_mem_cons.mpr ⟨fun pc i hi => by rw [sm_k1 hi]; exact ⟨sm_al1 (⟨"TwoWayGrammar$Checks", sc_T6, 3, "TwoWayGrammar$Checks", rfl, by decide, sc_in6, sm_mem 385 (by decide +kernel), Or.inl rfl⟩), trivial⟩,
  List.forall_mem_cons.mpr ⟨fun pc i hi => by rw [sm_k1 hi]; exact ⟨sm_al1 (⟨"TwoWayGrammar$Grammar", sc_T2, 20, "TwoWayGrammar$Grammar", rfl, by decide, sc_in2, sm_mem 159 (by decide +kernel), Or.inl rfl⟩), trivial⟩,
  List.forall_mem_cons.mpr ⟨fun pc i hi => by rw [sm_k1 hi]; exact ⟨sm_al1 (⟨"TwoWayGrammar$Grammar", sc_T2, 20, "TwoWayGrammar$Grammar", rfl, by decide, sc_in2, sm_mem 164 (by decide +kernel), Or.inl rfl⟩), trivial⟩,
  List.forall_mem_cons.mpr ⟨fun pc i hi => by rw [sm_k9 hi]; exact ⟨trivial, ⟨sm_mem 809 (by decide +kernel), sm_mem 99 (by decide +kernel), by decide +kernel, Or.inr ⟨"TwoWayGrammar", sc_nx_mem 17 (by decide +kernel)⟩⟩⟩,
  List.forall_mem_cons.mpr ⟨fun pc i hi => by rw [sm_k1 hi]; exact ⟨sm_al1 (⟨"TwoWayGrammar$Checks", sc_T6, 3, "TwoWayGrammar$Checks", rfl, by decide, sc_in6, sm_mem 386 (by decide +kernel), Or.inl rfl⟩), trivial⟩,
  List.forall_mem_cons.mpr ⟨fun pc i hi => by rw [sm_k1 hi]; exact ⟨sm_al1 (⟨"TwoWayGrammar$Sets", sc_T5, 16, "TwoWayGrammar$Sets", rfl, by decide, sc_in5, sm_mem 326 (by decide +kernel), Or.inl rfl⟩), trivial⟩,
  List.forall_mem_cons.mpr ⟨fun pc i hi => by rw [sm_k11 hi]; exact ⟨trivial, sm_pk1 (⟨"TwoWayGrammar$Checks", sc_T6, 3, rfl, sm_mem 960 (by decide +kernel), sm_mem 106 (by decide +kernel), Or.inl ⟨sm_mem 958 (by decide +kernel), sm_mem 27 (by decide +kernel), by decide +kernel⟩⟩)⟩,
  List.forall_mem_cons.mpr ⟨fun pc i hi => by rw [sm_k11 hi]; exact ⟨trivial, sm_pk1 (⟨"TwoWayGrammar$Sets", sc_T5, 16, rfl, sm_mem 963 (by decide +kernel), sm_mem 105 (by decide +kernel), Or.inl ⟨sm_mem 962 (by decide +kernel), sm_mem 964 (by decide +kernel), by decide +kernel⟩⟩)⟩,
  List.forall_mem_cons.mpr ⟨fun pc i hi => by rw [sm_k1 hi]; exact ⟨sm_al1 (⟨"TwoWayGrammar$Grammar", sc_T2, 20, "TwoWayGrammar$Grammar", rfl, by decide, sc_in2, sm_mem 189 (by decide +kernel), Or.inl rfl⟩), trivial⟩,
  List.forall_mem_cons.mpr ⟨fun pc i hi => by rw [sm_k1 hi]; exact ⟨sm_al1 (⟨"TwoWayGrammar$Grammar", sc_T2, 20, "TwoWayGrammar$Grammar", rfl, by decide, sc_in2, sm_mem 210 (by decide +kernel), Or.inl rfl⟩), trivial⟩,
  List.forall_mem_cons.mpr ⟨fun pc i hi => by rw [sm_k1 hi]; exact ⟨sm_al1 (⟨"TwoWayGrammar$Grammar", sc_T2, 20, "TwoWayGrammar$Grammar", rfl, by decide, sc_in2, sm_mem 215 (by decide +kernel), Or.inl rfl⟩), trivial⟩,
  List.forall_mem_cons.mpr ⟨fun pc i hi => by rw [sm_k1 hi]; exact ⟨sm_al1 (⟨"TwoWayGrammar$Sets", sc_T5, 16, "TwoWayGrammar$Sets", rfl, by decide, sc_in5, sm_mem 336 (by decide +kernel), Or.inl rfl⟩), trivial⟩,
  List.forall_mem_cons.mpr ⟨fun pc i hi => by rw [sm_k1 hi]; exact ⟨sm_al1 (⟨"TwoWayGrammar$Sets", sc_T5, 16, "TwoWayGrammar$Sets", rfl, by decide, sc_in5, sm_mem 338 (by decide +kernel), Or.inl rfl⟩), trivial⟩,
  List.forall_mem_cons.mpr ⟨fun pc i hi => by rw [sm_k9 hi]; exact ⟨trivial, ⟨sm_mem 906 (by decide +kernel), sm_mem 99 (by decide +kernel), by decide +kernel, Or.inr ⟨"TwoWayGrammar", sc_nx_mem 18 (by decide +kernel)⟩⟩⟩,
  List.forall_mem_cons.mpr ⟨fun pc i hi => by rw [sm_k1 hi]; exact ⟨sm_al1 (⟨"TwoWayGrammar$Sets", sc_T5, 16, "TwoWayGrammar$Sets", rfl, by decide, sc_in5, sm_mem 341 (by decide +kernel), Or.inl rfl⟩), trivial⟩,
  fun _ h => absurd h List.not_mem_nil⟩⟩⟩⟩⟩⟩⟩⟩⟩⟩⟩⟩⟩⟩⟩⟩⟩⟩⟩⟩
end
section
def sp_21_1 : List ((Nat × Nat) × List Nat) := [((1, 81), [3, 0, 2]), ((1, 84), [4, 0, 2]), ((1, 87), [10, 0, 5]), ((1, 90), [9, 0, 2]), ((1, 93), [8, 0, 2])]
set_option maxRecDepth 20000 in
theorem sp_ok_21_1 {K : sm_H} (hK : sc_KOk K) (mn : String) : sm_poolOk sc_Ts sc_sx sc_zx sc_oc K sc_cl sc_Y "TwoWayGrammar$Checks" mn sp_21_1 :=
  List.forall_mem_cons.mpr ⟨fun pc i hi => by rw [sm_k1 hi]; exact ⟨sm_al1 (⟨"TwoWayGrammar$Grammar", sc_T2, 20, "TwoWayGrammar$Grammar", rfl, by decide, sc_in2, sm_mem 166 (by decide +kernel), Or.inl rfl⟩), trivial⟩,
  List.forall_mem_cons.mpr ⟨fun pc i hi => by rw [sm_k1 hi]; exact ⟨sm_al1 (⟨"TwoWayGrammar$Grammar", sc_T2, 20, "TwoWayGrammar$Grammar", rfl, by decide, sc_in2, sm_mem 172 (by decide +kernel), Or.inl rfl⟩), trivial⟩,
  List.forall_mem_cons.mpr ⟨fun pc i hi => by rw [sm_k1 hi]; exact ⟨sm_al1 (⟨"TwoWayGrammar$Sets", sc_T5, 16, "TwoWayGrammar$Sets", rfl, by decide, sc_in5, sm_mem 333 (by decide +kernel), Or.inl rfl⟩), trivial⟩,
  List.forall_mem_cons.mpr ⟨fun pc i hi => by rw [sm_k1 hi]; exact ⟨sm_al1 (⟨"TwoWayGrammar$Grammar", sc_T2, 20, "TwoWayGrammar$Grammar", rfl, by decide, sc_in2, sm_mem 187 (by decide +kernel), Or.inl rfl⟩), trivial⟩,
  List.forall_mem_cons.mpr ⟨fun pc i hi => by rw [sm_k1 hi]; exact ⟨sm_al1 (⟨"TwoWayGrammar$Grammar", sc_T2, 20, "TwoWayGrammar$Grammar", rfl, by decide, sc_in2, sm_mem 182 (by decide +kernel), Or.inl rfl⟩), trivial⟩,
  fun _ h => absurd h List.not_mem_nil⟩⟩⟩⟩⟩
def sp_21 : List ((Nat × Nat) × List Nat) := sp_21_0 ++ sp_21_1
theorem sp_ok_21 {K : sm_H} (hK : sc_KOk K) (mn : String) : sm_poolOk sc_Ts sc_sx sc_zx sc_oc K sc_cl sc_Y "TwoWayGrammar$Checks" mn sp_21 := by
  intro e he
  simp only [sp_21, List.mem_append] at he
  rcases he with he | he
  rotate_left
  · exact sp_ok_21_1 hK mn e he
  exact sp_ok_21_0 hK mn e he
def sp_22_0 : List ((Nat × Nat) × List Nat) := [((2, 52), [3, 3, 0, 8, 9, 10]), ((2, 56), [4, 3, 0, 8, 9, 10]), ((2, 59), [5, 0, 0, 8, 9, 10]), ((1, 52), [3, 0, 8, 9, 10]), ((11, 68), [0, 0, 9, 157, 8, 156, 10, 157]), ((1, 59), [5, 0, 8, 9, 10]), ((11, 37), [0, 0, 9, 114, 8, 114, 10, 114]), ((11, 71), [0, 2, 9, 116, 8, 116, 10, 115]), ((11, 74), [0, 0, 9, 118, 8, 119, 10, 119]), ((11, 80), [0, 1, 9, 147, 8, 147, 10, 146]), ((1, 19), [2, 0, 8, 9, 10]), ((11, 33), [0, 2, 7, 117]), ((1, 9), [0, 0, 8, 9, 10]), ((1, 83), [4, 0, 2]), ((9, 29), [0, 49, 2]), ((1, 92), [7, 0, 2]), ((11, 95), [0, 2, 2, 127]), ((1, 98), [17, 0, 2]), ((1, 101), [14, 0, 2]), ((11, 104), [0, 1, 9, 130, 8, 130, 10, 128])]
set_option maxRecDepth 20000 in
theorem sp_ok_22_0 {K : sm_H} (hK : sc_KOk K) (mn : String) : sm_poolOk sc_Ts sc_sx sc_zx sc_oc K sc_cl sc_Y "TwoWayGrammar$Walk" mn sp_22_0 :=
  List.forall_mem_cons.mpr ⟨fun pc i hi => by rw [sm_k2 hi]; exact ⟨sm_al3 (⟨"TwoWayGrammar$Parsing", sc_T8, 12, "TwoWayGrammar$Walk", sc_ty8, rfl, by decide, sc_in8, sm_mem 463 (by decide +kernel), Or.inl rfl, sc_tyok8, sc_nm8, Or.inl rfl, Or.inr (Or.inr (Or.inr (Or.inl ⟨rfl, rfl⟩)))⟩) (⟨"TwoWayGrammar$Growing", sc_T9, 8, "TwoWayGrammar$Walk", sc_ty9, rfl, by decide, sc_in9, sm_mem 463 (by decide +kernel), Or.inl rfl, sc_tyok9, sc_nm9, Or.inl rfl, Or.inr (Or.inr (Or.inr (Or.inl ⟨rfl, rfl⟩)))⟩) (⟨"TwoWayGrammar$Printing", sc_T10, 13, "TwoWayGrammar$Walk", sc_ty10, rfl, by decide, sc_in10, sm_mem 463 (by decide +kernel), Or.inl rfl, sc_tyok10, sc_nm10, Or.inl rfl, Or.inr (Or.inr (Or.inr (Or.inl ⟨rfl, rfl⟩)))⟩), trivial⟩,
  List.forall_mem_cons.mpr ⟨fun pc i hi => by rw [sm_k2 hi]; exact ⟨sm_al3 (⟨"TwoWayGrammar$Parsing", sc_T8, 12, "TwoWayGrammar$Walk", sc_ty8, rfl, by decide, sc_in8, sm_mem 468 (by decide +kernel), Or.inl rfl, sc_tyok8, sc_nm8, Or.inl rfl, Or.inr (Or.inr (Or.inr (Or.inl ⟨rfl, rfl⟩)))⟩) (⟨"TwoWayGrammar$Growing", sc_T9, 8, "TwoWayGrammar$Walk", sc_ty9, rfl, by decide, sc_in9, sm_mem 468 (by decide +kernel), Or.inl rfl, sc_tyok9, sc_nm9, Or.inl rfl, Or.inr (Or.inr (Or.inr (Or.inl ⟨rfl, rfl⟩)))⟩) (⟨"TwoWayGrammar$Printing", sc_T10, 13, "TwoWayGrammar$Walk", sc_ty10, rfl, by decide, sc_in10, sm_mem 468 (by decide +kernel), Or.inl rfl, sc_tyok10, sc_nm10, Or.inl rfl, Or.inr (Or.inr (Or.inr (Or.inl ⟨rfl, rfl⟩)))⟩), trivial⟩,
  List.forall_mem_cons.mpr ⟨fun pc i hi => by rw [sm_k2 hi]; exact ⟨sm_al3 (⟨"TwoWayGrammar$Parsing", sc_T8, 12, "TwoWayGrammar$Walk", sc_ty8, rfl, by decide, sc_in8, sm_mem 469 (by decide +kernel), Or.inl rfl, sc_tyok8, sc_nm8, Or.inl rfl, Or.inl ⟨rfl, rfl⟩⟩) (⟨"TwoWayGrammar$Growing", sc_T9, 8, "TwoWayGrammar$Walk", sc_ty9, rfl, by decide, sc_in9, sm_mem 469 (by decide +kernel), Or.inl rfl, sc_tyok9, sc_nm9, Or.inl rfl, Or.inl ⟨rfl, rfl⟩⟩) (⟨"TwoWayGrammar$Printing", sc_T10, 13, "TwoWayGrammar$Walk", sc_ty10, rfl, by decide, sc_in10, sm_mem 469 (by decide +kernel), Or.inl rfl, sc_tyok10, sc_nm10, Or.inl rfl, Or.inl ⟨rfl, rfl⟩⟩), trivial⟩,
  List.forall_mem_cons.mpr ⟨fun pc i hi => by rw [sm_k1 hi]; exact ⟨sm_al3 (⟨"TwoWayGrammar$Parsing", sc_T8, 12, "TwoWayGrammar$Walk", rfl, by decide, sc_in8, sm_mem 463 (by decide +kernel), Or.inl rfl⟩) (⟨"TwoWayGrammar$Growing", sc_T9, 8, "TwoWayGrammar$Walk", rfl, by decide, sc_in9, sm_mem 463 (by decide +kernel), Or.inl rfl⟩) (⟨"TwoWayGrammar$Printing", sc_T10, 13, "TwoWayGrammar$Walk", rfl, by decide, sc_in10, sm_mem 463 (by decide +kernel), Or.inl rfl⟩), trivial⟩,
  List.forall_mem_cons.mpr ⟨fun pc i hi => by rw [sm_k11 hi]; exact ⟨trivial, sm_pk3 (⟨"TwoWayGrammar$Growing", sc_T9, 8, rfl, sm_mem 1429 (by decide +kernel), sm_mem 108 (by decide +kernel), Or.inr (Or.inr ⟨⟨"TwoWayGrammar$Walk", "end", "()V"⟩, "TwoWayGrammar$Walk", sm_mem 1428 (by decide +kernel), sm_mem 1430 (by decide +kernel), ⟨by decide, by decide⟩, sm_mem 1431 (by decide +kernel), by decide +kernel, Or.inr ⟨sm_mem 1429 (by decide +kernel), prog_12_method_3_code, 1, none, sm_mem 1436 (by decide +kernel)⟩⟩)⟩) (⟨"TwoWayGrammar$Parsing", sc_T8, 12, rfl, sm_mem 1433 (by decide +kernel), sm_mem 109 (by decide +kernel), Or.inr (Or.inr ⟨⟨"TwoWayGrammar$Walk", "end", "()V"⟩, "TwoWayGrammar$Walk", sm_mem 1428 (by decide +kernel), sm_mem 1430 (by decide +kernel), ⟨by decide, by decide⟩, sm_mem 1432 (by decide +kernel), by decide +kernel, Or.inr ⟨sm_mem 1429 (by decide +kernel), prog_12_method_3_code, 1, none, sm_mem 1436 (by decide +kernel)⟩⟩)⟩) (⟨"TwoWayGrammar$Printing", sc_T10, 13, rfl, sm_mem 1429 (by decide +kernel), sm_mem 108 (by decide +kernel), Or.inr (Or.inr ⟨⟨"TwoWayGrammar$Walk", "end", "()V"⟩, "TwoWayGrammar$Walk", sm_mem 1428 (by decide +kernel), sm_mem 1430 (by decide +kernel), ⟨by decide, by decide⟩, sm_mem 1435 (by decide +kernel), by decide +kernel, Or.inr ⟨sm_mem 1429 (by decide +kernel), prog_12_method_3_code, 1, none, sm_mem 1436 (by decide +kernel)⟩⟩)⟩)⟩,
  List.forall_mem_cons.mpr ⟨fun pc i hi => by rw [sm_k1 hi]; exact ⟨sm_al3 (⟨"TwoWayGrammar$Parsing", sc_T8, 12, "TwoWayGrammar$Walk", rfl, by decide, sc_in8, sm_mem 469 (by decide +kernel), Or.inl rfl⟩) (⟨"TwoWayGrammar$Growing", sc_T9, 8, "TwoWayGrammar$Walk", rfl, by decide, sc_in9, sm_mem 469 (by decide +kernel), Or.inl rfl⟩) (⟨"TwoWayGrammar$Printing", sc_T10, 13, "TwoWayGrammar$Walk", rfl, by decide, sc_in10, sm_mem 469 (by decide +kernel), Or.inl rfl⟩), trivial⟩,
  List.forall_mem_cons.mpr ⟨fun pc i hi => by rw [sm_k11 hi]; exact ⟨trivial, sm_pk3 (⟨"TwoWayGrammar$Growing", sc_T9, 8, rfl, sm_mem 1232 (by decide +kernel), sm_mem 108 (by decide +kernel), Or.inr (Or.inr ⟨⟨"TwoWayGrammar$Walk", "passLimit", "()V"⟩, "TwoWayGrammar$Walk", sm_mem 1231 (by decide +kernel), sm_mem 1233 (by decide +kernel), ⟨by decide, by decide⟩, sm_mem 1234 (by decide +kernel), by decide +kernel, Or.inr ⟨sm_mem 1232 (by decide +kernel), prog_12_method_15_code, 1, none, sm_mem 1237 (by decide +kernel)⟩⟩)⟩) (⟨"TwoWayGrammar$Parsing", sc_T8, 12, rfl, sm_mem 1232 (by decide +kernel), sm_mem 108 (by decide +kernel), Or.inr (Or.inr ⟨⟨"TwoWayGrammar$Walk", "passLimit", "()V"⟩, "TwoWayGrammar$Walk", sm_mem 1231 (by decide +kernel), sm_mem 1233 (by decide +kernel), ⟨by decide, by decide⟩, sm_mem 1235 (by decide +kernel), by decide +kernel, Or.inr ⟨sm_mem 1232 (by decide +kernel), prog_12_method_15_code, 1, none, sm_mem 1237 (by decide +kernel)⟩⟩)⟩) (⟨"TwoWayGrammar$Printing", sc_T10, 13, rfl, sm_mem 1232 (by decide +kernel), sm_mem 108 (by decide +kernel), Or.inr (Or.inr ⟨⟨"TwoWayGrammar$Walk", "passLimit", "()V"⟩, "TwoWayGrammar$Walk", sm_mem 1231 (by decide +kernel), sm_mem 1233 (by decide +kernel), ⟨by decide, by decide⟩, sm_mem 1236 (by decide +kernel), by decide +kernel, Or.inr ⟨sm_mem 1232 (by decide +kernel), prog_12_method_15_code, 1, none, sm_mem 1237 (by decide +kernel)⟩⟩)⟩)⟩,
  List.forall_mem_cons.mpr ⟨fun pc i hi => by rw [sm_k11 hi]; exact ⟨trivial, sm_pk3 (⟨"TwoWayGrammar$Growing", sc_T9, 8, rfl, sm_mem 1239 (by decide +kernel), sm_mem 108 (by decide +kernel), Or.inr (Or.inr ⟨⟨"TwoWayGrammar$Walk", "enter", "(II)I"⟩, "TwoWayGrammar$Walk", sm_mem 1238 (by decide +kernel), sm_mem 1240 (by decide +kernel), ⟨by decide, by decide⟩, sm_mem 1241 (by decide +kernel), by decide +kernel, Or.inr ⟨sm_mem 1239 (by decide +kernel), prog_12_method_9_code, 4, (some (.int)), sm_mem 1246 (by decide +kernel)⟩⟩)⟩) (⟨"TwoWayGrammar$Parsing", sc_T8, 12, rfl, sm_mem 1239 (by decide +kernel), sm_mem 108 (by decide +kernel), Or.inr (Or.inr ⟨⟨"TwoWayGrammar$Walk", "enter", "(II)I"⟩, "TwoWayGrammar$Walk", sm_mem 1238 (by decide +kernel), sm_mem 1240 (by decide +kernel), ⟨by decide, by decide⟩, sm_mem 1242 (by decide +kernel), by decide +kernel, Or.inr ⟨sm_mem 1239 (by decide +kernel), prog_12_method_9_code, 4, (some (.int)), sm_mem 1246 (by decide +kernel)⟩⟩)⟩) (⟨"TwoWayGrammar$Printing", sc_T10, 13, rfl, sm_mem 1244 (by decide +kernel), sm_mem 111 (by decide +kernel), Or.inr (Or.inr ⟨⟨"TwoWayGrammar$Walk", "enter", "(II)I"⟩, "TwoWayGrammar$Walk", sm_mem 1238 (by decide +kernel), sm_mem 1240 (by decide +kernel), ⟨by decide, by decide⟩, sm_mem 1243 (by decide +kernel), by decide +kernel, Or.inr ⟨sm_mem 1239 (by decide +kernel), prog_12_method_9_code, 4, (some (.int)), sm_mem 1246 (by decide +kernel)⟩⟩)⟩)⟩,
  List.forall_mem_cons.mpr ⟨fun pc i hi => by rw [sm_k11 hi]; exact ⟨trivial, sm_pk3 (⟨"TwoWayGrammar$Growing", sc_T9, 8, rfl, sm_mem 1255 (by decide +kernel), sm_mem 110 (by decide +kernel), Or.inr (Or.inr ⟨⟨"TwoWayGrammar$Walk", "useBegins", "()V"⟩, "TwoWayGrammar$Walk", sm_mem 1251 (by decide +kernel), sm_mem 1253 (by decide +kernel), ⟨by decide, by decide⟩, sm_mem 1254 (by decide +kernel), by decide +kernel, Or.inr ⟨sm_mem 1252 (by decide +kernel), prog_12_method_8_code, 1, none, sm_mem 1259 (by decide +kernel)⟩⟩)⟩) (⟨"TwoWayGrammar$Parsing", sc_T8, 12, rfl, sm_mem 1252 (by decide +kernel), sm_mem 108 (by decide +kernel), Or.inr (Or.inr ⟨⟨"TwoWayGrammar$Walk", "useBegins", "()V"⟩, "TwoWayGrammar$Walk", sm_mem 1251 (by decide +kernel), sm_mem 1253 (by decide +kernel), ⟨by decide, by decide⟩, sm_mem 1257 (by decide +kernel), by decide +kernel, Or.inr ⟨sm_mem 1252 (by decide +kernel), prog_12_method_8_code, 1, none, sm_mem 1259 (by decide +kernel)⟩⟩)⟩) (⟨"TwoWayGrammar$Printing", sc_T10, 13, rfl, sm_mem 1252 (by decide +kernel), sm_mem 108 (by decide +kernel), Or.inr (Or.inr ⟨⟨"TwoWayGrammar$Walk", "useBegins", "()V"⟩, "TwoWayGrammar$Walk", sm_mem 1251 (by decide +kernel), sm_mem 1253 (by decide +kernel), ⟨by decide, by decide⟩, sm_mem 1258 (by decide +kernel), by decide +kernel, Or.inr ⟨sm_mem 1252 (by decide +kernel), prog_12_method_8_code, 1, none, sm_mem 1259 (by decide +kernel)⟩⟩)⟩)⟩,
  List.forall_mem_cons.mpr ⟨fun pc i hi => by rw [sm_k11 hi]; exact ⟨trivial, sm_pk3 (⟨"TwoWayGrammar$Growing", sc_T9, 8, rfl, sm_mem 1387 (by decide +kernel), sm_mem 108 (by decide +kernel), Or.inr (Or.inr ⟨⟨"TwoWayGrammar$Walk", "leave", "(I)V"⟩, "TwoWayGrammar$Walk", sm_mem 1386 (by decide +kernel), sm_mem 1388 (by decide +kernel), ⟨by decide, by decide⟩, sm_mem 1389 (by decide +kernel), by decide +kernel, Or.inr ⟨sm_mem 1387 (by decide +kernel), prog_12_method_10_code, 2, none, sm_mem 1394 (by decide +kernel)⟩⟩)⟩) (⟨"TwoWayGrammar$Parsing", sc_T8, 12, rfl, sm_mem 1387 (by decide +kernel), sm_mem 108 (by decide +kernel), Or.inr (Or.inr ⟨⟨"TwoWayGrammar$Walk", "leave", "(I)V"⟩, "TwoWayGrammar$Walk", sm_mem 1386 (by decide +kernel), sm_mem 1388 (by decide +kernel), ⟨by decide, by decide⟩, sm_mem 1390 (by decide +kernel), by decide +kernel, Or.inr ⟨sm_mem 1387 (by decide +kernel), prog_12_method_10_code, 2, none, sm_mem 1394 (by decide +kernel)⟩⟩)⟩) (⟨"TwoWayGrammar$Printing", sc_T10, 13, rfl, sm_mem 1392 (by decide +kernel), sm_mem 111 (by decide +kernel), Or.inr (Or.inr ⟨⟨"TwoWayGrammar$Walk", "leave", "(I)V"⟩, "TwoWayGrammar$Walk", sm_mem 1386 (by decide +kernel), sm_mem 1388 (by decide +kernel), ⟨by decide, by decide⟩, sm_mem 1391 (by decide +kernel), by decide +kernel, Or.inr ⟨sm_mem 1387 (by decide +kernel), prog_12_method_10_code, 2, none, sm_mem 1394 (by decide +kernel)⟩⟩)⟩)⟩,
  List.forall_mem_cons.mpr ⟨fun pc i hi => by rw [sm_k1 hi]; exact ⟨sm_al3 (⟨"TwoWayGrammar$Parsing", sc_T8, 12, "TwoWayGrammar$Walk", rfl, by decide, sc_in8, sm_mem 452 (by decide +kernel), Or.inl rfl⟩) (⟨"TwoWayGrammar$Growing", sc_T9, 8, "TwoWayGrammar$Walk", rfl, by decide, sc_in9, sm_mem 452 (by decide +kernel), Or.inl rfl⟩) (⟨"TwoWayGrammar$Printing", sc_T10, 13, "TwoWayGrammar$Walk", rfl, by decide, sc_in10, sm_mem 452 (by decide +kernel), Or.inl rfl⟩), trivial⟩,
  List.forall_mem_cons.mpr ⟨fun pc i hi => by rw [sm_k11 hi]; exact ⟨trivial, sm_pk1 (⟨"TwoWayGrammar$Tree", sc_T7, 4, rfl, sm_mem 1248 (by decide +kernel), sm_mem 107 (by decide +kernel), Or.inl ⟨sm_mem 1247 (by decide +kernel), sm_mem 1249 (by decide +kernel), by decide +kernel⟩⟩)⟩,
  List.forall_mem_cons.mpr ⟨fun pc i hi => by rw [sm_k1 hi]; exact ⟨sm_al3 (⟨"TwoWayGrammar$Parsing", sc_T8, 12, "TwoWayGrammar$Walk", rfl, by decide, sc_in8, sm_mem 438 (by decide +kernel), Or.inl rfl⟩) (⟨"TwoWayGrammar$Growing", sc_T9, 8, "TwoWayGrammar$Walk", rfl, by decide, sc_in9, sm_mem 438 (by decide +kernel), Or.inl rfl⟩) (⟨"TwoWayGrammar$Printing", sc_T10, 13, "TwoWayGrammar$Walk", rfl, by decide, sc_in10, sm_mem 438 (by decide +kernel), Or.inl rfl⟩), trivial⟩,
  List.forall_mem_cons.mpr ⟨fun pc i hi => by rw [sm_k1 hi]; exact ⟨sm_al1 (⟨"TwoWayGrammar$Grammar", sc_T2, 20, "TwoWayGrammar$Grammar", rfl, by decide, sc_in2, sm_mem 175 (by decide +kernel), Or.inl rfl⟩), trivial⟩,
  List.forall_mem_cons.mpr ⟨fun pc i hi => by rw [sm_k9 hi]; exact ⟨trivial, ⟨sm_mem 809 (by decide +kernel), sm_mem 99 (by decide +kernel), by decide +kernel, Or.inr ⟨"TwoWayGrammar", sc_nx_mem 25 (by decide +kernel)⟩⟩⟩,
  List.forall_mem_cons.mpr ⟨fun pc i hi => by rw [sm_k1 hi]; exact ⟨sm_al1 (⟨"TwoWayGrammar$Grammar", sc_T2, 20, "TwoWayGrammar$Grammar", rfl, by decide, sc_in2, sm_mem 180 (by decide +kernel), Or.inl rfl⟩), trivial⟩,
  List.forall_mem_cons.mpr ⟨fun pc i hi => by rw [sm_k11 hi]; exact ⟨trivial, sm_pk1 (⟨"TwoWayGrammar$Grammar", sc_T2, 20, rfl, sm_mem 1296 (by decide +kernel), sm_mem 102 (by decide +kernel), Or.inl ⟨sm_mem 1295 (by decide +kernel), sm_mem 1297 (by decide +kernel), by decide +kernel⟩⟩)⟩,
  List.forall_mem_cons.mpr ⟨fun pc i hi => by rw [sm_k1 hi]; exact ⟨sm_al1 (⟨"TwoWayGrammar$Grammar", sc_T2, 20, "TwoWayGrammar$Grammar", rfl, by decide, sc_in2, sm_mem 219 (by decide +kernel), Or.inl rfl⟩), trivial⟩,
  List.forall_mem_cons.mpr ⟨fun pc i hi => by rw [sm_k1 hi]; exact ⟨sm_al1 (⟨"TwoWayGrammar$Grammar", sc_T2, 20, "TwoWayGrammar$Grammar", rfl, by decide, sc_in2, sm_mem 208 (by decide +kernel), Or.inl rfl⟩), trivial⟩,
  List.forall_mem_cons.mpr ⟨fun pc i hi => by rw [sm_k11 hi]; exact ⟨trivial, sm_pk3 (⟨"TwoWayGrammar$Growing", sc_T9, 8, rfl, sm_mem 1300 (by decide +kernel), sm_mem 108 (by decide +kernel), Or.inr (Or.inr ⟨⟨"TwoWayGrammar$Walk", "pairBegins", "(I)I"⟩, "TwoWayGrammar$Walk", sm_mem 1299 (by decide +kernel), sm_mem 1301 (by decide +kernel), ⟨by decide, by decide⟩, sm_mem 1302 (by decide +kernel), by decide +kernel, Or.inr ⟨sm_mem 1300 (by decide +kernel), prog_12_method_11_code, 2, (some (.int)), sm_mem 1311 (by decide +kernel)⟩⟩)⟩) (⟨"TwoWayGrammar$Parsing", sc_T8, 12, rfl, sm_mem 1300 (by decide +kernel), sm_mem 108 (by decide +kernel), Or.inr (Or.inr ⟨⟨"TwoWayGrammar$Walk", "pairBegins", "(I)I"⟩, "TwoWayGrammar$Walk", sm_mem 1299 (by decide +kernel), sm_mem 1301 (by decide +kernel), ⟨by decide, by decide⟩, sm_mem 1303 (by decide +kernel), by decide +kernel, Or.inr ⟨sm_mem 1300 (by decide +kernel), prog_12_method_11_code, 2, (some (.int)), sm_mem 1311 (by decide +kernel)⟩⟩)⟩) (⟨"TwoWayGrammar$Printing", sc_T10, 13, rfl, sm_mem 1305 (by decide +kernel), sm_mem 111 (by decide +kernel), Or.inr (Or.inr ⟨⟨"TwoWayGrammar$Walk", "pairBegins", "(I)I"⟩, "TwoWayGrammar$Walk", sm_mem 1299 (by decide +kernel), sm_mem 1301 (by decide +kernel), ⟨by decide, by decide⟩, sm_mem 1304 (by decide +kernel), by decide +kernel, Or.inr ⟨sm_mem 1300 (by decide +kernel), prog_12_method_11_code, 2, (some (.int)), sm_mem 1311 (by decide +kernel)⟩⟩)⟩)⟩,
  fun _ h => absurd h List.not_mem_nil⟩⟩⟩⟩⟩⟩⟩⟩⟩⟩⟩⟩⟩⟩⟩⟩⟩⟩⟩⟩
def sp_22_1 : List ((Nat × Nat) × List Nat) := [((11, 110), [0, 1, 9, 150, 8, 150, 10, 149]), ((11, 113), [0, 2, 9, 152, 8, 152, 10, 151]), ((1, 44), [0, 0, 7]), ((1, 116), [15, 0, 2]), ((11, 122), [0, 1, 9, 142, 8, 143, 10, 143]), ((11, 125), [0, 3, 9, 145, 8, 144, 10, 145]), ((1, 129), [11, 0, 2]), ((1, 132), [12, 0, 2]), ((1, 23), [2, 0, 7]), ((11, 40), [0, 1, 7, 148]), ((11, 48), [0, 2, 7, 153])]
set_option maxRecDepth 20000 in
theorem sp_ok_22_1 {K : sm_H} (hK : sc_KOk K) (mn : String) : sm_poolOk sc_Ts sc_sx sc_zx sc_oc K sc_cl sc_Y "TwoWayGrammar$Walk" mn sp_22_1 :=
  List.forall_mem_cons.mpr ⟨fun pc i hi => by rw [sm_k11 hi]; exact ⟨trivial, sm_pk3 (⟨"TwoWayGrammar$Growing", sc_T9, 8, rfl, sm_mem 1400 (by decide +kernel), sm_mem 108 (by decide +kernel), Or.inr (Or.inr ⟨⟨"TwoWayGrammar$Walk", "pairTurns", "(I)I"⟩, "TwoWayGrammar$Walk", sm_mem 1399 (by decide +kernel), sm_mem 1401 (by decide +kernel), ⟨by decide, by decide⟩, sm_mem 1402 (by decide +kernel), by decide +kernel, Or.inr ⟨sm_mem 1400 (by decide +kernel), prog_12_method_12_code, 2, (some (.int)), sm_mem 1407 (by decide +kernel)⟩⟩)⟩) (⟨"TwoWayGrammar$Parsing", sc_T8, 12, rfl, sm_mem 1400 (by decide +kernel), sm_mem 108 (by decide +kernel), Or.inr (Or.inr ⟨⟨"TwoWayGrammar$Walk", "pairTurns", "(I)I"⟩, "TwoWayGrammar$Walk", sm_mem 1399 (by decide +kernel), sm_mem 1401 (by decide +kernel), ⟨by decide, by decide⟩, sm_mem 1403 (by decide +kernel), by decide +kernel, Or.inr ⟨sm_mem 1400 (by decide +kernel), prog_12_method_12_code, 2, (some (.int)), sm_mem 1407 (by decide +kernel)⟩⟩)⟩) (⟨"TwoWayGrammar$Printing", sc_T10, 13, rfl, sm_mem 1405 (by decide +kernel), sm_mem 111 (by decide +kernel), Or.inr (Or.inr ⟨⟨"TwoWayGrammar$Walk", "pairTurns", "(I)I"⟩, "TwoWayGrammar$Walk", sm_mem 1399 (by decide +kernel), sm_mem 1401 (by decide +kernel), ⟨by decide, by decide⟩, sm_mem 1404 (by decide +kernel), by decide +kernel, Or.inr ⟨sm_mem 1400 (by decide +kernel), prog_12_method_12_code, 2, (some (.int)), sm_mem 1407 (by decide +kernel)⟩⟩)⟩)⟩,
  List.forall_mem_cons.mpr ⟨fun pc i hi => by rw [sm_k11 hi]; exact ⟨trivial, sm_pk3 (⟨"TwoWayGrammar$Growing", sc_T9, 8, rfl, sm_mem 1409 (by decide +kernel), sm_mem 108 (by decide +kernel), Or.inr (Or.inr ⟨⟨"TwoWayGrammar$Walk", "pairEnds", "(II)V"⟩, "TwoWayGrammar$Walk", sm_mem 1408 (by decide +kernel), sm_mem 1410 (by decide +kernel), ⟨by decide, by decide⟩, sm_mem 1411 (by decide +kernel), by decide +kernel, Or.inr ⟨sm_mem 1409 (by decide +kernel), prog_12_method_13_code, 3, none, sm_mem 1416 (by decide +kernel)⟩⟩)⟩) (⟨"TwoWayGrammar$Parsing", sc_T8, 12, rfl, sm_mem 1409 (by decide +kernel), sm_mem 108 (by decide +kernel), Or.inr (Or.inr ⟨⟨"TwoWayGrammar$Walk", "pairEnds", "(II)V"⟩, "TwoWayGrammar$Walk", sm_mem 1408 (by decide +kernel), sm_mem 1410 (by decide +kernel), ⟨by decide, by decide⟩, sm_mem 1412 (by decide +kernel), by decide +kernel, Or.inr ⟨sm_mem 1409 (by decide +kernel), prog_12_method_13_code, 3, none, sm_mem 1416 (by decide +kernel)⟩⟩)⟩) (⟨"TwoWayGrammar$Printing", sc_T10, 13, rfl, sm_mem 1414 (by decide +kernel), sm_mem 111 (by decide +kernel), Or.inr (Or.inr ⟨⟨"TwoWayGrammar$Walk", "pairEnds", "(II)V"⟩, "TwoWayGrammar$Walk", sm_mem 1408 (by decide +kernel), sm_mem 1410 (by decide +kernel), ⟨by decide, by decide⟩, sm_mem 1413 (by decide +kernel), by decide +kernel, Or.inr ⟨sm_mem 1409 (by decide +kernel), prog_12_method_13_code, 3, none, sm_mem 1416 (by decide +kernel)⟩⟩)⟩)⟩,
  List.forall_mem_cons.mpr ⟨fun pc i hi => by rw [sm_k1 hi]; exact ⟨sm_al1 (⟨"TwoWayGrammar$Tree", sc_T7, 4, "TwoWayGrammar$Tree", rfl, by decide, sc_in7, sm_mem 403 (by decide +kernel), Or.inl rfl⟩), trivial⟩,
  List.forall_mem_cons.mpr ⟨fun pc i hi => by rw [sm_k1 hi]; exact ⟨sm_al1 (⟨"TwoWayGrammar$Grammar", sc_T2, 20, "TwoWayGrammar$Grammar", rfl, by decide, sc_in2, sm_mem 213 (by decide +kernel), Or.inl rfl⟩), trivial⟩,
  List.forall_mem_cons.mpr ⟨fun pc i hi => by rw [sm_k11 hi]; exact ⟨trivial, sm_pk3 (⟨"TwoWayGrammar$Growing", sc_T9, 8, rfl, sm_mem 1371 (by decide +kernel), sm_mem 110 (by decide +kernel), Or.inr (Or.inr ⟨⟨"TwoWayGrammar$Walk", "timesAhead", "(I)I"⟩, "TwoWayGrammar$Walk", sm_mem 1367 (by decide +kernel), sm_mem 1369 (by decide +kernel), ⟨by decide, by decide⟩, sm_mem 1370 (by decide +kernel), by decide +kernel, Or.inr ⟨sm_mem 1368 (by decide +kernel), prog_12_method_6_code, 2, (some (.int)), sm_mem 1375 (by decide +kernel)⟩⟩)⟩) (⟨"TwoWayGrammar$Parsing", sc_T8, 12, rfl, sm_mem 1368 (by decide +kernel), sm_mem 108 (by decide +kernel), Or.inr (Or.inr ⟨⟨"TwoWayGrammar$Walk", "timesAhead", "(I)I"⟩, "TwoWayGrammar$Walk", sm_mem 1367 (by decide +kernel), sm_mem 1369 (by decide +kernel), ⟨by decide, by decide⟩, sm_mem 1373 (by decide +kernel), by decide +kernel, Or.inr ⟨sm_mem 1368 (by decide +kernel), prog_12_method_6_code, 2, (some (.int)), sm_mem 1375 (by decide +kernel)⟩⟩)⟩) (⟨"TwoWayGrammar$Printing", sc_T10, 13, rfl, sm_mem 1368 (by decide +kernel), sm_mem 108 (by decide +kernel), Or.inr (Or.inr ⟨⟨"TwoWayGrammar$Walk", "timesAhead", "(I)I"⟩, "TwoWayGrammar$Walk", sm_mem 1367 (by decide +kernel), sm_mem 1369 (by decide +kernel), ⟨by decide, by decide⟩, sm_mem 1374 (by decide +kernel), by decide +kernel, Or.inr ⟨sm_mem 1368 (by decide +kernel), prog_12_method_6_code, 2, (some (.int)), sm_mem 1375 (by decide +kernel)⟩⟩)⟩)⟩,
  List.forall_mem_cons.mpr ⟨fun pc i hi => by rw [sm_k11 hi]; exact ⟨trivial, sm_pk3 (⟨"TwoWayGrammar$Growing", sc_T9, 8, rfl, sm_mem 1377 (by decide +kernel), sm_mem 108 (by decide +kernel), Or.inr (Or.inr ⟨⟨"TwoWayGrammar$Walk", "goesOn", "(III)Z"⟩, "TwoWayGrammar$Walk", sm_mem 1376 (by decide +kernel), sm_mem 1378 (by decide +kernel), ⟨by decide, by decide⟩, sm_mem 1379 (by decide +kernel), by decide +kernel, Or.inr ⟨sm_mem 1377 (by decide +kernel), prog_12_method_7_code, 4, (some (.boolean)), sm_mem 1385 (by decide +kernel)⟩⟩)⟩) (⟨"TwoWayGrammar$Parsing", sc_T8, 12, rfl, sm_mem 1381 (by decide +kernel), sm_mem 109 (by decide +kernel), Or.inr (Or.inr ⟨⟨"TwoWayGrammar$Walk", "goesOn", "(III)Z"⟩, "TwoWayGrammar$Walk", sm_mem 1376 (by decide +kernel), sm_mem 1378 (by decide +kernel), ⟨by decide, by decide⟩, sm_mem 1380 (by decide +kernel), by decide +kernel, Or.inr ⟨sm_mem 1377 (by decide +kernel), prog_12_method_7_code, 4, (some (.boolean)), sm_mem 1385 (by decide +kernel)⟩⟩)⟩) (⟨"TwoWayGrammar$Printing", sc_T10, 13, rfl, sm_mem 1377 (by decide +kernel), sm_mem 108 (by decide +kernel), Or.inr (Or.inr ⟨⟨"TwoWayGrammar$Walk", "goesOn", "(III)Z"⟩, "TwoWayGrammar$Walk", sm_mem 1376 (by decide +kernel), sm_mem 1378 (by decide +kernel), ⟨by decide, by decide⟩, sm_mem 1384 (by decide +kernel), by decide +kernel, Or.inr ⟨sm_mem 1377 (by decide +kernel), prog_12_method_7_code, 4, (some (.boolean)), sm_mem 1385 (by decide +kernel)⟩⟩)⟩)⟩,
  List.forall_mem_cons.mpr ⟨fun pc i hi => by rw [sm_k1 hi]; exact ⟨sm_al1 (⟨"TwoWayGrammar$Grammar", sc_T2, 20, "TwoWayGrammar$Grammar", rfl, by decide, sc_in2, sm_mem 197 (by decide +kernel), Or.inl rfl⟩), trivial⟩,
  List.forall_mem_cons.mpr ⟨fun pc i hi => by rw [sm_k1 hi]; exact ⟨sm_al1 (⟨"TwoWayGrammar$Grammar", sc_T2, 20, "TwoWayGrammar$Grammar", rfl, by decide, sc_in2, sm_mem 203 (by decide +kernel), Or.inl rfl⟩), trivial⟩,
  List.forall_mem_cons.mpr ⟨fun pc i hi => by rw [sm_k1 hi]; exact ⟨sm_al1 (⟨"TwoWayGrammar$Tree", sc_T7, 4, "TwoWayGrammar$Tree", rfl, by decide, sc_in7, sm_mem 407 (by decide +kernel), Or.inl rfl⟩), trivial⟩,
  List.forall_mem_cons.mpr ⟨fun pc i hi => by rw [sm_k11 hi]; exact ⟨trivial, sm_pk1 (⟨"TwoWayGrammar$Tree", sc_T7, 4, rfl, sm_mem 1396 (by decide +kernel), sm_mem 107 (by decide +kernel), Or.inl ⟨sm_mem 1395 (by decide +kernel), sm_mem 1397 (by decide +kernel), by decide +kernel⟩⟩)⟩,
  List.forall_mem_cons.mpr ⟨fun pc i hi => by rw [sm_k11 hi]; exact ⟨trivial, sm_pk1 (⟨"TwoWayGrammar$Tree", sc_T7, 4, rfl, sm_mem 1418 (by decide +kernel), sm_mem 107 (by decide +kernel), Or.inl ⟨sm_mem 1417 (by decide +kernel), sm_mem 1419 (by decide +kernel), by decide +kernel⟩⟩)⟩,
  fun _ h => absurd h List.not_mem_nil⟩⟩⟩⟩⟩⟩⟩⟩⟩⟩⟩
def sp_22 : List ((Nat × Nat) × List Nat) := sp_22_0 ++ sp_22_1
theorem sp_ok_22 {K : sm_H} (hK : sc_KOk K) (mn : String) : sm_poolOk sc_Ts sc_sx sc_zx sc_oc K sc_cl sc_Y "TwoWayGrammar$Walk" mn sp_22 := by
  intro e he
  simp only [sp_22, List.mem_append] at he
  rcases he with he | he
  rotate_left
  · exact sp_ok_22_1 hK mn e he
  exact sp_ok_22_0 hK mn e he
def sp_23_0 : List ((Nat × Nat) × List Nat) := [((1, 19), [2, 0, 8, 9, 10]), ((11, 23), [0, 0, 7, 13]), ((1, 15), [7, 0, 9]), ((2, 15), [7, 0, 0, 9]), ((11, 33), [0, 1, 9, 122]), ((1, 37), [0, 0, 8, 9, 10]), ((1, 41), [4, 0, 2]), ((9, 47), [0, 49, 2]), ((11, 51), [0, 1, 9, 123]), ((1, 54), [3, 0, 2]), ((1, 57), [1, 0, 8, 9, 10]), ((1, 61), [9, 0, 5]), ((1, 66), [8, 0, 2]), ((1, 9), [6, 0, 9]), ((8, 29), [6364136223846793005]), ((8, 31), [1442695040888963407]), ((2, 9), [6, 1, 0, 9]), ((1, 69), [11, 0, 2]), ((11, 72), [0, 2, 9, 116]), ((11, 76), [0, 0, 9, 134])]
set_option maxRecDepth 20000 in
theorem sp_ok_23_0 {K : sm_H} (hK : sc_KOk K) (mn : String) : sm_poolOk sc_Ts sc_sx sc_zx sc_oc K sc_cl sc_Y "TwoWayGrammar$Growing" mn sp_23_0 :=
  List.forall_mem_cons.mpr ⟨fun pc i hi => by rw [sm_k1 hi]; exact ⟨sm_al3 (⟨"TwoWayGrammar$Parsing", sc_T8, 12, "TwoWayGrammar$Growing", rfl, by decide, sc_in8, sm_mem 455 (by decide +kernel), Or.inr (sm_mem 456 (by decide +kernel))⟩) (⟨"TwoWayGrammar$Growing", sc_T9, 8, "TwoWayGrammar$Growing", rfl, by decide, sc_in9, sm_mem 455 (by decide +kernel), Or.inr (sm_mem 456 (by decide +kernel))⟩) (⟨"TwoWayGrammar$Printing", sc_T10, 13, "TwoWayGrammar$Growing", rfl, by decide, sc_in10, sm_mem 455 (by decide +kernel), Or.inr (sm_mem 456 (by decide +kernel))⟩), trivial⟩,
  List.forall_mem_cons.mpr ⟨fun pc i hi => by rw [sm_k11 hi]; exact ⟨trivial, sm_pk1 (⟨"TwoWayGrammar$Tree", sc_T7, 4, rfl, sm_mem 603 (by decide +kernel), sm_mem 107 (by decide +kernel), Or.inl ⟨sm_mem 1184 (by decide +kernel), sm_mem 604 (by decide +kernel), by decide +kernel⟩⟩)⟩,
  List.forall_mem_cons.mpr ⟨fun pc i hi => by rw [sm_k1 hi]; exact ⟨sm_al1 (⟨"TwoWayGrammar$Growing", sc_T9, 8, "TwoWayGrammar$Growing", rfl, by decide, sc_in9, sm_mem 502 (by decide +kernel), Or.inl rfl⟩), trivial⟩,
  List.forall_mem_cons.mpr ⟨fun pc i hi => by rw [sm_k2 hi]; exact ⟨sm_al1 (⟨"TwoWayGrammar$Growing", sc_T9, 8, "TwoWayGrammar$Growing", sc_ty9, rfl, by decide, sc_in9, sm_mem 502 (by decide +kernel), Or.inl rfl, sc_tyok9, sc_nm9, Or.inl rfl, Or.inl ⟨rfl, rfl⟩⟩), trivial⟩,
  List.forall_mem_cons.mpr ⟨fun pc i hi => by rw [sm_k11 hi]; exact ⟨trivial, sm_pk1 (⟨"TwoWayGrammar$Growing", sc_T9, 8, rfl, sm_mem 1273 (by decide +kernel), sm_mem 110 (by decide +kernel), Or.inl ⟨sm_mem 1271 (by decide +kernel), sm_mem 37 (by decide +kernel), by decide +kernel⟩⟩)⟩,
  List.forall_mem_cons.mpr ⟨fun pc i hi => by rw [sm_k1 hi]; exact ⟨sm_al3 (⟨"TwoWayGrammar$Parsing", sc_T8, 12, "TwoWayGrammar$Growing", rfl, by decide, sc_in8, sm_mem 439 (by decide +kernel), Or.inr (sm_mem 440 (by decide +kernel))⟩) (⟨"TwoWayGrammar$Growing", sc_T9, 8, "TwoWayGrammar$Growing", rfl, by decide, sc_in9, sm_mem 439 (by decide +kernel), Or.inr (sm_mem 440 (by decide +kernel))⟩) (⟨"TwoWayGrammar$Printing", sc_T10, 13, "TwoWayGrammar$Growing", rfl, by decide, sc_in10, sm_mem 439 (by decide +kernel), Or.inr (sm_mem 440 (by decide +kernel))⟩), trivial⟩,
  List.forall_mem_cons.mpr ⟨fun pc i hi => by rw [sm_k1 hi]; exact ⟨sm_al1 (⟨"TwoWayGrammar$Grammar", sc_T2, 20, "TwoWayGrammar$Grammar", rfl, by decide, sc_in2, sm_mem 171 (by decide +kernel), Or.inl rfl⟩), trivial⟩,
  List.forall_mem_cons.mpr ⟨fun pc i hi => by rw [sm_k9 hi]; exact ⟨trivial, ⟨sm_mem 809 (by decide +kernel), sm_mem 99 (by decide +kernel), by decide +kernel, Or.inr ⟨"TwoWayGrammar", sc_nx_mem 26 (by decide +kernel)⟩⟩⟩,
  List.forall_mem_cons.mpr ⟨fun pc i hi => by rw [sm_k11 hi]; exact ⟨trivial, sm_pk1 (⟨"TwoWayGrammar$Growing", sc_T9, 8, rfl, sm_mem 1278 (by decide +kernel), sm_mem 110 (by decide +kernel), Or.inl ⟨sm_mem 1276 (by decide +kernel), sm_mem 38 (by decide +kernel), by decide +kernel⟩⟩)⟩,
  List.forall_mem_cons.mpr ⟨fun pc i hi => by rw [sm_k1 hi]; exact ⟨sm_al1 (⟨"TwoWayGrammar$Grammar", sc_T2, 20, "TwoWayGrammar$Grammar", rfl, by decide, sc_in2, sm_mem 167 (by decide +kernel), Or.inl rfl⟩), trivial⟩,
  List.forall_mem_cons.mpr ⟨fun pc i hi => by rw [sm_k1 hi]; exact ⟨sm_al3 (⟨"TwoWayGrammar$Parsing", sc_T8, 12, "TwoWayGrammar$Growing", rfl, by decide, sc_in8, sm_mem 448 (by decide +kernel), Or.inr (sm_mem 449 (by decide +kernel))⟩) (⟨"TwoWayGrammar$Growing", sc_T9, 8, "TwoWayGrammar$Growing", rfl, by decide, sc_in9, sm_mem 448 (by decide +kernel), Or.inr (sm_mem 449 (by decide +kernel))⟩) (⟨"TwoWayGrammar$Printing", sc_T10, 13, "TwoWayGrammar$Growing", rfl, by decide, sc_in10, sm_mem 448 (by decide +kernel), Or.inr (sm_mem 449 (by decide +kernel))⟩), trivial⟩,
  List.forall_mem_cons.mpr ⟨fun pc i hi => by rw [sm_k1 hi]; exact ⟨sm_al1 (⟨"TwoWayGrammar$Sets", sc_T5, 16, "TwoWayGrammar$Sets", rfl, by decide, sc_in5, sm_mem 331 (by decide +kernel), Or.inl rfl⟩), trivial⟩,
  List.forall_mem_cons.mpr ⟨fun pc i hi => by rw [sm_k1 hi]; exact ⟨sm_al1 (⟨"TwoWayGrammar$Grammar", sc_T2, 20, "TwoWayGrammar$Grammar", rfl, by decide, sc_in2, sm_mem 183 (by decide +kernel), Or.inl rfl⟩), trivial⟩,
  List.forall_mem_cons.mpr ⟨fun pc i hi => by rw [sm_k1 hi]; exact ⟨sm_al1 (⟨"TwoWayGrammar$Growing", sc_T9, 8, "TwoWayGrammar$Growing", rfl, by decide, sc_in9, sm_mem 501 (by decide +kernel), Or.inl rfl⟩), trivial⟩,
  List.forall_mem_cons.mpr ⟨fun pc i hi => by rw [sm_k8 hi]; exact ⟨sm_mem 1280 (by decide +kernel), trivial⟩,
  List.forall_mem_cons.mpr ⟨fun pc i hi => by rw [sm_k8 hi]; exact ⟨sm_mem 1281 (by decide +kernel), trivial⟩,
  List.forall_mem_cons.mpr ⟨fun pc i hi => by rw [sm_k2 hi]; exact ⟨sm_al1 (⟨"TwoWayGrammar$Growing", sc_T9, 8, "TwoWayGrammar$Growing", sc_ty9, rfl, by decide, sc_in9, sm_mem 501 (by decide +kernel), Or.inl rfl, sc_tyok9, sc_nm9, Or.inl rfl, Or.inr (Or.inl ⟨rfl, rfl⟩)⟩), trivial⟩,
  List.forall_mem_cons.mpr ⟨fun pc i hi => by rw [sm_k1 hi]; exact ⟨sm_al1 (⟨"TwoWayGrammar$Grammar", sc_T2, 20, "TwoWayGrammar$Grammar", rfl, by decide, sc_in2, sm_mem 194 (by decide +kernel), Or.inl rfl⟩), trivial⟩,
  List.forall_mem_cons.mpr ⟨fun pc i hi => by rw [sm_k11 hi]; exact ⟨trivial, sm_pk1 (⟨"TwoWayGrammar$Growing", sc_T9, 8, rfl, sm_mem 1239 (by decide +kernel), sm_mem 108 (by decide +kernel), Or.inr (Or.inr ⟨⟨"TwoWayGrammar$Growing", "enter", "(II)I"⟩, "TwoWayGrammar$Walk", sm_mem 1326 (by decide +kernel), sm_mem 1327 (by decide +kernel), ⟨by decide, by decide⟩, sm_mem 1329 (by decide +kernel), by decide +kernel, Or.inr ⟨sm_mem 1239 (by decide +kernel), prog_12_method_9_code, 4, (some (.int)), sm_mem 1246 (by decide +kernel)⟩⟩)⟩)⟩,
  List.forall_mem_cons.mpr ⟨fun pc i hi => by rw [sm_k11 hi]; exact ⟨trivial, sm_pk1 (⟨"TwoWayGrammar$Growing", sc_T9, 8, rfl, sm_mem 1332 (by decide +kernel), sm_mem 110 (by decide +kernel), Or.inl ⟨sm_mem 1330 (by decide +kernel), sm_mem 40 (by decide +kernel), by decide +kernel⟩⟩)⟩,
  fun _ h => absurd h List.not_mem_nil⟩⟩⟩⟩⟩⟩⟩⟩⟩⟩⟩⟩⟩⟩⟩⟩⟩⟩⟩⟩
def sp_23_1 : List ((Nat × Nat) × List Nat) := [((11, 80), [0, 1, 2, 58])]
set_option maxRecDepth 20000 in
theorem sp_ok_23_1 {K : sm_H} (hK : sc_KOk K) (mn : String) : sm_poolOk sc_Ts sc_sx sc_zx sc_oc K sc_cl sc_Y "TwoWayGrammar$Growing" mn sp_23_1 :=
  List.forall_mem_cons.mpr ⟨fun pc i hi => by rw [sm_k11 hi]; exact ⟨trivial, sm_pk1 (⟨"TwoWayGrammar$Grammar", sc_T2, 20, rfl, sm_mem 845 (by decide +kernel), sm_mem 102 (by decide +kernel), Or.inl ⟨sm_mem 1334 (by decide +kernel), sm_mem 846 (by decide +kernel), by decide +kernel⟩⟩)⟩,
  fun _ h => absurd h List.not_mem_nil⟩
def sp_23 : List ((Nat × Nat) × List Nat) := sp_23_0 ++ sp_23_1
theorem sp_ok_23 {K : sm_H} (hK : sc_KOk K) (mn : String) : sm_poolOk sc_Ts sc_sx sc_zx sc_oc K sc_cl sc_Y "TwoWayGrammar$Growing" mn sp_23 := by
  intro e he
  simp only [sp_23, List.mem_append] at he
  rcases he with he | he
  rotate_left
  · exact sp_ok_23_1 hK mn e he
  exact sp_ok_23_0 hK mn e he
def sp_24_0 : List ((Nat × Nat) × List Nat) := [((1, 15), [2, 0, 8, 9, 10]), ((11, 19), [0, 0, 7, 13]), ((2, 25), [11, 0, 0, 8]), ((2, 29), [7, 0, 0, 8]), ((11, 32), [0, 0, 8, 106]), ((1, 9), [6, 0, 8]), ((1, 29), [7, 0, 8]), ((11, 48), [0, 1, 1, 19]), ((2, 41), [8, 0, 0, 8]), ((1, 41), [8, 0, 8]), ((11, 54), [0, 1, 1, 20]), ((11, 58), [0, 0, 1, 22]), ((2, 35), [9, 0, 0, 8]), ((9, 62), [0, 37, 1]), ((11, 66), [0, 0, 8, 107]), ((9, 69), [0, 23, 1]), ((11, 72), [0, 0, 8, 109]), ((9, 75), [0, 38, 1]), ((11, 79), [0, 2, 8, 110]), ((1, 35), [9, 0, 8])]
set_option maxRecDepth 20000 in
theorem sp_ok_24_0 {K : sm_H} (hK : sc_KOk K) (mn : String) : sm_poolOk sc_Ts sc_sx sc_zx sc_oc K sc_cl sc_Y "TwoWayGrammar$Parsing" mn sp_24_0 :=
  List.forall_mem_cons.mpr ⟨fun pc i hi => by rw [sm_k1 hi]; exact ⟨sm_al3 (⟨"TwoWayGrammar$Parsing", sc_T8, 12, "TwoWayGrammar$Parsing", rfl, by decide, sc_in8, sm_mem 453 (by decide +kernel), Or.inr (sm_mem 454 (by decide +kernel))⟩) (⟨"TwoWayGrammar$Growing", sc_T9, 8, "TwoWayGrammar$Parsing", rfl, by decide, sc_in9, sm_mem 453 (by decide +kernel), Or.inr (sm_mem 454 (by decide +kernel))⟩) (⟨"TwoWayGrammar$Printing", sc_T10, 13, "TwoWayGrammar$Parsing", rfl, by decide, sc_in10, sm_mem 453 (by decide +kernel), Or.inr (sm_mem 454 (by decide +kernel))⟩), trivial⟩,
  List.forall_mem_cons.mpr ⟨fun pc i hi => by rw [sm_k11 hi]; exact ⟨trivial, sm_pk1 (⟨"TwoWayGrammar$Tree", sc_T7, 4, rfl, sm_mem 603 (by decide +kernel), sm_mem 107 (by decide +kernel), Or.inl ⟨sm_mem 1188 (by decide +kernel), sm_mem 604 (by decide +kernel), by decide +kernel⟩⟩)⟩,
  List.forall_mem_cons.mpr ⟨fun pc i hi => by rw [sm_k2 hi]; exact ⟨sm_al1 (⟨"TwoWayGrammar$Parsing", sc_T8, 12, "TwoWayGrammar$Parsing", sc_ty8, rfl, by decide, sc_in8, sm_mem 436 (by decide +kernel), Or.inl rfl, sc_tyok8, sc_nm8, Or.inl rfl, Or.inl ⟨rfl, rfl⟩⟩), trivial⟩,
  List.forall_mem_cons.mpr ⟨fun pc i hi => by rw [sm_k2 hi]; exact ⟨sm_al1 (⟨"TwoWayGrammar$Parsing", sc_T8, 12, "TwoWayGrammar$Parsing", sc_ty8, rfl, by decide, sc_in8, sm_mem 432 (by decide +kernel), Or.inl rfl, sc_tyok8, sc_nm8, Or.inl rfl, Or.inl ⟨rfl, rfl⟩⟩), trivial⟩,
  List.forall_mem_cons.mpr ⟨fun pc i hi => by rw [sm_k11 hi]; exact ⟨trivial, sm_pk1 (⟨"TwoWayGrammar$Parsing", sc_T8, 12, rfl, sm_mem 1191 (by decide +kernel), sm_mem 109 (by decide +kernel), Or.inl ⟨sm_mem 1189 (by decide +kernel), sm_mem 32 (by decide +kernel), by decide +kernel⟩⟩)⟩,
  List.forall_mem_cons.mpr ⟨fun pc i hi => by rw [sm_k1 hi]; exact ⟨sm_al1 (⟨"TwoWayGrammar$Parsing", sc_T8, 12, "TwoWayGrammar$Parsing", rfl, by decide, sc_in8, sm_mem 431 (by decide +kernel), Or.inl rfl⟩), trivial⟩,
  List.forall_mem_cons.mpr ⟨fun pc i hi => by rw [sm_k1 hi]; exact ⟨sm_al1 (⟨"TwoWayGrammar$Parsing", sc_T8, 12, "TwoWayGrammar$Parsing", rfl, by decide, sc_in8, sm_mem 432 (by decide +kernel), Or.inl rfl⟩), trivial⟩,
  List.forall_mem_cons.mpr ⟨fun pc i hi => by rw [sm_k11 hi]; exact ⟨trivial, sm_pk1 (⟨"TwoWayGrammar$Text", sc_T1, 2, rfl, sm_mem 626 (by decide +kernel), sm_mem 100 (by decide +kernel), Or.inl ⟨sm_mem 1193 (by decide +kernel), sm_mem 627 (by decide +kernel), by decide +kernel⟩⟩)⟩,
  List.forall_mem_cons.mpr ⟨fun pc i hi => by rw [sm_k2 hi]; exact ⟨sm_al1 (⟨"TwoWayGrammar$Parsing", sc_T8, 12, "TwoWayGrammar$Parsing", sc_ty8, rfl, by decide, sc_in8, sm_mem 433 (by decide +kernel), Or.inl rfl, sc_tyok8, sc_nm8, Or.inl rfl, Or.inl ⟨rfl, rfl⟩⟩), trivial⟩,
  List.forall_mem_cons.mpr ⟨fun pc i hi => by rw [sm_k1 hi]; exact ⟨sm_al1 (⟨"TwoWayGrammar$Parsing", sc_T8, 12, "TwoWayGrammar$Parsing", rfl, by decide, sc_in8, sm_mem 433 (by decide +kernel), Or.inl rfl⟩), trivial⟩,
  List.forall_mem_cons.mpr ⟨fun pc i hi => by rw [sm_k11 hi]; exact ⟨trivial, sm_pk1 (⟨"TwoWayGrammar$Text", sc_T1, 2, rfl, sm_mem 630 (by decide +kernel), sm_mem 100 (by decide +kernel), Or.inl ⟨sm_mem 1194 (by decide +kernel), sm_mem 631 (by decide +kernel), by decide +kernel⟩⟩)⟩,
  List.forall_mem_cons.mpr ⟨fun pc i hi => by rw [sm_k11 hi]; exact ⟨trivial, sm_pk1 (⟨"TwoWayGrammar$Text", sc_T1, 2, rfl, sm_mem 638 (by decide +kernel), sm_mem 100 (by decide +kernel), Or.inl ⟨sm_mem 1195 (by decide +kernel), sm_mem 639 (by decide +kernel), by decide +kernel⟩⟩)⟩,
  List.forall_mem_cons.mpr ⟨fun pc i hi => by rw [sm_k2 hi]; exact ⟨sm_al1 (⟨"TwoWayGrammar$Parsing", sc_T8, 12, "TwoWayGrammar$Parsing", sc_ty8, rfl, by decide, sc_in8, sm_mem 434 (by decide +kernel), Or.inl rfl, sc_tyok8, sc_nm8, Or.inl rfl, Or.inl ⟨rfl, rfl⟩⟩), trivial⟩,
  List.forall_mem_cons.mpr ⟨fun pc i hi => by rw [sm_k9 hi]; exact ⟨trivial, ⟨sm_mem 729 (by decide +kernel), sm_mem 99 (by decide +kernel), by decide +kernel, Or.inr ⟨"TwoWayGrammar", sc_nx_mem 21 (by decide +kernel)⟩⟩⟩,
  List.forall_mem_cons.mpr ⟨fun pc i hi => by rw [sm_k11 hi]; exact ⟨trivial, sm_pk1 (⟨"TwoWayGrammar$Parsing", sc_T8, 12, rfl, sm_mem 1199 (by decide +kernel), sm_mem 109 (by decide +kernel), Or.inl ⟨sm_mem 1197 (by decide +kernel), sm_mem 33 (by decide +kernel), by decide +kernel⟩⟩)⟩,
  List.forall_mem_cons.mpr ⟨fun pc i hi => by rw [sm_k9 hi]; exact ⟨trivial, ⟨sm_mem 642 (by decide +kernel), sm_mem 99 (by decide +kernel), by decide +kernel, Or.inr ⟨"TwoWayGrammar", sc_nx_mem 23 (by decide +kernel)⟩⟩⟩,
  List.forall_mem_cons.mpr ⟨fun pc i hi => by rw [sm_k11 hi]; exact ⟨trivial, sm_pk1 (⟨"TwoWayGrammar$Parsing", sc_T8, 12, rfl, sm_mem 1209 (by decide +kernel), sm_mem 109 (by decide +kernel), Or.inl ⟨sm_mem 1207 (by decide +kernel), sm_mem 34 (by decide +kernel), by decide +kernel⟩⟩)⟩,
  List.forall_mem_cons.mpr ⟨fun pc i hi => by rw [sm_k9 hi]; exact ⟨trivial, ⟨sm_mem 732 (by decide +kernel), sm_mem 99 (by decide +kernel), by decide +kernel, Or.inr ⟨"TwoWayGrammar", sc_nx_mem 24 (by decide +kernel)⟩⟩⟩,
  List.forall_mem_cons.mpr ⟨fun pc i hi => by rw [sm_k11 hi]; exact ⟨trivial, sm_pk1 (⟨"TwoWayGrammar$Parsing", sc_T8, 12, rfl, sm_mem 1215 (by decide +kernel), sm_mem 109 (by decide +kernel), Or.inl ⟨sm_mem 1213 (by decide +kernel), sm_mem 35 (by decide +kernel), by decide +kernel⟩⟩)⟩,
  List.forall_mem_cons.mpr ⟨fun pc i hi => by rw [sm_k1 hi]; exact ⟨sm_al1 (⟨"TwoWayGrammar$Parsing", sc_T8, 12, "TwoWayGrammar$Parsing", rfl, by decide, sc_in8, sm_mem 434 (by decide +kernel), Or.inl rfl⟩), trivial⟩,
  fun _ h => absurd h List.not_mem_nil⟩⟩⟩⟩⟩⟩⟩⟩⟩⟩⟩⟩⟩⟩⟩⟩⟩⟩⟩⟩
def sp_24_1 : List ((Nat × Nat) × List Nat) := [((11, 38), [0, 0, 8, 111]), ((11, 83), [0, 1, 1, 108]), ((2, 86), [10, 0, 0, 8]), ((1, 86), [10, 0, 8]), ((11, 89), [0, 1, 1, 25]), ((11, 92), [0, 2, 1, 34]), ((1, 95), [0, 0, 8, 9, 10]), ((11, 99), [0, 1, 2, 58]), ((2, 44), [3, 3, 0, 8, 9, 10]), ((1, 104), [3, 0, 2]), ((9, 108), [0, 49, 2]), ((1, 111), [4, 0, 2]), ((1, 114), [1, 0, 8, 9, 10]), ((1, 118), [10, 0, 5]), ((9, 124), [0, 72, 2]), ((11, 127), [0, 1, 8, 125]), ((1, 131), [8, 0, 2]), ((1, 134), [12, 0, 5]), ((1, 144), [12, 0, 2]), ((11, 147), [0, 2, 8, 116])]
set_option maxRecDepth 20000 in
theorem sp_ok_24_1 {K : sm_H} (hK : sc_KOk K) (mn : String) : sm_poolOk sc_Ts sc_sx sc_zx sc_oc K sc_cl sc_Y "TwoWayGrammar$Parsing" mn sp_24_1 :=
  List.forall_mem_cons.mpr ⟨fun pc i hi => by rw [sm_k11 hi]; exact ⟨trivial, sm_pk1 (⟨"TwoWayGrammar$Parsing", sc_T8, 12, rfl, sm_mem 1221 (by decide +kernel), sm_mem 109 (by decide +kernel), Or.inl ⟨sm_mem 1219 (by decide +kernel), sm_mem 36 (by decide +kernel), by decide +kernel⟩⟩)⟩,
  List.forall_mem_cons.mpr ⟨fun pc i hi => by rw [sm_k11 hi]; exact ⟨trivial, sm_pk1 (⟨"TwoWayGrammar$Text", sc_T1, 2, rfl, sm_mem 1202 (by decide +kernel), sm_mem 100 (by decide +kernel), Or.inl ⟨sm_mem 1201 (by decide +kernel), sm_mem 1203 (by decide +kernel), by decide +kernel⟩⟩)⟩,
  List.forall_mem_cons.mpr ⟨fun pc i hi => by rw [sm_k2 hi]; exact ⟨sm_al1 (⟨"TwoWayGrammar$Parsing", sc_T8, 12, "TwoWayGrammar$Parsing", sc_ty8, rfl, by decide, sc_in8, sm_mem 435 (by decide +kernel), Or.inl rfl, sc_tyok8, sc_nm8, Or.inl rfl, Or.inl ⟨rfl, rfl⟩⟩), trivial⟩,
  List.forall_mem_cons.mpr ⟨fun pc i hi => by rw [sm_k1 hi]; exact ⟨sm_al1 (⟨"TwoWayGrammar$Parsing", sc_T8, 12, "TwoWayGrammar$Parsing", rfl, by decide, sc_in8, sm_mem 435 (by decide +kernel), Or.inl rfl⟩), trivial⟩,
  List.forall_mem_cons.mpr ⟨fun pc i hi => by rw [sm_k11 hi]; exact ⟨trivial, sm_pk1 (⟨"TwoWayGrammar$Text", sc_T1, 2, rfl, sm_mem 649 (by decide +kernel), sm_mem 100 (by decide +kernel), Or.inl ⟨sm_mem 1211 (by decide +kernel), sm_mem 650 (by decide +kernel), by decide +kernel⟩⟩)⟩,
  List.forall_mem_cons.mpr ⟨fun pc i hi => by rw [sm_k11 hi]; exact ⟨trivial, sm_pk1 (⟨"TwoWayGrammar$Text", sc_T1, 2, rfl, sm_mem 717 (by decide +kernel), sm_mem 100 (by decide +kernel), Or.inl ⟨sm_mem 1212 (by decide +kernel), sm_mem 718 (by decide +kernel), by decide +kernel⟩⟩)⟩,
  List.forall_mem_cons.mpr ⟨fun pc i hi => by rw [sm_k1 hi]; exact ⟨sm_al3 (⟨"TwoWayGrammar$Parsing", sc_T8, 12, "TwoWayGrammar$Parsing", rfl, by decide, sc_in8, sm_mem 441 (by decide +kernel), Or.inr (sm_mem 442 (by decide +kernel))⟩) (⟨"TwoWayGrammar$Growing", sc_T9, 8, "TwoWayGrammar$Parsing", rfl, by decide, sc_in9, sm_mem 441 (by decide +kernel), Or.inr (sm_mem 442 (by decide +kernel))⟩) (⟨"TwoWayGrammar$Printing", sc_T10, 13, "TwoWayGrammar$Parsing", rfl, by decide, sc_in10, sm_mem 441 (by decide +kernel), Or.inr (sm_mem 442 (by decide +kernel))⟩), trivial⟩,
  List.forall_mem_cons.mpr ⟨fun pc i hi => by rw [sm_k11 hi]; exact ⟨trivial, sm_pk1 (⟨"TwoWayGrammar$Grammar", sc_T2, 20, rfl, sm_mem 845 (by decide +kernel), sm_mem 102 (by decide +kernel), Or.inl ⟨sm_mem 1217 (by decide +kernel), sm_mem 846 (by decide +kernel), by decide +kernel⟩⟩)⟩,
  List.forall_mem_cons.mpr ⟨fun pc i hi => by rw [sm_k2 hi]; exact ⟨sm_al3 (⟨"TwoWayGrammar$Parsing", sc_T8, 12, "TwoWayGrammar$Parsing", sc_ty8, rfl, by decide, sc_in8, sm_mem 459 (by decide +kernel), Or.inr (sm_mem 460 (by decide +kernel)), sc_tyok8, sc_nm8, Or.inl rfl, Or.inr (Or.inr (Or.inr (Or.inl ⟨rfl, rfl⟩)))⟩) (⟨"TwoWayGrammar$Growing", sc_T9, 8, "TwoWayGrammar$Parsing", sc_ty9, rfl, by decide, sc_in9, sm_mem 459 (by decide +kernel), Or.inr (sm_mem 460 (by decide +kernel)), sc_tyok9, sc_nm9, Or.inl rfl, Or.inr (Or.inr (Or.inr (Or.inl ⟨rfl, rfl⟩)))⟩) (⟨"TwoWayGrammar$Printing", sc_T10, 13, "TwoWayGrammar$Parsing", sc_ty10, rfl, by decide, sc_in10, sm_mem 459 (by decide +kernel), Or.inr (sm_mem 460 (by decide +kernel)), sc_tyok10, sc_nm10, Or.inl rfl, Or.inr (Or.inr (Or.inr (Or.inl ⟨rfl, rfl⟩)))⟩), trivial⟩,
  List.forall_mem_cons.mpr ⟨fun pc i hi => by rw [sm_k1 hi]; exact ⟨sm_al1 (⟨"TwoWayGrammar$Grammar", sc_T2, 20, "TwoWayGrammar$Grammar", rfl, by decide, sc_in2, sm_mem 168 (by decide +kernel), Or.inl rfl⟩), trivial⟩,
  List.forall_mem_cons.mpr ⟨fun pc i hi => by rw [sm_k9 hi]; exact ⟨trivial, ⟨sm_mem 809 (by decide +kernel), sm_mem 99 (by decide +kernel), by decide +kernel, Or.inr ⟨"TwoWayGrammar", sc_nx_mem 27 (by decide +kernel)⟩⟩⟩,
  List.forall_mem_cons.mpr ⟨fun pc i hi => by rw [sm_k1 hi]; exact ⟨sm_al1 (⟨"TwoWayGrammar$Grammar", sc_T2, 20, "TwoWayGrammar$Grammar", rfl, by decide, sc_in2, sm_mem 173 (by decide +kernel), Or.inl rfl⟩), trivial⟩,
  List.forall_mem_cons.mpr ⟨fun pc i hi => by rw [sm_k1 hi]; exact ⟨sm_al3 (⟨"TwoWayGrammar$Parsing", sc_T8, 12, "TwoWayGrammar$Parsing", rfl, by decide, sc_in8, sm_mem 450 (by decide +kernel), Or.inr (sm_mem 451 (by decide +kernel))⟩) (⟨"TwoWayGrammar$Growing", sc_T9, 8, "TwoWayGrammar$Parsing", rfl, by decide, sc_in9, sm_mem 450 (by decide +kernel), Or.inr (sm_mem 451 (by decide +kernel))⟩) (⟨"TwoWayGrammar$Printing", sc_T10, 13, "TwoWayGrammar$Parsing", rfl, by decide, sc_in10, sm_mem 450 (by decide +kernel), Or.inr (sm_mem 451 (by decide +kernel))⟩), trivial⟩,
  List.forall_mem_cons.mpr ⟨fun pc i hi => by rw [sm_k1 hi]; exact ⟨sm_al1 (⟨"TwoWayGrammar$Sets", sc_T5, 16, "TwoWayGrammar$Sets", rfl, by decide, sc_in5, sm_mem 334 (by decide +kernel), Or.inl rfl⟩), trivial⟩,
  List.forall_mem_cons.mpr ⟨fun pc i hi => by rw [sm_k9 hi]; exact ⟨trivial, ⟨sm_mem 906 (by decide +kernel), sm_mem 99 (by decide +kernel), by decide +kernel, Or.inr ⟨"TwoWayGrammar", sc_nx_mem 28 (by decide +kernel)⟩⟩⟩,
  List.forall_mem_cons.mpr ⟨fun pc i hi => by rw [sm_k11 hi]; exact ⟨trivial, sm_pk1 (⟨"TwoWayGrammar$Parsing", sc_T8, 12, rfl, sm_mem 1289 (by decide +kernel), sm_mem 109 (by decide +kernel), Or.inl ⟨sm_mem 1287 (by decide +kernel), sm_mem 39 (by decide +kernel), by decide +kernel⟩⟩)⟩,
  List.forall_mem_cons.mpr ⟨fun pc i hi => by rw [sm_k1 hi]; exact ⟨sm_al1 (⟨"TwoWayGrammar$Grammar", sc_T2, 20, "TwoWayGrammar$Grammar", rfl, by decide, sc_in2, sm_mem 184 (by decide +kernel), Or.inl rfl⟩), trivial⟩,
  List.forall_mem_cons.mpr ⟨fun pc i hi => by rw [sm_k1 hi]; exact ⟨sm_al1 (⟨"TwoWayGrammar$Sets", sc_T5, 16, "TwoWayGrammar$Sets", rfl, by decide, sc_in5, sm_mem 339 (by decide +kernel), Or.inl rfl⟩), trivial⟩,
  List.forall_mem_cons.mpr ⟨fun pc i hi => by rw [sm_k1 hi]; exact ⟨sm_al1 (⟨"TwoWayGrammar$Grammar", sc_T2, 20, "TwoWayGrammar$Grammar", rfl, by decide, sc_in2, sm_mem 202 (by decide +kernel), Or.inl rfl⟩), trivial⟩,
  List.forall_mem_cons.mpr ⟨fun pc i hi => by rw [sm_k11 hi]; exact ⟨trivial, sm_pk1 (⟨"TwoWayGrammar$Parsing", sc_T8, 12, rfl, sm_mem 1239 (by decide +kernel), sm_mem 108 (by decide +kernel), Or.inr (Or.inr ⟨⟨"TwoWayGrammar$Parsing", "enter", "(II)I"⟩, "TwoWayGrammar$Walk", sm_mem 1338 (by decide +kernel), sm_mem 1339 (by decide +kernel), ⟨by decide, by decide⟩, sm_mem 1340 (by decide +kernel), by decide +kernel, Or.inr ⟨sm_mem 1239 (by decide +kernel), prog_12_method_9_code, 4, (some (.int)), sm_mem 1246 (by decide +kernel)⟩⟩)⟩)⟩,
  fun _ h => absurd h List.not_mem_nil⟩⟩⟩⟩⟩⟩⟩⟩⟩⟩⟩⟩⟩⟩⟩⟩⟩⟩⟩⟩
def sp_24_2 : List ((Nat × Nat) × List Nat) := [((1, 44), [3, 0, 8, 9, 10]), ((1, 137), [2, 0, 7]), ((9, 140), [0, 16, 3])]
set_option maxRecDepth 20000 in
theorem sp_ok_24_2 {K : sm_H} (hK : sc_KOk K) (mn : String) : sm_poolOk sc_Ts sc_sx sc_zx sc_oc K sc_cl sc_Y "TwoWayGrammar$Parsing" mn sp_24_2 :=
  List.forall_mem_cons.mpr ⟨fun pc i hi => by rw [sm_k1 hi]; exact ⟨sm_al3 (⟨"TwoWayGrammar$Parsing", sc_T8, 12, "TwoWayGrammar$Parsing", rfl, by decide, sc_in8, sm_mem 459 (by decide +kernel), Or.inr (sm_mem 460 (by decide +kernel))⟩) (⟨"TwoWayGrammar$Growing", sc_T9, 8, "TwoWayGrammar$Parsing", rfl, by decide, sc_in9, sm_mem 459 (by decide +kernel), Or.inr (sm_mem 460 (by decide +kernel))⟩) (⟨"TwoWayGrammar$Printing", sc_T10, 13, "TwoWayGrammar$Parsing", rfl, by decide, sc_in10, sm_mem 459 (by decide +kernel), Or.inr (sm_mem 460 (by decide +kernel))⟩), trivial⟩,
  List.forall_mem_cons.mpr ⟨fun pc i hi => by rw [sm_k1 hi]; exact ⟨sm_al1 (⟨"TwoWayGrammar$Tree", sc_T7, 4, "TwoWayGrammar$Tree", rfl, by decide, sc_in7, sm_mem 410 (by decide +kernel), Or.inl rfl⟩), trivial⟩,
  List.forall_mem_cons.mpr ⟨fun pc i hi => by rw [sm_k9 hi]; exact ⟨trivial, ⟨sm_mem 615 (by decide +kernel), sm_mem 99 (by decide +kernel), by decide +kernel, Or.inr ⟨"TwoWayGrammar", sc_nx_mem 30 (by decide +kernel)⟩⟩⟩,
  fun _ h => absurd h List.not_mem_nil⟩⟩⟩
def sp_24 : List ((Nat × Nat) × List Nat) := sp_24_0 ++ sp_24_1 ++ sp_24_2
theorem sp_ok_24 {K : sm_H} (hK : sc_KOk K) (mn : String) : sm_poolOk sc_Ts sc_sx sc_zx sc_oc K sc_cl sc_Y "TwoWayGrammar$Parsing" mn sp_24 := by
  intro e he
  simp only [sp_24, List.mem_append] at he
  rcases he with he | he
  rotate_left
  · exact sp_ok_24_2 hK mn e he
  rcases he with he | he
  rotate_left
  · exact sp_ok_24_1 hK mn e he
  exact sp_ok_24_0 hK mn e he
def sp_25_0 : List ((Nat × Nat) × List Nat) := [((1, 9), [6, 0, 10]), ((11, 15), [0, 0, 1, 90]), ((2, 21), [7, 0, 0, 10]), ((2, 25), [8, 0, 0, 10]), ((2, 28), [9, 3, 0, 10]), ((2, 32), [10, 3, 0, 10]), ((2, 35), [11, 3, 0, 10]), ((2, 38), [12, 3, 0, 10]), ((1, 21), [7, 0, 10]), ((1, 41), [2, 0, 8, 9, 10]), ((1, 65), [2, 0, 7]), ((9, 55), [0, 49, 2]), ((1, 45), [1, 0, 8, 9, 10]), ((1, 49), [14, 0, 5]), ((11, 59), [0, 2, 7, 129]), ((1, 68), [0, 0, 8, 9, 10]), ((1, 72), [12, 0, 2]), ((1, 77), [11, 0, 2]), ((11, 80), [0, 0, 10, 137]), ((11, 84), [0, 1, 10, 138])]
set_option maxRecDepth 20000 in
theorem sp_ok_25_0 {K : sm_H} (hK : sc_KOk K) (mn : String) : sm_poolOk sc_Ts sc_sx sc_zx sc_oc K sc_cl sc_Y "TwoWayGrammar$Printing" mn sp_25_0 :=
  List.forall_mem_cons.mpr ⟨fun pc i hi => by rw [sm_k1 hi]; exact ⟨sm_al1 (⟨"TwoWayGrammar$Printing", sc_T10, 13, "TwoWayGrammar$Printing", rfl, by decide, sc_in10, sm_mem 520 (by decide +kernel), Or.inl rfl⟩), trivial⟩,
  List.forall_mem_cons.mpr ⟨fun pc i hi => by rw [sm_k11 hi]; exact ⟨trivial, sm_pk1 (⟨"TwoWayGrammar$Text", sc_T1, 2, rfl, sm_mem 985 (by decide +kernel), sm_mem 100 (by decide +kernel), Or.inl ⟨sm_mem 1226 (by decide +kernel), sm_mem 986 (by decide +kernel), by decide +kernel⟩⟩)⟩,
  List.forall_mem_cons.mpr ⟨fun pc i hi => by rw [sm_k2 hi]; exact ⟨sm_al1 (⟨"TwoWayGrammar$Printing", sc_T10, 13, "TwoWayGrammar$Printing", sc_ty10, rfl, by decide, sc_in10, sm_mem 521 (by decide +kernel), Or.inl rfl, sc_tyok10, sc_nm10, Or.inl rfl, Or.inl ⟨rfl, rfl⟩⟩), trivial⟩,
  List.forall_mem_cons.mpr ⟨fun pc i hi => by rw [sm_k2 hi]; exact ⟨sm_al1 (⟨"TwoWayGrammar$Printing", sc_T10, 13, "TwoWayGrammar$Printing", sc_ty10, rfl, by decide, sc_in10, sm_mem 522 (by decide +kernel), Or.inl rfl, sc_tyok10, sc_nm10, Or.inl rfl, Or.inl ⟨rfl, rfl⟩⟩), trivial⟩,
  List.forall_mem_cons.mpr ⟨fun pc i hi => by rw [sm_k2 hi]; exact ⟨sm_al1 (⟨"TwoWayGrammar$Printing", sc_T10, 13, "TwoWayGrammar$Printing", sc_ty10, rfl, by decide, sc_in10, sm_mem 523 (by decide +kernel), Or.inl rfl, sc_tyok10, sc_nm10, Or.inl rfl, Or.inr (Or.inr (Or.inr (Or.inl ⟨rfl, rfl⟩)))⟩), trivial⟩,
  List.forall_mem_cons.mpr ⟨fun pc i hi => by rw [sm_k2 hi]; exact ⟨sm_al1 (⟨"TwoWayGrammar$Printing", sc_T10, 13, "TwoWayGrammar$Printing", sc_ty10, rfl, by decide, sc_in10, sm_mem 524 (by decide +kernel), Or.inl rfl, sc_tyok10, sc_nm10, Or.inl rfl, Or.inr (Or.inr (Or.inr (Or.inl ⟨rfl, rfl⟩)))⟩), trivial⟩,
  List.forall_mem_cons.mpr ⟨fun pc i hi => by rw [sm_k2 hi]; exact ⟨sm_al1 (⟨"TwoWayGrammar$Printing", sc_T10, 13, "TwoWayGrammar$Printing", sc_ty10, rfl, by decide, sc_in10, sm_mem 525 (by decide +kernel), Or.inl rfl, sc_tyok10, sc_nm10, Or.inl rfl, Or.inr (Or.inr (Or.inr (Or.inl ⟨rfl, rfl⟩)))⟩), trivial⟩,
  List.forall_mem_cons.mpr ⟨fun pc i hi => by rw [sm_k2 hi]; exact ⟨sm_al1 (⟨"TwoWayGrammar$Printing", sc_T10, 13, "TwoWayGrammar$Printing", sc_ty10, rfl, by decide, sc_in10, sm_mem 526 (by decide +kernel), Or.inl rfl, sc_tyok10, sc_nm10, Or.inl rfl, Or.inr (Or.inr (Or.inr (Or.inl ⟨rfl, rfl⟩)))⟩), trivial⟩,
  List.forall_mem_cons.mpr ⟨fun pc i hi => by rw [sm_k1 hi]; exact ⟨sm_al1 (⟨"TwoWayGrammar$Printing", sc_T10, 13, "TwoWayGrammar$Printing", rfl, by decide, sc_in10, sm_mem 521 (by decide +kernel), Or.inl rfl⟩), trivial⟩,
  List.forall_mem_cons.mpr ⟨fun pc i hi => by rw [sm_k1 hi]; exact ⟨sm_al3 (⟨"TwoWayGrammar$Parsing", sc_T8, 12, "TwoWayGrammar$Printing", rfl, by decide, sc_in8, sm_mem 457 (by decide +kernel), Or.inr (sm_mem 458 (by decide +kernel))⟩) (⟨"TwoWayGrammar$Growing", sc_T9, 8, "TwoWayGrammar$Printing", rfl, by decide, sc_in9, sm_mem 457 (by decide +kernel), Or.inr (sm_mem 458 (by decide +kernel))⟩) (⟨"TwoWayGrammar$Printing", sc_T10, 13, "TwoWayGrammar$Printing", rfl, by decide, sc_in10, sm_mem 457 (by decide +kernel), Or.inr (sm_mem 458 (by decide +kernel))⟩), trivial⟩,
  List.forall_mem_cons.mpr ⟨fun pc i hi => by rw [sm_k1 hi]; exact ⟨sm_al1 (⟨"TwoWayGrammar$Tree", sc_T7, 4, "TwoWayGrammar$Tree", rfl, by decide, sc_in7, sm_mem 408 (by decide +kernel), Or.inl rfl⟩), trivial⟩,
  List.forall_mem_cons.mpr ⟨fun pc i hi => by rw [sm_k9 hi]; exact ⟨trivial, ⟨sm_mem 809 (by decide +kernel), sm_mem 99 (by decide +kernel), by decide +kernel, Or.inr ⟨"TwoWayGrammar", sc_nx_mem 29 (by decide +kernel)⟩⟩⟩,
  List.forall_mem_cons.mpr ⟨fun pc i hi => by rw [sm_k1 hi]; exact ⟨sm_al3 (⟨"TwoWayGrammar$Parsing", sc_T8, 12, "TwoWayGrammar$Printing", rfl, by decide, sc_in8, sm_mem 446 (by decide +kernel), Or.inr (sm_mem 447 (by decide +kernel))⟩) (⟨"TwoWayGrammar$Growing", sc_T9, 8, "TwoWayGrammar$Printing", rfl, by decide, sc_in9, sm_mem 446 (by decide +kernel), Or.inr (sm_mem 447 (by decide +kernel))⟩) (⟨"TwoWayGrammar$Printing", sc_T10, 13, "TwoWayGrammar$Printing", rfl, by decide, sc_in10, sm_mem 446 (by decide +kernel), Or.inr (sm_mem 447 (by decide +kernel))⟩), trivial⟩,
  List.forall_mem_cons.mpr ⟨fun pc i hi => by rw [sm_k1 hi]; exact ⟨sm_al1 (⟨"TwoWayGrammar$Sets", sc_T5, 16, "TwoWayGrammar$Sets", rfl, by decide, sc_in5, sm_mem 343 (by decide +kernel), Or.inl rfl⟩), trivial⟩,
  List.forall_mem_cons.mpr ⟨fun pc i hi => by rw [sm_k11 hi]; exact ⟨trivial, sm_pk1 (⟨"TwoWayGrammar$Tree", sc_T7, 4, rfl, sm_mem 1308 (by decide +kernel), sm_mem 107 (by decide +kernel), Or.inl ⟨sm_mem 1307 (by decide +kernel), sm_mem 1309 (by decide +kernel), by decide +kernel⟩⟩)⟩,
  List.forall_mem_cons.mpr ⟨fun pc i hi => by rw [sm_k1 hi]; exact ⟨sm_al3 (⟨"TwoWayGrammar$Parsing", sc_T8, 12, "TwoWayGrammar$Printing", rfl, by decide, sc_in8, sm_mem 443 (by decide +kernel), Or.inr (sm_mem 444 (by decide +kernel))⟩) (⟨"TwoWayGrammar$Growing", sc_T9, 8, "TwoWayGrammar$Printing", rfl, by decide, sc_in9, sm_mem 443 (by decide +kernel), Or.inr (sm_mem 444 (by decide +kernel))⟩) (⟨"TwoWayGrammar$Printing", sc_T10, 13, "TwoWayGrammar$Printing", rfl, by decide, sc_in10, sm_mem 443 (by decide +kernel), Or.inr (sm_mem 444 (by decide +kernel))⟩), trivial⟩,
  List.forall_mem_cons.mpr ⟨fun pc i hi => by rw [sm_k1 hi]; exact ⟨sm_al1 (⟨"TwoWayGrammar$Grammar", sc_T2, 20, "TwoWayGrammar$Grammar", rfl, by decide, sc_in2, sm_mem 200 (by decide +kernel), Or.inl rfl⟩), trivial⟩,
  List.forall_mem_cons.mpr ⟨fun pc i hi => by rw [sm_k1 hi]; exact ⟨sm_al1 (⟨"TwoWayGrammar$Grammar", sc_T2, 20, "TwoWayGrammar$Grammar", rfl, by decide, sc_in2, sm_mem 195 (by decide +kernel), Or.inl rfl⟩), trivial⟩,
  List.forall_mem_cons.mpr ⟨fun pc i hi => by rw [sm_k11 hi]; exact ⟨trivial, sm_pk1 (⟨"TwoWayGrammar$Printing", sc_T10, 13, rfl, sm_mem 1346 (by decide +kernel), sm_mem 111 (by decide +kernel), Or.inl ⟨sm_mem 1344 (by decide +kernel), sm_mem 41 (by decide +kernel), by decide +kernel⟩⟩)⟩,
  List.forall_mem_cons.mpr ⟨fun pc i hi => by rw [sm_k11 hi]; exact ⟨trivial, sm_pk1 (⟨"TwoWayGrammar$Printing", sc_T10, 13, rfl, sm_mem 1350 (by decide +kernel), sm_mem 111 (by decide +kernel), Or.inl ⟨sm_mem 1348 (by decide +kernel), sm_mem 42 (by decide +kernel), by decide +kernel⟩⟩)⟩,
  fun _ h => absurd h List.not_mem_nil⟩⟩⟩⟩⟩⟩⟩⟩⟩⟩⟩⟩⟩⟩⟩⟩⟩⟩⟩⟩
end
section
def sp_25_1 : List ((Nat × Nat) × List Nat) := [((11, 88), [0, 1, 10, 141]), ((1, 91), [19, 0, 2]), ((1, 25), [8, 0, 10]), ((9, 94), [7, 0]), ((11, 109), [0, 1, 10, 139]), ((11, 102), [0, 1, 10, 140]), ((11, 99), [0, 0, 1, 22]), ((1, 28), [9, 0, 10]), ((1, 106), [3, 0, 8, 9, 10]), ((1, 32), [10, 0, 10]), ((1, 35), [11, 0, 10]), ((11, 113), [0, 1, 1, 91]), ((2, 106), [3, 3, 0, 8, 9, 10])]
set_option maxRecDepth 20000 in
theorem sp_ok_25_1 {K : sm_H} (hK : sc_KOk K) (mn : String) : sm_poolOk sc_Ts sc_sx sc_zx sc_oc K sc_cl sc_Y "TwoWayGrammar$Printing" mn sp_25_1 :=
  List.forall_mem_cons.mpr ⟨fun pc i hi => by rw [sm_k11 hi]; exact ⟨trivial, sm_pk1 (⟨"TwoWayGrammar$Printing", sc_T10, 13, rfl, sm_mem 1364 (by decide +kernel), sm_mem 111 (by decide +kernel), Or.inl ⟨sm_mem 1362 (by decide +kernel), sm_mem 45 (by decide +kernel), by decide +kernel⟩⟩)⟩,
  List.forall_mem_cons.mpr ⟨fun pc i hi => by rw [sm_k1 hi]; exact ⟨sm_al1 (⟨"TwoWayGrammar$Grammar", sc_T2, 20, "TwoWayGrammar$Grammar", rfl, by decide, sc_in2, sm_mem 224 (by decide +kernel), Or.inl rfl⟩), trivial⟩,
  List.forall_mem_cons.mpr ⟨fun pc i hi => by rw [sm_k1 hi]; exact ⟨sm_al1 (⟨"TwoWayGrammar$Printing", sc_T10, 13, "TwoWayGrammar$Printing", rfl, by decide, sc_in10, sm_mem 522 (by decide +kernel), Or.inl rfl⟩), trivial⟩,
  List.forall_mem_cons.mpr ⟨fun pc i hi => by rw [sm_k9 hi]; exact ⟨Or.inl ⟨rfl, sm_mem 1366 (by decide +kernel), sm_mem 142 (by decide +kernel), sm_mem 101 (by decide +kernel), sm_mem 143 (by decide +kernel)⟩, trivial⟩,
  List.forall_mem_cons.mpr ⟨fun pc i hi => by rw [sm_k11 hi]; exact ⟨trivial, sm_pk1 (⟨"TwoWayGrammar$Printing", sc_T10, 13, rfl, sm_mem 1354 (by decide +kernel), sm_mem 111 (by decide +kernel), Or.inl ⟨sm_mem 1352 (by decide +kernel), sm_mem 43 (by decide +kernel), by decide +kernel⟩⟩)⟩,
  List.forall_mem_cons.mpr ⟨fun pc i hi => by rw [sm_k11 hi]; exact ⟨trivial, sm_pk1 (⟨"TwoWayGrammar$Printing", sc_T10, 13, rfl, sm_mem 1359 (by decide +kernel), sm_mem 111 (by decide +kernel), Or.inl ⟨sm_mem 1357 (by decide +kernel), sm_mem 44 (by decide +kernel), by decide +kernel⟩⟩)⟩,
  List.forall_mem_cons.mpr ⟨fun pc i hi => by rw [sm_k11 hi]; exact ⟨trivial, sm_pk1 (⟨"TwoWayGrammar$Text", sc_T1, 2, rfl, sm_mem 638 (by decide +kernel), sm_mem 100 (by decide +kernel), Or.inl ⟨sm_mem 1356 (by decide +kernel), sm_mem 639 (by decide +kernel), by decide +kernel⟩⟩)⟩,
  List.forall_mem_cons.mpr ⟨fun pc i hi => by rw [sm_k1 hi]; exact ⟨sm_al1 (⟨"TwoWayGrammar$Printing", sc_T10, 13, "TwoWayGrammar$Printing", rfl, by decide, sc_in10, sm_mem 523 (by decide +kernel), Or.inl rfl⟩), trivial⟩,
  List.forall_mem_cons.mpr ⟨fun pc i hi => by rw [sm_k1 hi]; exact ⟨sm_al3 (⟨"TwoWayGrammar$Parsing", sc_T8, 12, "TwoWayGrammar$Printing", rfl, by decide, sc_in8, sm_mem 461 (by decide +kernel), Or.inr (sm_mem 462 (by decide +kernel))⟩) (⟨"TwoWayGrammar$Growing", sc_T9, 8, "TwoWayGrammar$Printing", rfl, by decide, sc_in9, sm_mem 461 (by decide +kernel), Or.inr (sm_mem 462 (by decide +kernel))⟩) (⟨"TwoWayGrammar$Printing", sc_T10, 13, "TwoWayGrammar$Printing", rfl, by decide, sc_in10, sm_mem 461 (by decide +kernel), Or.inr (sm_mem 462 (by decide +kernel))⟩), trivial⟩,
  List.forall_mem_cons.mpr ⟨fun pc i hi => by rw [sm_k1 hi]; exact ⟨sm_al1 (⟨"TwoWayGrammar$Printing", sc_T10, 13, "TwoWayGrammar$Printing", rfl, by decide, sc_in10, sm_mem 524 (by decide +kernel), Or.inl rfl⟩), trivial⟩,
  List.forall_mem_cons.mpr ⟨fun pc i hi => by rw [sm_k1 hi]; exact ⟨sm_al1 (⟨"TwoWayGrammar$Printing", sc_T10, 13, "TwoWayGrammar$Printing", rfl, by decide, sc_in10, sm_mem 525 (by decide +kernel), Or.inl rfl⟩), trivial⟩,
  List.forall_mem_cons.mpr ⟨fun pc i hi => by rw [sm_k11 hi]; exact ⟨trivial, sm_pk1 (⟨"TwoWayGrammar$Text", sc_T1, 2, rfl, sm_mem 990 (by decide +kernel), sm_mem 100 (by decide +kernel), Or.inl ⟨sm_mem 1361 (by decide +kernel), sm_mem 991 (by decide +kernel), by decide +kernel⟩⟩)⟩,
  List.forall_mem_cons.mpr ⟨fun pc i hi => by rw [sm_k2 hi]; exact ⟨sm_al3 (⟨"TwoWayGrammar$Parsing", sc_T8, 12, "TwoWayGrammar$Printing", sc_ty8, rfl, by decide, sc_in8, sm_mem 461 (by decide +kernel), Or.inr (sm_mem 462 (by decide +kernel)), sc_tyok8, sc_nm8, Or.inl rfl, Or.inr (Or.inr (Or.inr (Or.inl ⟨rfl, rfl⟩)))⟩) (⟨"TwoWayGrammar$Growing", sc_T9, 8, "TwoWayGrammar$Printing", sc_ty9, rfl, by decide, sc_in9, sm_mem 461 (by decide +kernel), Or.inr (sm_mem 462 (by decide +kernel)), sc_tyok9, sc_nm9, Or.inl rfl, Or.inr (Or.inr (Or.inr (Or.inl ⟨rfl, rfl⟩)))⟩) (⟨"TwoWayGrammar$Printing", sc_T10, 13, "TwoWayGrammar$Printing", sc_ty10, rfl, by decide, sc_in10, sm_mem 461 (by decide +kernel), Or.inr (sm_mem 462 (by decide +kernel)), sc_tyok10, sc_nm10, Or.inl rfl, Or.inr (Or.inr (Or.inr (Or.inl ⟨rfl, rfl⟩)))⟩), trivial⟩,
  fun _ h => absurd h List.not_mem_nil⟩⟩⟩⟩⟩⟩⟩⟩⟩⟩⟩⟩⟩
def sp_25 : List ((Nat × Nat) × List Nat) := sp_25_0 ++ sp_25_1
theorem sp_ok_25 {K : sm_H} (hK : sc_KOk K) (mn : String) : sm_poolOk sc_Ts sc_sx sc_zx sc_oc K sc_cl sc_Y "TwoWayGrammar$Printing" mn sp_25 := by
  intro e he
  simp only [sp_25, List.mem_append] at he
  rcases he with he | he
  rotate_left
  · exact sp_ok_25_1 hK mn e he
  exact sp_ok_25_0 hK mn e he
def sp_26_0 : List ((Nat × Nat) × List Nat) := [((10, 1), [2]), ((5, 10), [0]), ((2, 7), [4, 2, 1, 11]), ((2, 13), [5, 2, 1, 11]), ((2, 16), [6, 2, 1, 11]), ((2, 19), [14, 2, 1, 11]), ((2, 22), [15, 2, 1, 11]), ((2, 25), [16, 2, 1, 11]), ((2, 28), [17, 2, 1, 11]), ((2, 31), [18, 2, 1, 11]), ((5, 11), [1]), ((2, 34), [19, 2, 1, 11]), ((2, 38), [20, 2, 1, 11]), ((2, 41), [21, 2, 1, 11]), ((2, 44), [22, 2, 1, 11]), ((2, 47), [23, 2, 1, 11]), ((2, 50), [24, 2, 1, 11]), ((2, 53), [25, 2, 1, 11]), ((2, 56), [26, 2, 1, 11]), ((2, 59), [27, 2, 1, 11])]
set_option maxRecDepth 20000 in
theorem sp_ok_26_0 {K : sm_H} (hK : sc_KOk K) : sm_poolOk sc_Ts sc_sx sc_zx sc_oc K sc_cl sc_Y "TwoWayGrammarModel" "<init>" sp_26_0 :=
  List.forall_mem_cons.mpr ⟨fun pc i hi => by rw [sm_k10 hi]; exact ⟨⟨sm_mem 1554 (by decide +kernel), sm_mem 133 (by decide +kernel), sm_mem 134 (by decide +kernel)⟩, trivial⟩,
  List.forall_mem_cons.mpr ⟨fun pc i hi => by rw [sm_k5i hi]; exact ⟨⟨rfl, sm_mem 266 (by decide +kernel)⟩, trivial⟩,
  List.forall_mem_cons.mpr ⟨fun pc i hi => by rw [sm_k2 hi]; exact ⟨sm_al1 (⟨"TwoWayGrammarModel", sc_T11, 96, "TwoWayGrammarModel", sc_ty11, rfl, by decide, sc_in11, sm_mem 1559 (by decide +kernel), Or.inl rfl, sc_tyok11, sc_nm11, Or.inr ⟨rfl, rfl, rfl⟩, Or.inr (Or.inr (Or.inl ⟨rfl, Or.inr ⟨_, rfl⟩⟩))⟩), trivial⟩,
  List.forall_mem_cons.mpr ⟨fun pc i hi => by rw [sm_k2 hi]; exact ⟨sm_al1 (⟨"TwoWayGrammarModel", sc_T11, 96, "TwoWayGrammarModel", sc_ty11, rfl, by decide, sc_in11, sm_mem 1560 (by decide +kernel), Or.inl rfl, sc_tyok11, sc_nm11, Or.inr ⟨rfl, rfl, rfl⟩, Or.inr (Or.inr (Or.inl ⟨rfl, Or.inr ⟨_, rfl⟩⟩))⟩), trivial⟩,
  List.forall_mem_cons.mpr ⟨fun pc i hi => by rw [sm_k2 hi]; exact ⟨sm_al1 (⟨"TwoWayGrammarModel", sc_T11, 96, "TwoWayGrammarModel", sc_ty11, rfl, by decide, sc_in11, sm_mem 1561 (by decide +kernel), Or.inl rfl, sc_tyok11, sc_nm11, Or.inr ⟨rfl, rfl, rfl⟩, Or.inr (Or.inr (Or.inl ⟨rfl, Or.inr ⟨_, rfl⟩⟩))⟩), trivial⟩,
  List.forall_mem_cons.mpr ⟨fun pc i hi => by rw [sm_k2 hi]; exact ⟨sm_al1 (⟨"TwoWayGrammarModel", sc_T11, 96, "TwoWayGrammarModel", sc_ty11, rfl, by decide, sc_in11, sm_mem 1569 (by decide +kernel), Or.inl rfl, sc_tyok11, sc_nm11, Or.inr ⟨rfl, rfl, rfl⟩, Or.inr (Or.inr (Or.inl ⟨rfl, Or.inr ⟨_, rfl⟩⟩))⟩), trivial⟩,
  List.forall_mem_cons.mpr ⟨fun pc i hi => by rw [sm_k2 hi]; exact ⟨sm_al1 (⟨"TwoWayGrammarModel", sc_T11, 96, "TwoWayGrammarModel", sc_ty11, rfl, by decide, sc_in11, sm_mem 1570 (by decide +kernel), Or.inl rfl, sc_tyok11, sc_nm11, Or.inr ⟨rfl, rfl, rfl⟩, Or.inr (Or.inr (Or.inl ⟨rfl, Or.inr ⟨_, rfl⟩⟩))⟩), trivial⟩,
  List.forall_mem_cons.mpr ⟨fun pc i hi => by rw [sm_k2 hi]; exact ⟨sm_al1 (⟨"TwoWayGrammarModel", sc_T11, 96, "TwoWayGrammarModel", sc_ty11, rfl, by decide, sc_in11, sm_mem 1571 (by decide +kernel), Or.inl rfl, sc_tyok11, sc_nm11, Or.inr ⟨rfl, rfl, rfl⟩, Or.inr (Or.inr (Or.inl ⟨rfl, Or.inr ⟨_, rfl⟩⟩))⟩), trivial⟩,
  List.forall_mem_cons.mpr ⟨fun pc i hi => by rw [sm_k2 hi]; exact ⟨sm_al1 (⟨"TwoWayGrammarModel", sc_T11, 96, "TwoWayGrammarModel", sc_ty11, rfl, by decide, sc_in11, sm_mem 1572 (by decide +kernel), Or.inl rfl, sc_tyok11, sc_nm11, Or.inr ⟨rfl, rfl, rfl⟩, Or.inr (Or.inr (Or.inl ⟨rfl, Or.inr ⟨_, rfl⟩⟩))⟩), trivial⟩,
  List.forall_mem_cons.mpr ⟨fun pc i hi => by rw [sm_k2 hi]; exact ⟨sm_al1 (⟨"TwoWayGrammarModel", sc_T11, 96, "TwoWayGrammarModel", sc_ty11, rfl, by decide, sc_in11, sm_mem 1573 (by decide +kernel), Or.inl rfl, sc_tyok11, sc_nm11, Or.inr ⟨rfl, rfl, rfl⟩, Or.inr (Or.inr (Or.inl ⟨rfl, Or.inr ⟨_, rfl⟩⟩))⟩), trivial⟩,
  List.forall_mem_cons.mpr ⟨fun pc i hi => by rw [sm_k5l hi]; exact ⟨⟨rfl, sm_mem 378 (by decide +kernel)⟩, trivial⟩,
  List.forall_mem_cons.mpr ⟨fun pc i hi => by rw [sm_k2 hi]; exact ⟨sm_al1 (⟨"TwoWayGrammarModel", sc_T11, 96, "TwoWayGrammarModel", sc_ty11, rfl, by decide, sc_in11, sm_mem 1574 (by decide +kernel), Or.inl rfl, sc_tyok11, sc_nm11, Or.inr ⟨rfl, rfl, rfl⟩, Or.inr (Or.inr (Or.inl ⟨rfl, Or.inr ⟨_, rfl⟩⟩))⟩), trivial⟩,
  List.forall_mem_cons.mpr ⟨fun pc i hi => by rw [sm_k2 hi]; exact ⟨sm_al1 (⟨"TwoWayGrammarModel", sc_T11, 96, "TwoWayGrammarModel", sc_ty11, rfl, by decide, sc_in11, sm_mem 1575 (by decide +kernel), Or.inl rfl, sc_tyok11, sc_nm11, Or.inr ⟨rfl, rfl, rfl⟩, Or.inr (Or.inr (Or.inl ⟨rfl, Or.inr ⟨_, rfl⟩⟩))⟩), trivial⟩,
  List.forall_mem_cons.mpr ⟨fun pc i hi => by rw [sm_k2 hi]; exact ⟨sm_al1 (⟨"TwoWayGrammarModel", sc_T11, 96, "TwoWayGrammarModel", sc_ty11, rfl, by decide, sc_in11, sm_mem 1576 (by decide +kernel), Or.inl rfl, sc_tyok11, sc_nm11, Or.inr ⟨rfl, rfl, rfl⟩, Or.inr (Or.inr (Or.inl ⟨rfl, Or.inr ⟨_, rfl⟩⟩))⟩), trivial⟩,
  List.forall_mem_cons.mpr ⟨fun pc i hi => by rw [sm_k2 hi]; exact ⟨sm_al1 (⟨"TwoWayGrammarModel", sc_T11, 96, "TwoWayGrammarModel", sc_ty11, rfl, by decide, sc_in11, sm_mem 1577 (by decide +kernel), Or.inl rfl, sc_tyok11, sc_nm11, Or.inr ⟨rfl, rfl, rfl⟩, Or.inr (Or.inr (Or.inl ⟨rfl, Or.inr ⟨_, rfl⟩⟩))⟩), trivial⟩,
  List.forall_mem_cons.mpr ⟨fun pc i hi => by rw [sm_k2 hi]; exact ⟨sm_al1 (⟨"TwoWayGrammarModel", sc_T11, 96, "TwoWayGrammarModel", sc_ty11, rfl, by decide, sc_in11, sm_mem 1578 (by decide +kernel), Or.inl rfl, sc_tyok11, sc_nm11, Or.inr ⟨rfl, rfl, rfl⟩, Or.inr (Or.inr (Or.inl ⟨rfl, Or.inr ⟨_, rfl⟩⟩))⟩), trivial⟩,
  List.forall_mem_cons.mpr ⟨fun pc i hi => by rw [sm_k2 hi]; exact ⟨sm_al1 (⟨"TwoWayGrammarModel", sc_T11, 96, "TwoWayGrammarModel", sc_ty11, rfl, by decide, sc_in11, sm_mem 1579 (by decide +kernel), Or.inl rfl, sc_tyok11, sc_nm11, Or.inr ⟨rfl, rfl, rfl⟩, Or.inr (Or.inr (Or.inl ⟨rfl, Or.inr ⟨_, rfl⟩⟩))⟩), trivial⟩,
  List.forall_mem_cons.mpr ⟨fun pc i hi => by rw [sm_k2 hi]; exact ⟨sm_al1 (⟨"TwoWayGrammarModel", sc_T11, 96, "TwoWayGrammarModel", sc_ty11, rfl, by decide, sc_in11, sm_mem 1580 (by decide +kernel), Or.inl rfl, sc_tyok11, sc_nm11, Or.inr ⟨rfl, rfl, rfl⟩, Or.inr (Or.inr (Or.inl ⟨rfl, Or.inr ⟨_, rfl⟩⟩))⟩), trivial⟩,
  List.forall_mem_cons.mpr ⟨fun pc i hi => by rw [sm_k2 hi]; exact ⟨sm_al1 (⟨"TwoWayGrammarModel", sc_T11, 96, "TwoWayGrammarModel", sc_ty11, rfl, by decide, sc_in11, sm_mem 1581 (by decide +kernel), Or.inl rfl, sc_tyok11, sc_nm11, Or.inr ⟨rfl, rfl, rfl⟩, Or.inr (Or.inr (Or.inl ⟨rfl, Or.inr ⟨_, rfl⟩⟩))⟩), trivial⟩,
  List.forall_mem_cons.mpr ⟨fun pc i hi => by rw [sm_k2 hi]; exact ⟨sm_al1 (⟨"TwoWayGrammarModel", sc_T11, 96, "TwoWayGrammarModel", sc_ty11, rfl, by decide, sc_in11, sm_mem 1582 (by decide +kernel), Or.inl rfl, sc_tyok11, sc_nm11, Or.inr ⟨rfl, rfl, rfl⟩, Or.inr (Or.inr (Or.inl ⟨rfl, Or.inr ⟨_, rfl⟩⟩))⟩), trivial⟩,
  fun _ h => absurd h List.not_mem_nil⟩⟩⟩⟩⟩⟩⟩⟩⟩⟩⟩⟩⟩⟩⟩⟩⟩⟩⟩⟩
def sp_26_1 : List ((Nat × Nat) × List Nat) := [((2, 62), [28, 2, 1, 11]), ((2, 65), [29, 2, 1, 11]), ((2, 68), [30, 2, 1, 11]), ((2, 71), [31, 2, 1, 11]), ((5, 4), [3]), ((2, 74), [32, 2, 1, 11]), ((2, 78), [33, 2, 1, 11]), ((2, 81), [34, 2, 1, 11]), ((2, 84), [35, 2, 1, 11]), ((2, 87), [36, 2, 1, 11]), ((2, 90), [37, 2, 1, 11]), ((2, 93), [38, 2, 1, 11]), ((2, 96), [39, 2, 1, 11]), ((2, 99), [40, 2, 1, 11]), ((2, 102), [41, 2, 1, 11]), ((2, 105), [42, 2, 1, 11]), ((2, 108), [43, 2, 1, 11]), ((2, 111), [44, 2, 1, 11]), ((2, 114), [45, 2, 1, 11]), ((2, 117), [46, 2, 1, 11])]
set_option maxRecDepth 20000 in
theorem sp_ok_26_1 {K : sm_H} (hK : sc_KOk K) : sm_poolOk sc_Ts sc_sx sc_zx sc_oc K sc_cl sc_Y "TwoWayGrammarModel" "<init>" sp_26_1 :=
  List.forall_mem_cons.mpr ⟨fun pc i hi => by rw [sm_k2 hi]; exact ⟨sm_al1 (⟨"TwoWayGrammarModel", sc_T11, 96, "TwoWayGrammarModel", sc_ty11, rfl, by decide, sc_in11, sm_mem 1583 (by decide +kernel), Or.inl rfl, sc_tyok11, sc_nm11, Or.inr ⟨rfl, rfl, rfl⟩, Or.inr (Or.inr (Or.inl ⟨rfl, Or.inr ⟨_, rfl⟩⟩))⟩), trivial⟩,
  List.forall_mem_cons.mpr ⟨fun pc i hi => by rw [sm_k2 hi]; exact ⟨sm_al1 (⟨"TwoWayGrammarModel", sc_T11, 96, "TwoWayGrammarModel", sc_ty11, rfl, by decide, sc_in11, sm_mem 1584 (by decide +kernel), Or.inl rfl, sc_tyok11, sc_nm11, Or.inr ⟨rfl, rfl, rfl⟩, Or.inr (Or.inr (Or.inl ⟨rfl, Or.inr ⟨_, rfl⟩⟩))⟩), trivial⟩,
  List.forall_mem_cons.mpr ⟨fun pc i hi => by rw [sm_k2 hi]; exact ⟨sm_al1 (⟨"TwoWayGrammarModel", sc_T11, 96, "TwoWayGrammarModel", sc_ty11, rfl, by decide, sc_in11, sm_mem 1585 (by decide +kernel), Or.inl rfl, sc_tyok11, sc_nm11, Or.inr ⟨rfl, rfl, rfl⟩, Or.inr (Or.inr (Or.inl ⟨rfl, Or.inr ⟨_, rfl⟩⟩))⟩), trivial⟩,
  List.forall_mem_cons.mpr ⟨fun pc i hi => by rw [sm_k2 hi]; exact ⟨sm_al1 (⟨"TwoWayGrammarModel", sc_T11, 96, "TwoWayGrammarModel", sc_ty11, rfl, by decide, sc_in11, sm_mem 1586 (by decide +kernel), Or.inl rfl, sc_tyok11, sc_nm11, Or.inr ⟨rfl, rfl, rfl⟩, Or.inr (Or.inr (Or.inl ⟨rfl, Or.inr ⟨_, rfl⟩⟩))⟩), trivial⟩,
  List.forall_mem_cons.mpr ⟨fun pc i hi => by rw [sm_k5b hi]; exact ⟨⟨rfl, sm_mem 1844 (by decide +kernel)⟩, trivial⟩,
  List.forall_mem_cons.mpr ⟨fun pc i hi => by rw [sm_k2 hi]; exact ⟨sm_al1 (⟨"TwoWayGrammarModel", sc_T11, 96, "TwoWayGrammarModel", sc_ty11, rfl, by decide, sc_in11, sm_mem 1587 (by decide +kernel), Or.inl rfl, sc_tyok11, sc_nm11, Or.inr ⟨rfl, rfl, rfl⟩, Or.inr (Or.inr (Or.inl ⟨rfl, Or.inr ⟨_, rfl⟩⟩))⟩), trivial⟩,
  List.forall_mem_cons.mpr ⟨fun pc i hi => by rw [sm_k2 hi]; exact ⟨sm_al1 (⟨"TwoWayGrammarModel", sc_T11, 96, "TwoWayGrammarModel", sc_ty11, rfl, by decide, sc_in11, sm_mem 1588 (by decide +kernel), Or.inl rfl, sc_tyok11, sc_nm11, Or.inr ⟨rfl, rfl, rfl⟩, Or.inr (Or.inr (Or.inl ⟨rfl, Or.inr ⟨_, rfl⟩⟩))⟩), trivial⟩,
  List.forall_mem_cons.mpr ⟨fun pc i hi => by rw [sm_k2 hi]; exact ⟨sm_al1 (⟨"TwoWayGrammarModel", sc_T11, 96, "TwoWayGrammarModel", sc_ty11, rfl, by decide, sc_in11, sm_mem 1589 (by decide +kernel), Or.inl rfl, sc_tyok11, sc_nm11, Or.inr ⟨rfl, rfl, rfl⟩, Or.inr (Or.inr (Or.inl ⟨rfl, Or.inr ⟨_, rfl⟩⟩))⟩), trivial⟩,
  List.forall_mem_cons.mpr ⟨fun pc i hi => by rw [sm_k2 hi]; exact ⟨sm_al1 (⟨"TwoWayGrammarModel", sc_T11, 96, "TwoWayGrammarModel", sc_ty11, rfl, by decide, sc_in11, sm_mem 1590 (by decide +kernel), Or.inl rfl, sc_tyok11, sc_nm11, Or.inr ⟨rfl, rfl, rfl⟩, Or.inr (Or.inr (Or.inl ⟨rfl, Or.inr ⟨_, rfl⟩⟩))⟩), trivial⟩,
  List.forall_mem_cons.mpr ⟨fun pc i hi => by rw [sm_k2 hi]; exact ⟨sm_al1 (⟨"TwoWayGrammarModel", sc_T11, 96, "TwoWayGrammarModel", sc_ty11, rfl, by decide, sc_in11, sm_mem 1591 (by decide +kernel), Or.inl rfl, sc_tyok11, sc_nm11, Or.inr ⟨rfl, rfl, rfl⟩, Or.inr (Or.inr (Or.inl ⟨rfl, Or.inr ⟨_, rfl⟩⟩))⟩), trivial⟩,
  List.forall_mem_cons.mpr ⟨fun pc i hi => by rw [sm_k2 hi]; exact ⟨sm_al1 (⟨"TwoWayGrammarModel", sc_T11, 96, "TwoWayGrammarModel", sc_ty11, rfl, by decide, sc_in11, sm_mem 1592 (by decide +kernel), Or.inl rfl, sc_tyok11, sc_nm11, Or.inr ⟨rfl, rfl, rfl⟩, Or.inr (Or.inr (Or.inl ⟨rfl, Or.inr ⟨_, rfl⟩⟩))⟩), trivial⟩,
  List.forall_mem_cons.mpr ⟨fun pc i hi => by rw [sm_k2 hi]; exact ⟨sm_al1 (⟨"TwoWayGrammarModel", sc_T11, 96, "TwoWayGrammarModel", sc_ty11, rfl, by decide, sc_in11, sm_mem 1593 (by decide +kernel), Or.inl rfl, sc_tyok11, sc_nm11, Or.inr ⟨rfl, rfl, rfl⟩, Or.inr (Or.inr (Or.inl ⟨rfl, Or.inr ⟨_, rfl⟩⟩))⟩), trivial⟩,
  List.forall_mem_cons.mpr ⟨fun pc i hi => by rw [sm_k2 hi]; exact ⟨sm_al1 (⟨"TwoWayGrammarModel", sc_T11, 96, "TwoWayGrammarModel", sc_ty11, rfl, by decide, sc_in11, sm_mem 1594 (by decide +kernel), Or.inl rfl, sc_tyok11, sc_nm11, Or.inr ⟨rfl, rfl, rfl⟩, Or.inr (Or.inr (Or.inl ⟨rfl, Or.inr ⟨_, rfl⟩⟩))⟩), trivial⟩,
  List.forall_mem_cons.mpr ⟨fun pc i hi => by rw [sm_k2 hi]; exact ⟨sm_al1 (⟨"TwoWayGrammarModel", sc_T11, 96, "TwoWayGrammarModel", sc_ty11, rfl, by decide, sc_in11, sm_mem 1595 (by decide +kernel), Or.inl rfl, sc_tyok11, sc_nm11, Or.inr ⟨rfl, rfl, rfl⟩, Or.inr (Or.inr (Or.inl ⟨rfl, Or.inr ⟨_, rfl⟩⟩))⟩), trivial⟩,
  List.forall_mem_cons.mpr ⟨fun pc i hi => by rw [sm_k2 hi]; exact ⟨sm_al1 (⟨"TwoWayGrammarModel", sc_T11, 96, "TwoWayGrammarModel", sc_ty11, rfl, by decide, sc_in11, sm_mem 1596 (by decide +kernel), Or.inl rfl, sc_tyok11, sc_nm11, Or.inr ⟨rfl, rfl, rfl⟩, Or.inr (Or.inr (Or.inl ⟨rfl, Or.inr ⟨_, rfl⟩⟩))⟩), trivial⟩,
  List.forall_mem_cons.mpr ⟨fun pc i hi => by rw [sm_k2 hi]; exact ⟨sm_al1 (⟨"TwoWayGrammarModel", sc_T11, 96, "TwoWayGrammarModel", sc_ty11, rfl, by decide, sc_in11, sm_mem 1597 (by decide +kernel), Or.inl rfl, sc_tyok11, sc_nm11, Or.inr ⟨rfl, rfl, rfl⟩, Or.inr (Or.inr (Or.inl ⟨rfl, Or.inr ⟨_, rfl⟩⟩))⟩), trivial⟩,
  List.forall_mem_cons.mpr ⟨fun pc i hi => by rw [sm_k2 hi]; exact ⟨sm_al1 (⟨"TwoWayGrammarModel", sc_T11, 96, "TwoWayGrammarModel", sc_ty11, rfl, by decide, sc_in11, sm_mem 1598 (by decide +kernel), Or.inl rfl, sc_tyok11, sc_nm11, Or.inr ⟨rfl, rfl, rfl⟩, Or.inr (Or.inr (Or.inl ⟨rfl, Or.inr ⟨_, rfl⟩⟩))⟩), trivial⟩,
  List.forall_mem_cons.mpr ⟨fun pc i hi => by rw [sm_k2 hi]; exact ⟨sm_al1 (⟨"TwoWayGrammarModel", sc_T11, 96, "TwoWayGrammarModel", sc_ty11, rfl, by decide, sc_in11, sm_mem 1599 (by decide +kernel), Or.inl rfl, sc_tyok11, sc_nm11, Or.inr ⟨rfl, rfl, rfl⟩, Or.inr (Or.inr (Or.inl ⟨rfl, Or.inr ⟨_, rfl⟩⟩))⟩), trivial⟩,
  List.forall_mem_cons.mpr ⟨fun pc i hi => by rw [sm_k2 hi]; exact ⟨sm_al1 (⟨"TwoWayGrammarModel", sc_T11, 96, "TwoWayGrammarModel", sc_ty11, rfl, by decide, sc_in11, sm_mem 1600 (by decide +kernel), Or.inl rfl, sc_tyok11, sc_nm11, Or.inr ⟨rfl, rfl, rfl⟩, Or.inr (Or.inr (Or.inl ⟨rfl, Or.inr ⟨_, rfl⟩⟩))⟩), trivial⟩,
  List.forall_mem_cons.mpr ⟨fun pc i hi => by rw [sm_k2 hi]; exact ⟨sm_al1 (⟨"TwoWayGrammarModel", sc_T11, 96, "TwoWayGrammarModel", sc_ty11, rfl, by decide, sc_in11, sm_mem 1601 (by decide +kernel), Or.inl rfl, sc_tyok11, sc_nm11, Or.inr ⟨rfl, rfl, rfl⟩, Or.inr (Or.inr (Or.inl ⟨rfl, Or.inr ⟨_, rfl⟩⟩))⟩), trivial⟩,
  fun _ h => absurd h List.not_mem_nil⟩⟩⟩⟩⟩⟩⟩⟩⟩⟩⟩⟩⟩⟩⟩⟩⟩⟩⟩⟩
def sp_26_2 : List ((Nat × Nat) × List Nat) := [((2, 120), [53, 2, 1, 11]), ((2, 123), [54, 2, 1, 11]), ((2, 126), [55, 2, 1, 11]), ((2, 129), [56, 2, 1, 11]), ((2, 132), [57, 2, 1, 11]), ((2, 135), [58, 2, 1, 11]), ((2, 138), [60, 2, 1, 11]), ((2, 141), [61, 2, 1, 11]), ((2, 144), [62, 2, 1, 11]), ((2, 147), [66, 2, 1, 11]), ((2, 150), [67, 2, 1, 11]), ((2, 153), [68, 2, 1, 11]), ((2, 156), [69, 2, 1, 11]), ((2, 159), [70, 2, 1, 11]), ((2, 162), [71, 2, 1, 11]), ((2, 165), [72, 2, 1, 11]), ((2, 168), [73, 2, 1, 11]), ((2, 171), [74, 2, 1, 11]), ((2, 174), [75, 2, 1, 11]), ((2, 177), [86, 2, 1, 11])]
set_option maxRecDepth 20000 in
theorem sp_ok_26_2 {K : sm_H} (hK : sc_KOk K) : sm_poolOk sc_Ts sc_sx sc_zx sc_oc K sc_cl sc_Y "TwoWayGrammarModel" "<init>" sp_26_2 :=
  List.forall_mem_cons.mpr ⟨fun pc i hi => by rw [sm_k2 hi]; exact ⟨sm_al1 (⟨"TwoWayGrammarModel", sc_T11, 96, "TwoWayGrammarModel", sc_ty11, rfl, by decide, sc_in11, sm_mem 1608 (by decide +kernel), Or.inl rfl, sc_tyok11, sc_nm11, Or.inr ⟨rfl, rfl, rfl⟩, Or.inr (Or.inr (Or.inl ⟨rfl, Or.inr ⟨_, rfl⟩⟩))⟩), trivial⟩,
  List.forall_mem_cons.mpr ⟨fun pc i hi => by rw [sm_k2 hi]; exact ⟨sm_al1 (⟨"TwoWayGrammarModel", sc_T11, 96, "TwoWayGrammarModel", sc_ty11, rfl, by decide, sc_in11, sm_mem 1609 (by decide +kernel), Or.inl rfl, sc_tyok11, sc_nm11, Or.inr ⟨rfl, rfl, rfl⟩, Or.inr (Or.inr (Or.inl ⟨rfl, Or.inr ⟨_, rfl⟩⟩))⟩), trivial⟩,
  List.forall_mem_cons.mpr ⟨fun pc i hi => by rw [sm_k2 hi]; exact ⟨sm_al1 (⟨"TwoWayGrammarModel", sc_T11, 96, "TwoWayGrammarModel", sc_ty11, rfl, by decide, sc_in11, sm_mem 1610 (by decide +kernel), Or.inl rfl, sc_tyok11, sc_nm11, Or.inr ⟨rfl, rfl, rfl⟩, Or.inr (Or.inr (Or.inl ⟨rfl, Or.inr ⟨_, rfl⟩⟩))⟩), trivial⟩,
  List.forall_mem_cons.mpr ⟨fun pc i hi => by rw [sm_k2 hi]; exact ⟨sm_al1 (⟨"TwoWayGrammarModel", sc_T11, 96, "TwoWayGrammarModel", sc_ty11, rfl, by decide, sc_in11, sm_mem 1611 (by decide +kernel), Or.inl rfl, sc_tyok11, sc_nm11, Or.inr ⟨rfl, rfl, rfl⟩, Or.inr (Or.inr (Or.inl ⟨rfl, Or.inr ⟨_, rfl⟩⟩))⟩), trivial⟩,
  List.forall_mem_cons.mpr ⟨fun pc i hi => by rw [sm_k2 hi]; exact ⟨sm_al1 (⟨"TwoWayGrammarModel", sc_T11, 96, "TwoWayGrammarModel", sc_ty11, rfl, by decide, sc_in11, sm_mem 1612 (by decide +kernel), Or.inl rfl, sc_tyok11, sc_nm11, Or.inr ⟨rfl, rfl, rfl⟩, Or.inr (Or.inr (Or.inl ⟨rfl, Or.inr ⟨_, rfl⟩⟩))⟩), trivial⟩,
  List.forall_mem_cons.mpr ⟨fun pc i hi => by rw [sm_k2 hi]; exact ⟨sm_al1 (⟨"TwoWayGrammarModel", sc_T11, 96, "TwoWayGrammarModel", sc_ty11, rfl, by decide, sc_in11, sm_mem 1613 (by decide +kernel), Or.inl rfl, sc_tyok11, sc_nm11, Or.inr ⟨rfl, rfl, rfl⟩, Or.inr (Or.inr (Or.inl ⟨rfl, Or.inr ⟨_, rfl⟩⟩))⟩), trivial⟩,
  List.forall_mem_cons.mpr ⟨fun pc i hi => by rw [sm_k2 hi]; exact ⟨sm_al1 (⟨"TwoWayGrammarModel", sc_T11, 96, "TwoWayGrammarModel", sc_ty11, rfl, by decide, sc_in11, sm_mem 1615 (by decide +kernel), Or.inl rfl, sc_tyok11, sc_nm11, Or.inr ⟨rfl, rfl, rfl⟩, Or.inr (Or.inr (Or.inl ⟨rfl, Or.inr ⟨_, rfl⟩⟩))⟩), trivial⟩,
  List.forall_mem_cons.mpr ⟨fun pc i hi => by rw [sm_k2 hi]; exact ⟨sm_al1 (⟨"TwoWayGrammarModel", sc_T11, 96, "TwoWayGrammarModel", sc_ty11, rfl, by decide, sc_in11, sm_mem 1616 (by decide +kernel), Or.inl rfl, sc_tyok11, sc_nm11, Or.inr ⟨rfl, rfl, rfl⟩, Or.inr (Or.inr (Or.inl ⟨rfl, Or.inr ⟨_, rfl⟩⟩))⟩), trivial⟩,
  List.forall_mem_cons.mpr ⟨fun pc i hi => by rw [sm_k2 hi]; exact ⟨sm_al1 (⟨"TwoWayGrammarModel", sc_T11, 96, "TwoWayGrammarModel", sc_ty11, rfl, by decide, sc_in11, sm_mem 1617 (by decide +kernel), Or.inl rfl, sc_tyok11, sc_nm11, Or.inr ⟨rfl, rfl, rfl⟩, Or.inr (Or.inr (Or.inl ⟨rfl, Or.inr ⟨_, rfl⟩⟩))⟩), trivial⟩,
  List.forall_mem_cons.mpr ⟨fun pc i hi => by rw [sm_k2 hi]; exact ⟨sm_al1 (⟨"TwoWayGrammarModel", sc_T11, 96, "TwoWayGrammarModel", sc_ty11, rfl, by decide, sc_in11, sm_mem 1621 (by decide +kernel), Or.inl rfl, sc_tyok11, sc_nm11, Or.inr ⟨rfl, rfl, rfl⟩, Or.inr (Or.inr (Or.inl ⟨rfl, Or.inr ⟨_, rfl⟩⟩))⟩), trivial⟩,
  List.forall_mem_cons.mpr ⟨fun pc i hi => by rw [sm_k2 hi]; exact ⟨sm_al1 (⟨"TwoWayGrammarModel", sc_T11, 96, "TwoWayGrammarModel", sc_ty11, rfl, by decide, sc_in11, sm_mem 1622 (by decide +kernel), Or.inl rfl, sc_tyok11, sc_nm11, Or.inr ⟨rfl, rfl, rfl⟩, Or.inr (Or.inr (Or.inl ⟨rfl, Or.inr ⟨_, rfl⟩⟩))⟩), trivial⟩,
  List.forall_mem_cons.mpr ⟨fun pc i hi => by rw [sm_k2 hi]; exact ⟨sm_al1 (⟨"TwoWayGrammarModel", sc_T11, 96, "TwoWayGrammarModel", sc_ty11, rfl, by decide, sc_in11, sm_mem 1623 (by decide +kernel), Or.inl rfl, sc_tyok11, sc_nm11, Or.inr ⟨rfl, rfl, rfl⟩, Or.inr (Or.inr (Or.inl ⟨rfl, Or.inr ⟨_, rfl⟩⟩))⟩), trivial⟩,
  List.forall_mem_cons.mpr ⟨fun pc i hi => by rw [sm_k2 hi]; exact ⟨sm_al1 (⟨"TwoWayGrammarModel", sc_T11, 96, "TwoWayGrammarModel", sc_ty11, rfl, by decide, sc_in11, sm_mem 1624 (by decide +kernel), Or.inl rfl, sc_tyok11, sc_nm11, Or.inr ⟨rfl, rfl, rfl⟩, Or.inr (Or.inr (Or.inl ⟨rfl, Or.inr ⟨_, rfl⟩⟩))⟩), trivial⟩,
  List.forall_mem_cons.mpr ⟨fun pc i hi => by rw [sm_k2 hi]; exact ⟨sm_al1 (⟨"TwoWayGrammarModel", sc_T11, 96, "TwoWayGrammarModel", sc_ty11, rfl, by decide, sc_in11, sm_mem 1625 (by decide +kernel), Or.inl rfl, sc_tyok11, sc_nm11, Or.inr ⟨rfl, rfl, rfl⟩, Or.inr (Or.inr (Or.inl ⟨rfl, Or.inr ⟨_, rfl⟩⟩))⟩), trivial⟩,
  List.forall_mem_cons.mpr ⟨fun pc i hi => by rw [sm_k2 hi]; exact ⟨sm_al1 (⟨"TwoWayGrammarModel", sc_T11, 96, "TwoWayGrammarModel", sc_ty11, rfl, by decide, sc_in11, sm_mem 1626 (by decide +kernel), Or.inl rfl, sc_tyok11, sc_nm11, Or.inr ⟨rfl, rfl, rfl⟩, Or.inr (Or.inr (Or.inl ⟨rfl, Or.inr ⟨_, rfl⟩⟩))⟩), trivial⟩,
  List.forall_mem_cons.mpr ⟨fun pc i hi => by rw [sm_k2 hi]; exact ⟨sm_al1 (⟨"TwoWayGrammarModel", sc_T11, 96, "TwoWayGrammarModel", sc_ty11, rfl, by decide, sc_in11, sm_mem 1627 (by decide +kernel), Or.inl rfl, sc_tyok11, sc_nm11, Or.inr ⟨rfl, rfl, rfl⟩, Or.inr (Or.inr (Or.inl ⟨rfl, Or.inr ⟨_, rfl⟩⟩))⟩), trivial⟩,
  List.forall_mem_cons.mpr ⟨fun pc i hi => by rw [sm_k2 hi]; exact ⟨sm_al1 (⟨"TwoWayGrammarModel", sc_T11, 96, "TwoWayGrammarModel", sc_ty11, rfl, by decide, sc_in11, sm_mem 1628 (by decide +kernel), Or.inl rfl, sc_tyok11, sc_nm11, Or.inr ⟨rfl, rfl, rfl⟩, Or.inr (Or.inr (Or.inl ⟨rfl, Or.inr ⟨_, rfl⟩⟩))⟩), trivial⟩,
  List.forall_mem_cons.mpr ⟨fun pc i hi => by rw [sm_k2 hi]; exact ⟨sm_al1 (⟨"TwoWayGrammarModel", sc_T11, 96, "TwoWayGrammarModel", sc_ty11, rfl, by decide, sc_in11, sm_mem 1629 (by decide +kernel), Or.inl rfl, sc_tyok11, sc_nm11, Or.inr ⟨rfl, rfl, rfl⟩, Or.inr (Or.inr (Or.inl ⟨rfl, Or.inr ⟨_, rfl⟩⟩))⟩), trivial⟩,
  List.forall_mem_cons.mpr ⟨fun pc i hi => by rw [sm_k2 hi]; exact ⟨sm_al1 (⟨"TwoWayGrammarModel", sc_T11, 96, "TwoWayGrammarModel", sc_ty11, rfl, by decide, sc_in11, sm_mem 1630 (by decide +kernel), Or.inl rfl, sc_tyok11, sc_nm11, Or.inr ⟨rfl, rfl, rfl⟩, Or.inr (Or.inr (Or.inl ⟨rfl, Or.inr ⟨_, rfl⟩⟩))⟩), trivial⟩,
  List.forall_mem_cons.mpr ⟨fun pc i hi => by rw [sm_k2 hi]; exact ⟨sm_al1 (⟨"TwoWayGrammarModel", sc_T11, 96, "TwoWayGrammarModel", sc_ty11, rfl, by decide, sc_in11, sm_mem 1641 (by decide +kernel), Or.inl rfl, sc_tyok11, sc_nm11, Or.inr ⟨rfl, rfl, rfl⟩, Or.inr (Or.inr (Or.inl ⟨rfl, Or.inr ⟨_, rfl⟩⟩))⟩), trivial⟩,
  fun _ h => absurd h List.not_mem_nil⟩⟩⟩⟩⟩⟩⟩⟩⟩⟩⟩⟩⟩⟩⟩⟩⟩⟩⟩⟩
def sp_26_3 : List ((Nat × Nat) × List Nat) := [((2, 180), [87, 2, 1, 11]), ((2, 183), [88, 2, 1, 11]), ((2, 186), [89, 2, 1, 11]), ((2, 189), [90, 2, 1, 11]), ((2, 192), [91, 2, 1, 11])]
set_option maxRecDepth 20000 in
theorem sp_ok_26_3 {K : sm_H} (hK : sc_KOk K) : sm_poolOk sc_Ts sc_sx sc_zx sc_oc K sc_cl sc_Y "TwoWayGrammarModel" "<init>" sp_26_3 :=
  List.forall_mem_cons.mpr ⟨fun pc i hi => by rw [sm_k2 hi]; exact ⟨sm_al1 (⟨"TwoWayGrammarModel", sc_T11, 96, "TwoWayGrammarModel", sc_ty11, rfl, by decide, sc_in11, sm_mem 1642 (by decide +kernel), Or.inl rfl, sc_tyok11, sc_nm11, Or.inr ⟨rfl, rfl, rfl⟩, Or.inr (Or.inr (Or.inl ⟨rfl, Or.inr ⟨_, rfl⟩⟩))⟩), trivial⟩,
  List.forall_mem_cons.mpr ⟨fun pc i hi => by rw [sm_k2 hi]; exact ⟨sm_al1 (⟨"TwoWayGrammarModel", sc_T11, 96, "TwoWayGrammarModel", sc_ty11, rfl, by decide, sc_in11, sm_mem 1643 (by decide +kernel), Or.inl rfl, sc_tyok11, sc_nm11, Or.inr ⟨rfl, rfl, rfl⟩, Or.inr (Or.inr (Or.inl ⟨rfl, Or.inr ⟨_, rfl⟩⟩))⟩), trivial⟩,
  List.forall_mem_cons.mpr ⟨fun pc i hi => by rw [sm_k2 hi]; exact ⟨sm_al1 (⟨"TwoWayGrammarModel", sc_T11, 96, "TwoWayGrammarModel", sc_ty11, rfl, by decide, sc_in11, sm_mem 1644 (by decide +kernel), Or.inl rfl, sc_tyok11, sc_nm11, Or.inr ⟨rfl, rfl, rfl⟩, Or.inr (Or.inr (Or.inl ⟨rfl, Or.inr ⟨_, rfl⟩⟩))⟩), trivial⟩,
  List.forall_mem_cons.mpr ⟨fun pc i hi => by rw [sm_k2 hi]; exact ⟨sm_al1 (⟨"TwoWayGrammarModel", sc_T11, 96, "TwoWayGrammarModel", sc_ty11, rfl, by decide, sc_in11, sm_mem 1645 (by decide +kernel), Or.inl rfl, sc_tyok11, sc_nm11, Or.inr ⟨rfl, rfl, rfl⟩, Or.inr (Or.inr (Or.inl ⟨rfl, Or.inr ⟨_, rfl⟩⟩))⟩), trivial⟩,
  List.forall_mem_cons.mpr ⟨fun pc i hi => by rw [sm_k2 hi]; exact ⟨sm_al1 (⟨"TwoWayGrammarModel", sc_T11, 96, "TwoWayGrammarModel", sc_ty11, rfl, by decide, sc_in11, sm_mem 1646 (by decide +kernel), Or.inl rfl, sc_tyok11, sc_nm11, Or.inr ⟨rfl, rfl, rfl⟩, Or.inr (Or.inr (Or.inl ⟨rfl, Or.inr ⟨_, rfl⟩⟩))⟩), trivial⟩,
  fun _ h => absurd h List.not_mem_nil⟩⟩⟩⟩⟩
def sp_26 : List ((Nat × Nat) × List Nat) := sp_26_0 ++ sp_26_1 ++ sp_26_2 ++ sp_26_3
theorem sp_ok_26 {K : sm_H} (hK : sc_KOk K) : sm_poolOk sc_Ts sc_sx sc_zx sc_oc K sc_cl sc_Y "TwoWayGrammarModel" "<init>" sp_26 := by
  intro e he
  simp only [sp_26, List.mem_append] at he
  rcases he with he | he
  rotate_left
  · exact sp_ok_26_3 hK e he
  rcases he with he | he
  rotate_left
  · exact sp_ok_26_2 hK e he
  rcases he with he | he
  rotate_left
  · exact sp_ok_26_1 hK e he
  exact sp_ok_26_0 hK e he
def sp_27_0 : List ((Nat × Nat) × List Nat) := [((1, 195), [0, 0, 11]), ((2, 195), [0, 0, 0, 11]), ((1, 199), [1, 0, 11]), ((1, 202), [2, 0, 11]), ((1, 7), [4, 0, 11]), ((2, 199), [1, 0, 0, 11]), ((1, 13), [5, 0, 11]), ((2, 202), [2, 0, 0, 11]), ((8, 207), [2317137553972338757]), ((11, 209), [0, 1, 11, 174]), ((8, 213), [2819389844338712616]), ((8, 215), [3037994969327018029]), ((8, 217), [5053105990967900960]), ((8, 219), [2317707977301174304]), ((8, 221), [5053084000116482172]), ((8, 223), [2325557506642422048]), ((8, 225), [8243102915232669757]), ((8, 227), [2334392247088348192]), ((8, 229), [2819329371148853372]), ((8, 231), [171647017])]
set_option maxRecDepth 20000 in
theorem sp_ok_27_0 {K : sm_H} (hK : sc_KOk K) (mn : String) : sm_poolOk sc_Ts sc_sx sc_zx sc_oc K sc_cl sc_Y "TwoWayGrammarModel" mn sp_27_0 :=
  List.forall_mem_cons.mpr ⟨fun pc i hi => by rw [sm_k1 hi]; exact ⟨sm_al1 (⟨"TwoWayGrammarModel", sc_T11, 96, "TwoWayGrammarModel", rfl, by decide, sc_in11, sm_mem 1555 (by decide +kernel), Or.inl rfl⟩), trivial⟩,
  List.forall_mem_cons.mpr ⟨fun pc i hi => by rw [sm_k2 hi]; exact ⟨sm_al1 (⟨"TwoWayGrammarModel", sc_T11, 96, "TwoWayGrammarModel", sc_ty11, rfl, by decide, sc_in11, sm_mem 1555 (by decide +kernel), Or.inl rfl, sc_tyok11, sc_nm11, Or.inl rfl, Or.inl ⟨rfl, rfl⟩⟩), trivial⟩,
  List.forall_mem_cons.mpr ⟨fun pc i hi => by rw [sm_k1 hi]; exact ⟨sm_al1 (⟨"TwoWayGrammarModel", sc_T11, 96, "TwoWayGrammarModel", rfl, by decide, sc_in11, sm_mem 1556 (by decide +kernel), Or.inl rfl⟩), trivial⟩,
  List.forall_mem_cons.mpr ⟨fun pc i hi => by rw [sm_k1 hi]; exact ⟨sm_al1 (⟨"TwoWayGrammarModel", sc_T11, 96, "TwoWayGrammarModel", rfl, by decide, sc_in11, sm_mem 1557 (by decide +kernel), Or.inl rfl⟩), trivial⟩,
  List.forall_mem_cons.mpr ⟨fun pc i hi => by rw [sm_k1 hi]; exact ⟨sm_al1 (⟨"TwoWayGrammarModel", sc_T11, 96, "TwoWayGrammarModel", rfl, by decide, sc_in11, sm_mem 1559 (by decide +kernel), Or.inl rfl⟩), trivial⟩,
  List.forall_mem_cons.mpr ⟨fun pc i hi => by rw [sm_k2 hi]; exact ⟨sm_al1 (⟨"TwoWayGrammarModel", sc_T11, 96, "TwoWayGrammarModel", sc_ty11, rfl, by decide, sc_in11, sm_mem 1556 (by decide +kernel), Or.inl rfl, sc_tyok11, sc_nm11, Or.inl rfl, Or.inl ⟨rfl, rfl⟩⟩), trivial⟩,
  List.forall_mem_cons.mpr ⟨fun pc i hi => by rw [sm_k1 hi]; exact ⟨sm_al1 (⟨"TwoWayGrammarModel", sc_T11, 96, "TwoWayGrammarModel", rfl, by decide, sc_in11, sm_mem 1560 (by decide +kernel), Or.inl rfl⟩), trivial⟩,
  List.forall_mem_cons.mpr ⟨fun pc i hi => by rw [sm_k2 hi]; exact ⟨sm_al1 (⟨"TwoWayGrammarModel", sc_T11, 96, "TwoWayGrammarModel", sc_ty11, rfl, by decide, sc_in11, sm_mem 1557 (by decide +kernel), Or.inl rfl, sc_tyok11, sc_nm11, Or.inl rfl, Or.inl ⟨rfl, rfl⟩⟩), trivial⟩,
  List.forall_mem_cons.mpr ⟨fun pc i hi => by rw [sm_k8 hi]; exact ⟨sm_mem 1861 (by decide +kernel), trivial⟩,
  List.forall_mem_cons.mpr ⟨fun pc i hi => by rw [sm_k11 hi]; exact ⟨trivial, sm_pk1 (⟨"TwoWayGrammarModel", sc_T11, 96, rfl, sm_mem 1864 (by decide +kernel), sm_mem 112 (by decide +kernel), Or.inl ⟨sm_mem 1862 (by decide +kernel), sm_mem 47 (by decide +kernel), by decide +kernel⟩⟩)⟩,
  List.forall_mem_cons.mpr ⟨fun pc i hi => by rw [sm_k8 hi]; exact ⟨sm_mem 1867 (by decide +kernel), trivial⟩,
  List.forall_mem_cons.mpr ⟨fun pc i hi => by rw [sm_k8 hi]; exact ⟨sm_mem 1868 (by decide +kernel), trivial⟩,
  List.forall_mem_cons.mpr ⟨fun pc i hi => by rw [sm_k8 hi]; exact ⟨sm_mem 1869 (by decide +kernel), trivial⟩,
  List.forall_mem_cons.mpr ⟨fun pc i hi => by rw [sm_k8 hi]; exact ⟨sm_mem 1870 (by decide +kernel), trivial⟩,
  List.forall_mem_cons.mpr ⟨fun pc i hi => by rw [sm_k8 hi]; exact ⟨sm_mem 1871 (by decide +kernel), trivial⟩,
  List.forall_mem_cons.mpr ⟨fun pc i hi => by rw [sm_k8 hi]; exact ⟨sm_mem 1872 (by decide +kernel), trivial⟩,
  List.forall_mem_cons.mpr ⟨fun pc i hi => by rw [sm_k8 hi]; exact ⟨sm_mem 1873 (by decide +kernel), trivial⟩,
  List.forall_mem_cons.mpr ⟨fun pc i hi => by rw [sm_k8 hi]; exact ⟨sm_mem 1874 (by decide +kernel), trivial⟩,
  List.forall_mem_cons.mpr ⟨fun pc i hi => by rw [sm_k8 hi]; exact ⟨sm_mem 1875 (by decide +kernel), trivial⟩,
  List.forall_mem_cons.mpr ⟨fun pc i hi => by rw [sm_k8 hi]; exact ⟨sm_mem 1876 (by decide +kernel), trivial⟩,
  fun _ h => absurd h List.not_mem_nil⟩⟩⟩⟩⟩⟩⟩⟩⟩⟩⟩⟩⟩⟩⟩⟩⟩⟩⟩⟩
def sp_27_1 : List ((Nat × Nat) × List Nat) := [((8, 233), [7214902011022352464]), ((8, 235), [2317137683982345573]), ((8, 237), [2963459953415580012]), ((8, 239), [7791345429930713130]), ((8, 241), [4260542854493204073]), ((8, 243), [7308253817175298826]), ((8, 245), [2334392247088325236]), ((8, 247), [4406526406190787682]), ((8, 249), [6206078408341611040]), ((8, 251), [7215365270489736992]), ((8, 253), [2459101874769371759]), ((8, 255), [2819348062750930288]), ((8, 257), [2323048536703967291]), ((8, 259), [7935479022009278830]), ((8, 261), [2317982108911562101]), ((8, 263), [6206009932588523569]), ((8, 265), [670496]), ((8, 267), [2891411184374587460]), ((8, 269), [2318270927254606368]), ((8, 271), [2328959603089435746])]
set_option maxRecDepth 20000 in
theorem sp_ok_27_1 {K : sm_H} (hK : sc_KOk K) (mn : String) : sm_poolOk sc_Ts sc_sx sc_zx sc_oc K sc_cl sc_Y "TwoWayGrammarModel" mn sp_27_1 :=
  List.forall_mem_cons.mpr ⟨fun pc i hi => by rw [sm_k8 hi]; exact ⟨sm_mem 1877 (by decide +kernel), trivial⟩,
  List.forall_mem_cons.mpr ⟨fun pc i hi => by rw [sm_k8 hi]; exact ⟨sm_mem 1878 (by decide +kernel), trivial⟩,
  List.forall_mem_cons.mpr ⟨fun pc i hi => by rw [sm_k8 hi]; exact ⟨sm_mem 1879 (by decide +kernel), trivial⟩,
  List.forall_mem_cons.mpr ⟨fun pc i hi => by rw [sm_k8 hi]; exact ⟨sm_mem 1880 (by decide +kernel), trivial⟩,
  List.forall_mem_cons.mpr ⟨fun pc i hi => by rw [sm_k8 hi]; exact ⟨sm_mem 1881 (by decide +kernel), trivial⟩,
  List.forall_mem_cons.mpr ⟨fun pc i hi => by rw [sm_k8 hi]; exact ⟨sm_mem 1882 (by decide +kernel), trivial⟩,
  List.forall_mem_cons.mpr ⟨fun pc i hi => by rw [sm_k8 hi]; exact ⟨sm_mem 1883 (by decide +kernel), trivial⟩,
  List.forall_mem_cons.mpr ⟨fun pc i hi => by rw [sm_k8 hi]; exact ⟨sm_mem 1884 (by decide +kernel), trivial⟩,
  List.forall_mem_cons.mpr ⟨fun pc i hi => by rw [sm_k8 hi]; exact ⟨sm_mem 1885 (by decide +kernel), trivial⟩,
  List.forall_mem_cons.mpr ⟨fun pc i hi => by rw [sm_k8 hi]; exact ⟨sm_mem 1886 (by decide +kernel), trivial⟩,
  List.forall_mem_cons.mpr ⟨fun pc i hi => by rw [sm_k8 hi]; exact ⟨sm_mem 1887 (by decide +kernel), trivial⟩,
  List.forall_mem_cons.mpr ⟨fun pc i hi => by rw [sm_k8 hi]; exact ⟨sm_mem 1888 (by decide +kernel), trivial⟩,
  List.forall_mem_cons.mpr ⟨fun pc i hi => by rw [sm_k8 hi]; exact ⟨sm_mem 1889 (by decide +kernel), trivial⟩,
  List.forall_mem_cons.mpr ⟨fun pc i hi => by rw [sm_k8 hi]; exact ⟨sm_mem 1890 (by decide +kernel), trivial⟩,
  List.forall_mem_cons.mpr ⟨fun pc i hi => by rw [sm_k8 hi]; exact ⟨sm_mem 1891 (by decide +kernel), trivial⟩,
  List.forall_mem_cons.mpr ⟨fun pc i hi => by rw [sm_k8 hi]; exact ⟨sm_mem 1892 (by decide +kernel), trivial⟩,
  List.forall_mem_cons.mpr ⟨fun pc i hi => by rw [sm_k8 hi]; exact ⟨sm_mem 1893 (by decide +kernel), trivial⟩,
  List.forall_mem_cons.mpr ⟨fun pc i hi => by rw [sm_k8 hi]; exact ⟨sm_mem 1894 (by decide +kernel), trivial⟩,
  List.forall_mem_cons.mpr ⟨fun pc i hi => by rw [sm_k8 hi]; exact ⟨sm_mem 1895 (by decide +kernel), trivial⟩,
  List.forall_mem_cons.mpr ⟨fun pc i hi => by rw [sm_k8 hi]; exact ⟨sm_mem 1896 (by decide +kernel), trivial⟩,
  fun _ h => absurd h List.not_mem_nil⟩⟩⟩⟩⟩⟩⟩⟩⟩⟩⟩⟩⟩⟩⟩⟩⟩⟩⟩⟩
def sp_27_2 : List ((Nat × Nat) × List Nat) := [((8, 273), [6712369225264015913]), ((8, 275), [7935409752451463968]), ((8, 277), [2891374900493512033]), ((8, 279), [2338042629976321568]), ((8, 281), [737218325013405822]), ((8, 283), [7935381194378387541]), ((8, 285), [2819389844678339937]), ((8, 287), [8390326386895364132]), ((8, 289), [171647097]), ((8, 205), [255]), ((11, 432), [0, 0, 11, 176]), ((2, 435), [7, 0, 0, 11]), ((2, 438), [65, 0, 0, 11]), ((2, 441), [63, 0, 0, 11]), ((1, 325), [8, 0, 11]), ((2, 351), [10, 0, 0, 11]), ((2, 392), [9, 0, 0, 11]), ((11, 444), [0, 0, 11, 194]), ((11, 447), [0, 0, 11, 201]), ((2, 342), [13, 0, 0, 11])]
set_option maxRecDepth 20000 in
theorem sp_ok_27_2 {K : sm_H} (hK : sc_KOk K) (mn : String) : sm_poolOk sc_Ts sc_sx sc_zx sc_oc K sc_cl sc_Y "TwoWayGrammarModel" mn sp_27_2 :=
  List.forall_mem_cons.mpr ⟨fun pc i hi => by rw [sm_k8 hi]; exact ⟨sm_mem 1897 (by decide +kernel), trivial⟩,
  List.forall_mem_cons.mpr ⟨fun pc i hi => by rw [sm_k8 hi]; exact ⟨sm_mem 1898 (by decide +kernel), trivial⟩,
  List.forall_mem_cons.mpr ⟨fun pc i hi => by rw [sm_k8 hi]; exact ⟨sm_mem 1899 (by decide +kernel), trivial⟩,
  List.forall_mem_cons.mpr ⟨fun pc i hi => by rw [sm_k8 hi]; exact ⟨sm_mem 1900 (by decide +kernel), trivial⟩,
  List.forall_mem_cons.mpr ⟨fun pc i hi => by rw [sm_k8 hi]; exact ⟨sm_mem 1901 (by decide +kernel), trivial⟩,
  List.forall_mem_cons.mpr ⟨fun pc i hi => by rw [sm_k8 hi]; exact ⟨sm_mem 1902 (by decide +kernel), trivial⟩,
  List.forall_mem_cons.mpr ⟨fun pc i hi => by rw [sm_k8 hi]; exact ⟨sm_mem 1903 (by decide +kernel), trivial⟩,
  List.forall_mem_cons.mpr ⟨fun pc i hi => by rw [sm_k8 hi]; exact ⟨sm_mem 1904 (by decide +kernel), trivial⟩,
  List.forall_mem_cons.mpr ⟨fun pc i hi => by rw [sm_k8 hi]; exact ⟨sm_mem 1905 (by decide +kernel), trivial⟩,
  List.forall_mem_cons.mpr ⟨fun pc i hi => by rw [sm_k8 hi]; exact ⟨sm_mem 1866 (by decide +kernel), trivial⟩,
  List.forall_mem_cons.mpr ⟨fun pc i hi => by rw [sm_k11 hi]; exact ⟨trivial, sm_pk1 (⟨"TwoWayGrammarModel", sc_T11, 96, rfl, sm_mem 1912 (by decide +kernel), sm_mem 112 (by decide +kernel), Or.inl ⟨sm_mem 1910 (by decide +kernel), sm_mem 48 (by decide +kernel), by decide +kernel⟩⟩)⟩,
  List.forall_mem_cons.mpr ⟨fun pc i hi => by rw [sm_k2 hi]; exact ⟨sm_al1 (⟨"TwoWayGrammarModel", sc_T11, 96, "TwoWayGrammarModel", sc_ty11, rfl, by decide, sc_in11, sm_mem 1562 (by decide +kernel), Or.inl rfl, sc_tyok11, sc_nm11, Or.inl rfl, Or.inl ⟨rfl, rfl⟩⟩), trivial⟩,
  List.forall_mem_cons.mpr ⟨fun pc i hi => by rw [sm_k2 hi]; exact ⟨sm_al1 (⟨"TwoWayGrammarModel", sc_T11, 96, "TwoWayGrammarModel", sc_ty11, rfl, by decide, sc_in11, sm_mem 1620 (by decide +kernel), Or.inl rfl, sc_tyok11, sc_nm11, Or.inl rfl, Or.inl ⟨rfl, rfl⟩⟩), trivial⟩,
  List.forall_mem_cons.mpr ⟨fun pc i hi => by rw [sm_k2 hi]; exact ⟨sm_al1 (⟨"TwoWayGrammarModel", sc_T11, 96, "TwoWayGrammarModel", sc_ty11, rfl, by decide, sc_in11, sm_mem 1618 (by decide +kernel), Or.inl rfl, sc_tyok11, sc_nm11, Or.inl rfl, Or.inl ⟨rfl, rfl⟩⟩), trivial⟩,
  List.forall_mem_cons.mpr ⟨fun pc i hi => by rw [sm_k1 hi]; exact ⟨sm_al1 (⟨"TwoWayGrammarModel", sc_T11, 96, "TwoWayGrammarModel", rfl, by decide, sc_in11, sm_mem 1563 (by decide +kernel), Or.inl rfl⟩), trivial⟩,
  List.forall_mem_cons.mpr ⟨fun pc i hi => by rw [sm_k2 hi]; exact ⟨sm_al1 (⟨"TwoWayGrammarModel", sc_T11, 96, "TwoWayGrammarModel", sc_ty11, rfl, by decide, sc_in11, sm_mem 1565 (by decide +kernel), Or.inl rfl, sc_tyok11, sc_nm11, Or.inl rfl, Or.inl ⟨rfl, rfl⟩⟩), trivial⟩,
  List.forall_mem_cons.mpr ⟨fun pc i hi => by rw [sm_k2 hi]; exact ⟨sm_al1 (⟨"TwoWayGrammarModel", sc_T11, 96, "TwoWayGrammarModel", sc_ty11, rfl, by decide, sc_in11, sm_mem 1564 (by decide +kernel), Or.inl rfl, sc_tyok11, sc_nm11, Or.inl rfl, Or.inl ⟨rfl, rfl⟩⟩), trivial⟩,
  List.forall_mem_cons.mpr ⟨fun pc i hi => by rw [sm_k11 hi]; exact ⟨trivial, sm_pk1 (⟨"TwoWayGrammarModel", sc_T11, 96, rfl, sm_mem 1989 (by decide +kernel), sm_mem 112 (by decide +kernel), Or.inl ⟨sm_mem 1987 (by decide +kernel), sm_mem 62 (by decide +kernel), by decide +kernel⟩⟩)⟩,
  List.forall_mem_cons.mpr ⟨fun pc i hi => by rw [sm_k11 hi]; exact ⟨trivial, sm_pk1 (⟨"TwoWayGrammarModel", sc_T11, 96, rfl, sm_mem 2017 (by decide +kernel), sm_mem 112 (by decide +kernel), Or.inl ⟨sm_mem 2015 (by decide +kernel), sm_mem 69 (by decide +kernel), by decide +kernel⟩⟩)⟩,
  List.forall_mem_cons.mpr ⟨fun pc i hi => by rw [sm_k2 hi]; exact ⟨sm_al1 (⟨"TwoWayGrammarModel", sc_T11, 96, "TwoWayGrammarModel", sc_ty11, rfl, by decide, sc_in11, sm_mem 1568 (by decide +kernel), Or.inl rfl, sc_tyok11, sc_nm11, Or.inl rfl, Or.inl ⟨rfl, rfl⟩⟩), trivial⟩,
  fun _ h => absurd h List.not_mem_nil⟩⟩⟩⟩⟩⟩⟩⟩⟩⟩⟩⟩⟩⟩⟩⟩⟩⟩⟩⟩
end
section
def sp_27_3 : List ((Nat × Nat) × List Nat) := [((2, 345), [12, 0, 0, 11]), ((2, 358), [11, 0, 0, 11]), ((2, 325), [8, 0, 0, 11]), ((2, 291), [48, 0, 0, 11]), ((1, 25), [16, 0, 11]), ((11, 379), [0, 0, 11, 177]), ((1, 309), [49, 0, 11]), ((1, 392), [9, 0, 11]), ((11, 395), [0, 0, 11, 183]), ((1, 358), [11, 0, 11]), ((1, 38), [20, 0, 11]), ((1, 41), [21, 0, 11]), ((1, 44), [22, 0, 11]), ((11, 361), [0, 2, 11, 184]), ((1, 291), [48, 0, 11]), ((9, 294), [0, 178, 1]), ((2, 298), [50, 0, 0, 11]), ((2, 301), [52, 1, 0, 11]), ((11, 305), [0, 1, 11, 179]), ((1, 298), [50, 0, 11])]
set_option maxRecDepth 20000 in
theorem sp_ok_27_3 {K : sm_H} (hK : sc_KOk K) (mn : String) : sm_poolOk sc_Ts sc_sx sc_zx sc_oc K sc_cl sc_Y "TwoWayGrammarModel" mn sp_27_3 :=
  List.forall_mem_cons.mpr ⟨fun pc i hi => by rw [sm_k2 hi]; exact ⟨sm_al1 (⟨"TwoWayGrammarModel", sc_T11, 96, "TwoWayGrammarModel", sc_ty11, rfl, by decide, sc_in11, sm_mem 1567 (by decide +kernel), Or.inl rfl, sc_tyok11, sc_nm11, Or.inl rfl, Or.inl ⟨rfl, rfl⟩⟩), trivial⟩,
  List.forall_mem_cons.mpr ⟨fun pc i hi => by rw [sm_k2 hi]; exact ⟨sm_al1 (⟨"TwoWayGrammarModel", sc_T11, 96, "TwoWayGrammarModel", sc_ty11, rfl, by decide, sc_in11, sm_mem 1566 (by decide +kernel), Or.inl rfl, sc_tyok11, sc_nm11, Or.inl rfl, Or.inl ⟨rfl, rfl⟩⟩), trivial⟩,
  List.forall_mem_cons.mpr ⟨fun pc i hi => by rw [sm_k2 hi]; exact ⟨sm_al1 (⟨"TwoWayGrammarModel", sc_T11, 96, "TwoWayGrammarModel", sc_ty11, rfl, by decide, sc_in11, sm_mem 1563 (by decide +kernel), Or.inl rfl, sc_tyok11, sc_nm11, Or.inl rfl, Or.inl ⟨rfl, rfl⟩⟩), trivial⟩,
  List.forall_mem_cons.mpr ⟨fun pc i hi => by rw [sm_k2 hi]; exact ⟨sm_al1 (⟨"TwoWayGrammarModel", sc_T11, 96, "TwoWayGrammarModel", sc_ty11, rfl, by decide, sc_in11, sm_mem 1603 (by decide +kernel), Or.inl rfl, sc_tyok11, sc_nm11, Or.inl rfl, Or.inl ⟨rfl, rfl⟩⟩), trivial⟩,
  List.forall_mem_cons.mpr ⟨fun pc i hi => by rw [sm_k1 hi]; exact ⟨sm_al1 (⟨"TwoWayGrammarModel", sc_T11, 96, "TwoWayGrammarModel", rfl, by decide, sc_in11, sm_mem 1571 (by decide +kernel), Or.inl rfl⟩), trivial⟩,
  List.forall_mem_cons.mpr ⟨fun pc i hi => by rw [sm_k11 hi]; exact ⟨trivial, sm_pk1 (⟨"TwoWayGrammarModel", sc_T11, 96, rfl, sm_mem 1916 (by decide +kernel), sm_mem 112 (by decide +kernel), Or.inl ⟨sm_mem 1914 (by decide +kernel), sm_mem 49 (by decide +kernel), by decide +kernel⟩⟩)⟩,
  List.forall_mem_cons.mpr ⟨fun pc i hi => by rw [sm_k1 hi]; exact ⟨sm_al1 (⟨"TwoWayGrammarModel", sc_T11, 96, "TwoWayGrammarModel", rfl, by decide, sc_in11, sm_mem 1604 (by decide +kernel), Or.inl rfl⟩), trivial⟩,
  List.forall_mem_cons.mpr ⟨fun pc i hi => by rw [sm_k1 hi]; exact ⟨sm_al1 (⟨"TwoWayGrammarModel", sc_T11, 96, "TwoWayGrammarModel", rfl, by decide, sc_in11, sm_mem 1564 (by decide +kernel), Or.inl rfl⟩), trivial⟩,
  List.forall_mem_cons.mpr ⟨fun pc i hi => by rw [sm_k11 hi]; exact ⟨trivial, sm_pk1 (⟨"TwoWayGrammarModel", sc_T11, 96, rfl, sm_mem 1939 (by decide +kernel), sm_mem 112 (by decide +kernel), Or.inl ⟨sm_mem 1937 (by decide +kernel), sm_mem 52 (by decide +kernel), by decide +kernel⟩⟩)⟩,
  List.forall_mem_cons.mpr ⟨fun pc i hi => by rw [sm_k1 hi]; exact ⟨sm_al1 (⟨"TwoWayGrammarModel", sc_T11, 96, "TwoWayGrammarModel", rfl, by decide, sc_in11, sm_mem 1566 (by decide +kernel), Or.inl rfl⟩), trivial⟩,
  List.forall_mem_cons.mpr ⟨fun pc i hi => by rw [sm_k1 hi]; exact ⟨sm_al1 (⟨"TwoWayGrammarModel", sc_T11, 96, "TwoWayGrammarModel", rfl, by decide, sc_in11, sm_mem 1575 (by decide +kernel), Or.inl rfl⟩), trivial⟩,
  List.forall_mem_cons.mpr ⟨fun pc i hi => by rw [sm_k1 hi]; exact ⟨sm_al1 (⟨"TwoWayGrammarModel", sc_T11, 96, "TwoWayGrammarModel", rfl, by decide, sc_in11, sm_mem 1576 (by decide +kernel), Or.inl rfl⟩), trivial⟩,
  List.forall_mem_cons.mpr ⟨fun pc i hi => by rw [sm_k1 hi]; exact ⟨sm_al1 (⟨"TwoWayGrammarModel", sc_T11, 96, "TwoWayGrammarModel", rfl, by decide, sc_in11, sm_mem 1577 (by decide +kernel), Or.inl rfl⟩), trivial⟩,
  List.forall_mem_cons.mpr ⟨fun pc i hi => by rw [sm_k11 hi]; exact ⟨trivial, sm_pk1 (⟨"TwoWayGrammarModel", sc_T11, 96, rfl, sm_mem 1943 (by decide +kernel), sm_mem 112 (by decide +kernel), Or.inl ⟨sm_mem 1941 (by decide +kernel), sm_mem 53 (by decide +kernel), by decide +kernel⟩⟩)⟩,
  List.forall_mem_cons.mpr ⟨fun pc i hi => by rw [sm_k1 hi]; exact ⟨sm_al1 (⟨"TwoWayGrammarModel", sc_T11, 96, "TwoWayGrammarModel", rfl, by decide, sc_in11, sm_mem 1603 (by decide +kernel), Or.inl rfl⟩), trivial⟩,
  List.forall_mem_cons.mpr ⟨fun pc i hi => by rw [sm_k9 hi]; exact ⟨trivial, ⟨sm_mem 1919 (by decide +kernel), sm_mem 112 (by decide +kernel), by decide +kernel, Or.inl (sm_mem 1918 (by decide +kernel))⟩⟩,
  List.forall_mem_cons.mpr ⟨fun pc i hi => by rw [sm_k2 hi]; exact ⟨sm_al1 (⟨"TwoWayGrammarModel", sc_T11, 96, "TwoWayGrammarModel", sc_ty11, rfl, by decide, sc_in11, sm_mem 1605 (by decide +kernel), Or.inl rfl, sc_tyok11, sc_nm11, Or.inl rfl, Or.inl ⟨rfl, rfl⟩⟩), trivial⟩,
  List.forall_mem_cons.mpr ⟨fun pc i hi => by rw [sm_k2 hi]; exact ⟨sm_al1 (⟨"TwoWayGrammarModel", sc_T11, 96, "TwoWayGrammarModel", sc_ty11, rfl, by decide, sc_in11, sm_mem 1607 (by decide +kernel), Or.inl rfl, sc_tyok11, sc_nm11, Or.inl rfl, Or.inr (Or.inl ⟨rfl, rfl⟩)⟩), trivial⟩,
  List.forall_mem_cons.mpr ⟨fun pc i hi => by rw [sm_k11 hi]; exact ⟨trivial, sm_pk1 (⟨"TwoWayGrammarModel", sc_T11, 96, rfl, sm_mem 1923 (by decide +kernel), sm_mem 112 (by decide +kernel), Or.inl ⟨sm_mem 1921 (by decide +kernel), sm_mem 50 (by decide +kernel), by decide +kernel⟩⟩)⟩,
  List.forall_mem_cons.mpr ⟨fun pc i hi => by rw [sm_k1 hi]; exact ⟨sm_al1 (⟨"TwoWayGrammarModel", sc_T11, 96, "TwoWayGrammarModel", rfl, by decide, sc_in11, sm_mem 1605 (by decide +kernel), Or.inl rfl⟩), trivial⟩,
  fun _ h => absurd h List.not_mem_nil⟩⟩⟩⟩⟩⟩⟩⟩⟩⟩⟩⟩⟩⟩⟩⟩⟩⟩⟩⟩
def sp_27_4 : List ((Nat × Nat) × List Nat) := [((2, 309), [49, 0, 0, 11]), ((9, 312), [0, 180, 1]), ((11, 315), [0, 1, 11, 181]), ((9, 318), [0, 182, 1]), ((8, 321), [18446744073709551615]), ((1, 301), [52, 0, 11]), ((8, 323), [96]), ((1, 19), [14, 0, 11]), ((2, 348), [51, 0, 0, 11]), ((1, 120), [53, 0, 11]), ((11, 373), [0, 0, 11, 185]), ((1, 22), [15, 0, 11]), ((11, 398), [0, 0, 11, 186]), ((1, 68), [30, 0, 11]), ((1, 342), [13, 0, 11]), ((1, 71), [31, 0, 11]), ((11, 376), [0, 1, 11, 187]), ((1, 135), [58, 0, 11]), ((1, 348), [51, 0, 11]), ((11, 382), [0, 0, 11, 188])]
set_option maxRecDepth 20000 in
theorem sp_ok_27_4 {K : sm_H} (hK : sc_KOk K) (mn : String) : sm_poolOk sc_Ts sc_sx sc_zx sc_oc K sc_cl sc_Y "TwoWayGrammarModel" mn sp_27_4 :=
  List.forall_mem_cons.mpr ⟨fun pc i hi => by rw [sm_k2 hi]; exact ⟨sm_al1 (⟨"TwoWayGrammarModel", sc_T11, 96, "TwoWayGrammarModel", sc_ty11, rfl, by decide, sc_in11, sm_mem 1604 (by decide +kernel), Or.inl rfl, sc_tyok11, sc_nm11, Or.inl rfl, Or.inl ⟨rfl, rfl⟩⟩), trivial⟩,
  List.forall_mem_cons.mpr ⟨fun pc i hi => by rw [sm_k9 hi]; exact ⟨trivial, ⟨sm_mem 1926 (by decide +kernel), sm_mem 112 (by decide +kernel), by decide +kernel, Or.inl (sm_mem 1925 (by decide +kernel))⟩⟩,
  List.forall_mem_cons.mpr ⟨fun pc i hi => by rw [sm_k11 hi]; exact ⟨trivial, sm_pk1 (⟨"TwoWayGrammarModel", sc_T11, 96, rfl, sm_mem 1930 (by decide +kernel), sm_mem 112 (by decide +kernel), Or.inl ⟨sm_mem 1928 (by decide +kernel), sm_mem 51 (by decide +kernel), by decide +kernel⟩⟩)⟩,
  List.forall_mem_cons.mpr ⟨fun pc i hi => by rw [sm_k9 hi]; exact ⟨trivial, ⟨sm_mem 1935 (by decide +kernel), sm_mem 112 (by decide +kernel), by decide +kernel, Or.inl (sm_mem 1934 (by decide +kernel))⟩⟩,
  List.forall_mem_cons.mpr ⟨fun pc i hi => by rw [sm_k8 hi]; exact ⟨sm_mem 1932 (by decide +kernel), trivial⟩,
  List.forall_mem_cons.mpr ⟨fun pc i hi => by rw [sm_k1 hi]; exact ⟨sm_al1 (⟨"TwoWayGrammarModel", sc_T11, 96, "TwoWayGrammarModel", rfl, by decide, sc_in11, sm_mem 1607 (by decide +kernel), Or.inl rfl⟩), trivial⟩,
  List.forall_mem_cons.mpr ⟨fun pc i hi => by rw [sm_k8 hi]; exact ⟨sm_mem 1933 (by decide +kernel), trivial⟩,
  List.forall_mem_cons.mpr ⟨fun pc i hi => by rw [sm_k1 hi]; exact ⟨sm_al1 (⟨"TwoWayGrammarModel", sc_T11, 96, "TwoWayGrammarModel", rfl, by decide, sc_in11, sm_mem 1569 (by decide +kernel), Or.inl rfl⟩), trivial⟩,
  List.forall_mem_cons.mpr ⟨fun pc i hi => by rw [sm_k2 hi]; exact ⟨sm_al1 (⟨"TwoWayGrammarModel", sc_T11, 96, "TwoWayGrammarModel", sc_ty11, rfl, by decide, sc_in11, sm_mem 1606 (by decide +kernel), Or.inl rfl, sc_tyok11, sc_nm11, Or.inl rfl, Or.inl ⟨rfl, rfl⟩⟩), trivial⟩,
  List.forall_mem_cons.mpr ⟨fun pc i hi => by rw [sm_k1 hi]; exact ⟨sm_al1 (⟨"TwoWayGrammarModel", sc_T11, 96, "TwoWayGrammarModel", rfl, by decide, sc_in11, sm_mem 1608 (by decide +kernel), Or.inl rfl⟩), trivial⟩,
  List.forall_mem_cons.mpr ⟨fun pc i hi => by rw [sm_k11 hi]; exact ⟨trivial, sm_pk1 (⟨"TwoWayGrammarModel", sc_T11, 96, rfl, sm_mem 1947 (by decide +kernel), sm_mem 112 (by decide +kernel), Or.inl ⟨sm_mem 1945 (by decide +kernel), sm_mem 54 (by decide +kernel), by decide +kernel⟩⟩)⟩,
  List.forall_mem_cons.mpr ⟨fun pc i hi => by rw [sm_k1 hi]; exact ⟨sm_al1 (⟨"TwoWayGrammarModel", sc_T11, 96, "TwoWayGrammarModel", rfl, by decide, sc_in11, sm_mem 1570 (by decide +kernel), Or.inl rfl⟩), trivial⟩,
  List.forall_mem_cons.mpr ⟨fun pc i hi => by rw [sm_k11 hi]; exact ⟨trivial, sm_pk1 (⟨"TwoWayGrammarModel", sc_T11, 96, rfl, sm_mem 1951 (by decide +kernel), sm_mem 112 (by decide +kernel), Or.inl ⟨sm_mem 1949 (by decide +kernel), sm_mem 55 (by decide +kernel), by decide +kernel⟩⟩)⟩,
  List.forall_mem_cons.mpr ⟨fun pc i hi => by rw [sm_k1 hi]; exact ⟨sm_al1 (⟨"TwoWayGrammarModel", sc_T11, 96, "TwoWayGrammarModel", rfl, by decide, sc_in11, sm_mem 1585 (by decide +kernel), Or.inl rfl⟩), trivial⟩,
  List.forall_mem_cons.mpr ⟨fun pc i hi => by rw [sm_k1 hi]; exact ⟨sm_al1 (⟨"TwoWayGrammarModel", sc_T11, 96, "TwoWayGrammarModel", rfl, by decide, sc_in11, sm_mem 1568 (by decide +kernel), Or.inl rfl⟩), trivial⟩,
  List.forall_mem_cons.mpr ⟨fun pc i hi => by rw [sm_k1 hi]; exact ⟨sm_al1 (⟨"TwoWayGrammarModel", sc_T11, 96, "TwoWayGrammarModel", rfl, by decide, sc_in11, sm_mem 1586 (by decide +kernel), Or.inl rfl⟩), trivial⟩,
  List.forall_mem_cons.mpr ⟨fun pc i hi => by rw [sm_k11 hi]; exact ⟨trivial, sm_pk1 (⟨"TwoWayGrammarModel", sc_T11, 96, rfl, sm_mem 1955 (by decide +kernel), sm_mem 112 (by decide +kernel), Or.inl ⟨sm_mem 1953 (by decide +kernel), sm_mem 56 (by decide +kernel), by decide +kernel⟩⟩)⟩,
  List.forall_mem_cons.mpr ⟨fun pc i hi => by rw [sm_k1 hi]; exact ⟨sm_al1 (⟨"TwoWayGrammarModel", sc_T11, 96, "TwoWayGrammarModel", rfl, by decide, sc_in11, sm_mem 1613 (by decide +kernel), Or.inl rfl⟩), trivial⟩,
  List.forall_mem_cons.mpr ⟨fun pc i hi => by rw [sm_k1 hi]; exact ⟨sm_al1 (⟨"TwoWayGrammarModel", sc_T11, 96, "TwoWayGrammarModel", rfl, by decide, sc_in11, sm_mem 1606 (by decide +kernel), Or.inl rfl⟩), trivial⟩,
  List.forall_mem_cons.mpr ⟨fun pc i hi => by rw [sm_k11 hi]; exact ⟨trivial, sm_pk1 (⟨"TwoWayGrammarModel", sc_T11, 96, rfl, sm_mem 1959 (by decide +kernel), sm_mem 112 (by decide +kernel), Or.inl ⟨sm_mem 1957 (by decide +kernel), sm_mem 57 (by decide +kernel), by decide +kernel⟩⟩)⟩,
  fun _ h => absurd h List.not_mem_nil⟩⟩⟩⟩⟩⟩⟩⟩⟩⟩⟩⟩⟩⟩⟩⟩⟩⟩⟩⟩
def sp_27_5 : List ((Nat × Nat) × List Nat) := [((9, 354), [0, 189, 1]), ((11, 386), [0, 0, 11, 190]), ((11, 389), [0, 0, 11, 193]), ((1, 132), [57, 0, 11]), ((1, 47), [23, 0, 11]), ((1, 50), [24, 0, 11]), ((1, 126), [55, 0, 11]), ((11, 369), [0, 1, 11, 192]), ((1, 345), [12, 0, 11]), ((1, 59), [27, 0, 11]), ((1, 65), [29, 0, 11]), ((1, 62), [28, 0, 11]), ((1, 123), [54, 0, 11]), ((1, 129), [56, 0, 11]), ((8, 328), [609302190]), ((8, 330), [177198]), ((8, 332), [26886565]), ((8, 334), [11994498]), ((8, 336), [178476]), ((8, 338), [609752228])]
set_option maxRecDepth 20000 in
theorem sp_ok_27_5 {K : sm_H} (hK : sc_KOk K) (mn : String) : sm_poolOk sc_Ts sc_sx sc_zx sc_oc K sc_cl sc_Y "TwoWayGrammarModel" mn sp_27_5 :=
  List.forall_mem_cons.mpr ⟨fun pc i hi => by rw [sm_k9 hi]; exact ⟨trivial, ⟨sm_mem 1962 (by decide +kernel), sm_mem 112 (by decide +kernel), by decide +kernel, Or.inl (sm_mem 1961 (by decide +kernel))⟩⟩,
  List.forall_mem_cons.mpr ⟨fun pc i hi => by rw [sm_k11 hi]; exact ⟨trivial, sm_pk1 (⟨"TwoWayGrammarModel", sc_T11, 96, rfl, sm_mem 1973 (by decide +kernel), sm_mem 112 (by decide +kernel), Or.inl ⟨sm_mem 1971 (by decide +kernel), sm_mem 58 (by decide +kernel), by decide +kernel⟩⟩)⟩,
  List.forall_mem_cons.mpr ⟨fun pc i hi => by rw [sm_k11 hi]; exact ⟨trivial, sm_pk1 (⟨"TwoWayGrammarModel", sc_T11, 96, rfl, sm_mem 1985 (by decide +kernel), sm_mem 112 (by decide +kernel), Or.inl ⟨sm_mem 1983 (by decide +kernel), sm_mem 61 (by decide +kernel), by decide +kernel⟩⟩)⟩,
  List.forall_mem_cons.mpr ⟨fun pc i hi => by rw [sm_k1 hi]; exact ⟨sm_al1 (⟨"TwoWayGrammarModel", sc_T11, 96, "TwoWayGrammarModel", rfl, by decide, sc_in11, sm_mem 1612 (by decide +kernel), Or.inl rfl⟩), trivial⟩,
  List.forall_mem_cons.mpr ⟨fun pc i hi => by rw [sm_k1 hi]; exact ⟨sm_al1 (⟨"TwoWayGrammarModel", sc_T11, 96, "TwoWayGrammarModel", rfl, by decide, sc_in11, sm_mem 1578 (by decide +kernel), Or.inl rfl⟩), trivial⟩,
  List.forall_mem_cons.mpr ⟨fun pc i hi => by rw [sm_k1 hi]; exact ⟨sm_al1 (⟨"TwoWayGrammarModel", sc_T11, 96, "TwoWayGrammarModel", rfl, by decide, sc_in11, sm_mem 1579 (by decide +kernel), Or.inl rfl⟩), trivial⟩,
  List.forall_mem_cons.mpr ⟨fun pc i hi => by rw [sm_k1 hi]; exact ⟨sm_al1 (⟨"TwoWayGrammarModel", sc_T11, 96, "TwoWayGrammarModel", rfl, by decide, sc_in11, sm_mem 1610 (by decide +kernel), Or.inl rfl⟩), trivial⟩,
  List.forall_mem_cons.mpr ⟨fun pc i hi => by rw [sm_k11 hi]; exact ⟨trivial, sm_pk1 (⟨"TwoWayGrammarModel", sc_T11, 96, rfl, sm_mem 1981 (by decide +kernel), sm_mem 112 (by decide +kernel), Or.inl ⟨sm_mem 1979 (by decide +kernel), sm_mem 60 (by decide +kernel), by decide +kernel⟩⟩)⟩,
  List.forall_mem_cons.mpr ⟨fun pc i hi => by rw [sm_k1 hi]; exact ⟨sm_al1 (⟨"TwoWayGrammarModel", sc_T11, 96, "TwoWayGrammarModel", rfl, by decide, sc_in11, sm_mem 1567 (by decide +kernel), Or.inl rfl⟩), trivial⟩,
  List.forall_mem_cons.mpr ⟨fun pc i hi => by rw [sm_k1 hi]; exact ⟨sm_al1 (⟨"TwoWayGrammarModel", sc_T11, 96, "TwoWayGrammarModel", rfl, by decide, sc_in11, sm_mem 1582 (by decide +kernel), Or.inl rfl⟩), trivial⟩,
  List.forall_mem_cons.mpr ⟨fun pc i hi => by rw [sm_k1 hi]; exact ⟨sm_al1 (⟨"TwoWayGrammarModel", sc_T11, 96, "TwoWayGrammarModel", rfl, by decide, sc_in11, sm_mem 1584 (by decide +kernel), Or.inl rfl⟩), trivial⟩,
  List.forall_mem_cons.mpr ⟨fun pc i hi => by rw [sm_k1 hi]; exact ⟨sm_al1 (⟨"TwoWayGrammarModel", sc_T11, 96, "TwoWayGrammarModel", rfl, by decide, sc_in11, sm_mem 1583 (by decide +kernel), Or.inl rfl⟩), trivial⟩,
  List.forall_mem_cons.mpr ⟨fun pc i hi => by rw [sm_k1 hi]; exact ⟨sm_al1 (⟨"TwoWayGrammarModel", sc_T11, 96, "TwoWayGrammarModel", rfl, by decide, sc_in11, sm_mem 1609 (by decide +kernel), Or.inl rfl⟩), trivial⟩,
  List.forall_mem_cons.mpr ⟨fun pc i hi => by rw [sm_k1 hi]; exact ⟨sm_al1 (⟨"TwoWayGrammarModel", sc_T11, 96, "TwoWayGrammarModel", rfl, by decide, sc_in11, sm_mem 1611 (by decide +kernel), Or.inl rfl⟩), trivial⟩,
  List.forall_mem_cons.mpr ⟨fun pc i hi => by rw [sm_k8 hi]; exact ⟨sm_mem 1964 (by decide +kernel), trivial⟩,
  List.forall_mem_cons.mpr ⟨fun pc i hi => by rw [sm_k8 hi]; exact ⟨sm_mem 1965 (by decide +kernel), trivial⟩,
  List.forall_mem_cons.mpr ⟨fun pc i hi => by rw [sm_k8 hi]; exact ⟨sm_mem 1966 (by decide +kernel), trivial⟩,
  List.forall_mem_cons.mpr ⟨fun pc i hi => by rw [sm_k8 hi]; exact ⟨sm_mem 1967 (by decide +kernel), trivial⟩,
  List.forall_mem_cons.mpr ⟨fun pc i hi => by rw [sm_k8 hi]; exact ⟨sm_mem 1968 (by decide +kernel), trivial⟩,
  List.forall_mem_cons.mpr ⟨fun pc i hi => by rw [sm_k8 hi]; exact ⟨sm_mem 1969 (by decide +kernel), trivial⟩,
  fun _ h => absurd h List.not_mem_nil⟩⟩⟩⟩⟩⟩⟩⟩⟩⟩⟩⟩⟩⟩⟩⟩⟩⟩⟩⟩
def sp_27_6 : List ((Nat × Nat) × List Nat) := [((8, 340), [363554]), ((1, 53), [25, 0, 11]), ((1, 56), [26, 0, 11]), ((11, 365), [0, 0, 11, 191]), ((1, 351), [10, 0, 11]), ((1, 34), [19, 0, 11]), ((1, 31), [18, 0, 11]), ((1, 81), [34, 0, 11]), ((1, 90), [37, 0, 11]), ((1, 105), [42, 0, 11]), ((1, 114), [45, 0, 11]), ((1, 96), [39, 0, 11]), ((2, 407), [47, 3, 0, 11]), ((1, 407), [47, 0, 11]), ((11, 411), [0, 1, 11, 195]), ((11, 414), [0, 1, 11, 196]), ((11, 417), [0, 1, 11, 199]), ((11, 420), [0, 2, 11, 200]), ((1, 28), [17, 0, 11]), ((1, 74), [32, 0, 11])]
set_option maxRecDepth 20000 in
theorem sp_ok_27_6 {K : sm_H} (hK : sc_KOk K) (mn : String) : sm_poolOk sc_Ts sc_sx sc_zx sc_oc K sc_cl sc_Y "TwoWayGrammarModel" mn sp_27_6 :=
  List.forall_mem_cons.mpr ⟨fun pc i hi => by rw [sm_k8 hi]; exact ⟨sm_mem 1970 (by decide +kernel), trivial⟩,
  List.forall_mem_cons.mpr ⟨fun pc i hi => by rw [sm_k1 hi]; exact ⟨sm_al1 (⟨"TwoWayGrammarModel", sc_T11, 96, "TwoWayGrammarModel", rfl, by decide, sc_in11, sm_mem 1580 (by decide +kernel), Or.inl rfl⟩), trivial⟩,
  List.forall_mem_cons.mpr ⟨fun pc i hi => by rw [sm_k1 hi]; exact ⟨sm_al1 (⟨"TwoWayGrammarModel", sc_T11, 96, "TwoWayGrammarModel", rfl, by decide, sc_in11, sm_mem 1581 (by decide +kernel), Or.inl rfl⟩), trivial⟩,
  List.forall_mem_cons.mpr ⟨fun pc i hi => by rw [sm_k11 hi]; exact ⟨trivial, sm_pk1 (⟨"TwoWayGrammarModel", sc_T11, 96, rfl, sm_mem 1977 (by decide +kernel), sm_mem 112 (by decide +kernel), Or.inl ⟨sm_mem 1975 (by decide +kernel), sm_mem 59 (by decide +kernel), by decide +kernel⟩⟩)⟩,
  List.forall_mem_cons.mpr ⟨fun pc i hi => by rw [sm_k1 hi]; exact ⟨sm_al1 (⟨"TwoWayGrammarModel", sc_T11, 96, "TwoWayGrammarModel", rfl, by decide, sc_in11, sm_mem 1565 (by decide +kernel), Or.inl rfl⟩), trivial⟩,
  List.forall_mem_cons.mpr ⟨fun pc i hi => by rw [sm_k1 hi]; exact ⟨sm_al1 (⟨"TwoWayGrammarModel", sc_T11, 96, "TwoWayGrammarModel", rfl, by decide, sc_in11, sm_mem 1574 (by decide +kernel), Or.inl rfl⟩), trivial⟩,
  List.forall_mem_cons.mpr ⟨fun pc i hi => by rw [sm_k1 hi]; exact ⟨sm_al1 (⟨"TwoWayGrammarModel", sc_T11, 96, "TwoWayGrammarModel", rfl, by decide, sc_in11, sm_mem 1573 (by decide +kernel), Or.inl rfl⟩), trivial⟩,
  List.forall_mem_cons.mpr ⟨fun pc i hi => by rw [sm_k1 hi]; exact ⟨sm_al1 (⟨"TwoWayGrammarModel", sc_T11, 96, "TwoWayGrammarModel", rfl, by decide, sc_in11, sm_mem 1589 (by decide +kernel), Or.inl rfl⟩), trivial⟩,
  List.forall_mem_cons.mpr ⟨fun pc i hi => by rw [sm_k1 hi]; exact ⟨sm_al1 (⟨"TwoWayGrammarModel", sc_T11, 96, "TwoWayGrammarModel", rfl, by decide, sc_in11, sm_mem 1592 (by decide +kernel), Or.inl rfl⟩), trivial⟩,
  List.forall_mem_cons.mpr ⟨fun pc i hi => by rw [sm_k1 hi]; exact ⟨sm_al1 (⟨"TwoWayGrammarModel", sc_T11, 96, "TwoWayGrammarModel", rfl, by decide, sc_in11, sm_mem 1597 (by decide +kernel), Or.inl rfl⟩), trivial⟩,
  List.forall_mem_cons.mpr ⟨fun pc i hi => by rw [sm_k1 hi]; exact ⟨sm_al1 (⟨"TwoWayGrammarModel", sc_T11, 96, "TwoWayGrammarModel", rfl, by decide, sc_in11, sm_mem 1600 (by decide +kernel), Or.inl rfl⟩), trivial⟩,
  List.forall_mem_cons.mpr ⟨fun pc i hi => by rw [sm_k1 hi]; exact ⟨sm_al1 (⟨"TwoWayGrammarModel", sc_T11, 96, "TwoWayGrammarModel", rfl, by decide, sc_in11, sm_mem 1594 (by decide +kernel), Or.inl rfl⟩), trivial⟩,
  List.forall_mem_cons.mpr ⟨fun pc i hi => by rw [sm_k2 hi]; exact ⟨sm_al1 (⟨"TwoWayGrammarModel", sc_T11, 96, "TwoWayGrammarModel", sc_ty11, rfl, by decide, sc_in11, sm_mem 1602 (by decide +kernel), Or.inl rfl, sc_tyok11, sc_nm11, Or.inl rfl, Or.inr (Or.inr (Or.inr (Or.inl ⟨rfl, rfl⟩)))⟩), trivial⟩,
  List.forall_mem_cons.mpr ⟨fun pc i hi => by rw [sm_k1 hi]; exact ⟨sm_al1 (⟨"TwoWayGrammarModel", sc_T11, 96, "TwoWayGrammarModel", rfl, by decide, sc_in11, sm_mem 1602 (by decide +kernel), Or.inl rfl⟩), trivial⟩,
  List.forall_mem_cons.mpr ⟨fun pc i hi => by rw [sm_k11 hi]; exact ⟨trivial, sm_pk1 (⟨"TwoWayGrammarModel", sc_T11, 96, rfl, sm_mem 1993 (by decide +kernel), sm_mem 112 (by decide +kernel), Or.inl ⟨sm_mem 1991 (by decide +kernel), sm_mem 63 (by decide +kernel), by decide +kernel⟩⟩)⟩,
  List.forall_mem_cons.mpr ⟨fun pc i hi => by rw [sm_k11 hi]; exact ⟨trivial, sm_pk1 (⟨"TwoWayGrammarModel", sc_T11, 96, rfl, sm_mem 1997 (by decide +kernel), sm_mem 112 (by decide +kernel), Or.inl ⟨sm_mem 1995 (by decide +kernel), sm_mem 64 (by decide +kernel), by decide +kernel⟩⟩)⟩,
  List.forall_mem_cons.mpr ⟨fun pc i hi => by rw [sm_k11 hi]; exact ⟨trivial, sm_pk1 (⟨"TwoWayGrammarModel", sc_T11, 96, rfl, sm_mem 2009 (by decide +kernel), sm_mem 112 (by decide +kernel), Or.inl ⟨sm_mem 2007 (by decide +kernel), sm_mem 67 (by decide +kernel), by decide +kernel⟩⟩)⟩,
  List.forall_mem_cons.mpr ⟨fun pc i hi => by rw [sm_k11 hi]; exact ⟨trivial, sm_pk1 (⟨"TwoWayGrammarModel", sc_T11, 96, rfl, sm_mem 2013 (by decide +kernel), sm_mem 112 (by decide +kernel), Or.inl ⟨sm_mem 2011 (by decide +kernel), sm_mem 68 (by decide +kernel), by decide +kernel⟩⟩)⟩,
  List.forall_mem_cons.mpr ⟨fun pc i hi => by rw [sm_k1 hi]; exact ⟨sm_al1 (⟨"TwoWayGrammarModel", sc_T11, 96, "TwoWayGrammarModel", rfl, by decide, sc_in11, sm_mem 1572 (by decide +kernel), Or.inl rfl⟩), trivial⟩,
  List.forall_mem_cons.mpr ⟨fun pc i hi => by rw [sm_k1 hi]; exact ⟨sm_al1 (⟨"TwoWayGrammarModel", sc_T11, 96, "TwoWayGrammarModel", rfl, by decide, sc_in11, sm_mem 1587 (by decide +kernel), Or.inl rfl⟩), trivial⟩,
  fun _ h => absurd h List.not_mem_nil⟩⟩⟩⟩⟩⟩⟩⟩⟩⟩⟩⟩⟩⟩⟩⟩⟩⟩⟩⟩
def sp_27_7 : List ((Nat × Nat) × List Nat) := [((1, 84), [35, 0, 11]), ((1, 99), [40, 0, 11]), ((1, 108), [43, 0, 11]), ((11, 401), [0, 1, 11, 197]), ((1, 117), [46, 0, 11]), ((11, 404), [0, 1, 11, 198]), ((1, 78), [33, 0, 11]), ((1, 87), [36, 0, 11]), ((1, 102), [41, 0, 11]), ((1, 111), [44, 0, 11]), ((1, 93), [38, 0, 11]), ((11, 424), [0, 3, 11, 202]), ((11, 428), [0, 2, 11, 203]), ((1, 435), [7, 0, 11]), ((1, 441), [63, 0, 11]), ((2, 563), [84, 0, 0, 11]), ((2, 566), [85, 0, 0, 11]), ((2, 560), [94, 3, 0, 11]), ((2, 557), [93, 3, 0, 11]), ((11, 583), [0, 1, 11, 206])]
set_option maxRecDepth 20000 in
theorem sp_ok_27_7 {K : sm_H} (hK : sc_KOk K) (mn : String) : sm_poolOk sc_Ts sc_sx sc_zx sc_oc K sc_cl sc_Y "TwoWayGrammarModel" mn sp_27_7 :=
  List.forall_mem_cons.mpr ⟨fun pc i hi => by rw [sm_k1 hi]; exact ⟨sm_al1 (⟨"TwoWayGrammarModel", sc_T11, 96, "TwoWayGrammarModel", rfl, by decide, sc_in11, sm_mem 1590 (by decide +kernel), Or.inl rfl⟩), trivial⟩,
  List.forall_mem_cons.mpr ⟨fun pc i hi => by rw [sm_k1 hi]; exact ⟨sm_al1 (⟨"TwoWayGrammarModel", sc_T11, 96, "TwoWayGrammarModel", rfl, by decide, sc_in11, sm_mem 1595 (by decide +kernel), Or.inl rfl⟩), trivial⟩,
  List.forall_mem_cons.mpr ⟨fun pc i hi => by rw [sm_k1 hi]; exact ⟨sm_al1 (⟨"TwoWayGrammarModel", sc_T11, 96, "TwoWayGrammarModel", rfl, by decide, sc_in11, sm_mem 1598 (by decide +kernel), Or.inl rfl⟩), trivial⟩,
  List.forall_mem_cons.mpr ⟨fun pc i hi => by rw [sm_k11 hi]; exact ⟨trivial, sm_pk1 (⟨"TwoWayGrammarModel", sc_T11, 96, rfl, sm_mem 2001 (by decide +kernel), sm_mem 112 (by decide +kernel), Or.inl ⟨sm_mem 1999 (by decide +kernel), sm_mem 65 (by decide +kernel), by decide +kernel⟩⟩)⟩,
  List.forall_mem_cons.mpr ⟨fun pc i hi => by rw [sm_k1 hi]; exact ⟨sm_al1 (⟨"TwoWayGrammarModel", sc_T11, 96, "TwoWayGrammarModel", rfl, by decide, sc_in11, sm_mem 1601 (by decide +kernel), Or.inl rfl⟩), trivial⟩,
  List.forall_mem_cons.mpr ⟨fun pc i hi => by rw [sm_k11 hi]; exact ⟨trivial, sm_pk1 (⟨"TwoWayGrammarModel", sc_T11, 96, rfl, sm_mem 2005 (by decide +kernel), sm_mem 112 (by decide +kernel), Or.inl ⟨sm_mem 2003 (by decide +kernel), sm_mem 66 (by decide +kernel), by decide +kernel⟩⟩)⟩,
  List.forall_mem_cons.mpr ⟨fun pc i hi => by rw [sm_k1 hi]; exact ⟨sm_al1 (⟨"TwoWayGrammarModel", sc_T11, 96, "TwoWayGrammarModel", rfl, by decide, sc_in11, sm_mem 1588 (by decide +kernel), Or.inl rfl⟩), trivial⟩,
  List.forall_mem_cons.mpr ⟨fun pc i hi => by rw [sm_k1 hi]; exact ⟨sm_al1 (⟨"TwoWayGrammarModel", sc_T11, 96, "TwoWayGrammarModel", rfl, by decide, sc_in11, sm_mem 1591 (by decide +kernel), Or.inl rfl⟩), trivial⟩,
  List.forall_mem_cons.mpr ⟨fun pc i hi => by rw [sm_k1 hi]; exact ⟨sm_al1 (⟨"TwoWayGrammarModel", sc_T11, 96, "TwoWayGrammarModel", rfl, by decide, sc_in11, sm_mem 1596 (by decide +kernel), Or.inl rfl⟩), trivial⟩,
  List.forall_mem_cons.mpr ⟨fun pc i hi => by rw [sm_k1 hi]; exact ⟨sm_al1 (⟨"TwoWayGrammarModel", sc_T11, 96, "TwoWayGrammarModel", rfl, by decide, sc_in11, sm_mem 1599 (by decide +kernel), Or.inl rfl⟩), trivial⟩,
  List.forall_mem_cons.mpr ⟨fun pc i hi => by rw [sm_k1 hi]; exact ⟨sm_al1 (⟨"TwoWayGrammarModel", sc_T11, 96, "TwoWayGrammarModel", rfl, by decide, sc_in11, sm_mem 1593 (by decide +kernel), Or.inl rfl⟩), trivial⟩,
  List.forall_mem_cons.mpr ⟨fun pc i hi => by rw [sm_k11 hi]; exact ⟨trivial, sm_pk1 (⟨"TwoWayGrammarModel", sc_T11, 96, rfl, sm_mem 2021 (by decide +kernel), sm_mem 112 (by decide +kernel), Or.inl ⟨sm_mem 2019 (by decide +kernel), sm_mem 70 (by decide +kernel), by decide +kernel⟩⟩)⟩,
  List.forall_mem_cons.mpr ⟨fun pc i hi => by rw [sm_k11 hi]; exact ⟨trivial, sm_pk1 (⟨"TwoWayGrammarModel", sc_T11, 96, rfl, sm_mem 2025 (by decide +kernel), sm_mem 112 (by decide +kernel), Or.inl ⟨sm_mem 2023 (by decide +kernel), sm_mem 71 (by decide +kernel), by decide +kernel⟩⟩)⟩,
  List.forall_mem_cons.mpr ⟨fun pc i hi => by rw [sm_k1 hi]; exact ⟨sm_al1 (⟨"TwoWayGrammarModel", sc_T11, 96, "TwoWayGrammarModel", rfl, by decide, sc_in11, sm_mem 1562 (by decide +kernel), Or.inl rfl⟩), trivial⟩,
  List.forall_mem_cons.mpr ⟨fun pc i hi => by rw [sm_k1 hi]; exact ⟨sm_al1 (⟨"TwoWayGrammarModel", sc_T11, 96, "TwoWayGrammarModel", rfl, by decide, sc_in11, sm_mem 1618 (by decide +kernel), Or.inl rfl⟩), trivial⟩,
  List.forall_mem_cons.mpr ⟨fun pc i hi => by rw [sm_k2 hi]; exact ⟨sm_al1 (⟨"TwoWayGrammarModel", sc_T11, 96, "TwoWayGrammarModel", sc_ty11, rfl, by decide, sc_in11, sm_mem 1639 (by decide +kernel), Or.inl rfl, sc_tyok11, sc_nm11, Or.inl rfl, Or.inl ⟨rfl, rfl⟩⟩), trivial⟩,
  List.forall_mem_cons.mpr ⟨fun pc i hi => by rw [sm_k2 hi]; exact ⟨sm_al1 (⟨"TwoWayGrammarModel", sc_T11, 96, "TwoWayGrammarModel", sc_ty11, rfl, by decide, sc_in11, sm_mem 1640 (by decide +kernel), Or.inl rfl, sc_tyok11, sc_nm11, Or.inl rfl, Or.inl ⟨rfl, rfl⟩⟩), trivial⟩,
  List.forall_mem_cons.mpr ⟨fun pc i hi => by rw [sm_k2 hi]; exact ⟨sm_al1 (⟨"TwoWayGrammarModel", sc_T11, 96, "TwoWayGrammarModel", sc_ty11, rfl, by decide, sc_in11, sm_mem 1649 (by decide +kernel), Or.inl rfl, sc_tyok11, sc_nm11, Or.inl rfl, Or.inr (Or.inr (Or.inr (Or.inl ⟨rfl, rfl⟩)))⟩), trivial⟩,
  List.forall_mem_cons.mpr ⟨fun pc i hi => by rw [sm_k2 hi]; exact ⟨sm_al1 (⟨"TwoWayGrammarModel", sc_T11, 96, "TwoWayGrammarModel", sc_ty11, rfl, by decide, sc_in11, sm_mem 1648 (by decide +kernel), Or.inl rfl, sc_tyok11, sc_nm11, Or.inl rfl, Or.inr (Or.inr (Or.inr (Or.inl ⟨rfl, rfl⟩)))⟩), trivial⟩,
  List.forall_mem_cons.mpr ⟨fun pc i hi => by rw [sm_k11 hi]; exact ⟨trivial, sm_pk1 (⟨"TwoWayGrammarModel", sc_T11, 96, rfl, sm_mem 2037 (by decide +kernel), sm_mem 112 (by decide +kernel), Or.inl ⟨sm_mem 2035 (by decide +kernel), sm_mem 72 (by decide +kernel), by decide +kernel⟩⟩)⟩,
  fun _ h => absurd h List.not_mem_nil⟩⟩⟩⟩⟩⟩⟩⟩⟩⟩⟩⟩⟩⟩⟩⟩⟩⟩⟩⟩
def sp_27_8 : List ((Nat × Nat) × List Nat) := [((1, 487), [92, 0, 11]), ((1, 566), [85, 0, 11]), ((1, 16), [6, 0, 11]), ((1, 192), [91, 0, 11]), ((2, 586), [3, 0, 0, 11]), ((1, 586), [3, 0, 11]), ((2, 466), [76, 0, 0, 11]), ((2, 469), [81, 0, 0, 11]), ((2, 472), [64, 0, 0, 11]), ((2, 475), [80, 0, 0, 11]), ((2, 478), [79, 0, 0, 11]), ((2, 481), [78, 0, 0, 11]), ((2, 463), [77, 0, 0, 11]), ((2, 484), [82, 0, 0, 11]), ((2, 487), [92, 3, 0, 11]), ((11, 490), [0, 1, 11, 207]), ((7, 493), [0, 40000]), ((1, 463), [77, 0, 11]), ((1, 484), [82, 0, 11]), ((1, 180), [87, 0, 11])]
set_option maxRecDepth 20000 in
theorem sp_ok_27_8 {K : sm_H} (hK : sc_KOk K) (mn : String) : sm_poolOk sc_Ts sc_sx sc_zx sc_oc K sc_cl sc_Y "TwoWayGrammarModel" mn sp_27_8 :=
  List.forall_mem_cons.mpr ⟨fun pc i hi => by rw [sm_k1 hi]; exact ⟨sm_al1 (⟨"TwoWayGrammarModel", sc_T11, 96, "TwoWayGrammarModel", rfl, by decide, sc_in11, sm_mem 1647 (by decide +kernel), Or.inl rfl⟩), trivial⟩,
  List.forall_mem_cons.mpr ⟨fun pc i hi => by rw [sm_k1 hi]; exact ⟨sm_al1 (⟨"TwoWayGrammarModel", sc_T11, 96, "TwoWayGrammarModel", rfl, by decide, sc_in11, sm_mem 1640 (by decide +kernel), Or.inl rfl⟩), trivial⟩,
  List.forall_mem_cons.mpr ⟨fun pc i hi => by rw [sm_k1 hi]; exact ⟨sm_al1 (⟨"TwoWayGrammarModel", sc_T11, 96, "TwoWayGrammarModel", rfl, by decide, sc_in11, sm_mem 1561 (by decide +kernel), Or.inl rfl⟩), trivial⟩,
  List.forall_mem_cons.mpr ⟨fun pc i hi => by rw [sm_k1 hi]; exact ⟨sm_al1 (⟨"TwoWayGrammarModel", sc_T11, 96, "TwoWayGrammarModel", rfl, by decide, sc_in11, sm_mem 1646 (by decide +kernel), Or.inl rfl⟩), trivial⟩,
  List.forall_mem_cons.mpr ⟨fun pc i hi => by rw [sm_k2 hi]; exact ⟨sm_al1 (⟨"TwoWayGrammarModel", sc_T11, 96, "TwoWayGrammarModel", sc_ty11, rfl, by decide, sc_in11, sm_mem 1558 (by decide +kernel), Or.inl rfl, sc_tyok11, sc_nm11, Or.inl rfl, Or.inl ⟨rfl, rfl⟩⟩), trivial⟩,
  List.forall_mem_cons.mpr ⟨fun pc i hi => by rw [sm_k1 hi]; exact ⟨sm_al1 (⟨"TwoWayGrammarModel", sc_T11, 96, "TwoWayGrammarModel", rfl, by decide, sc_in11, sm_mem 1558 (by decide +kernel), Or.inl rfl⟩), trivial⟩,
  List.forall_mem_cons.mpr ⟨fun pc i hi => by rw [sm_k2 hi]; exact ⟨sm_al1 (⟨"TwoWayGrammarModel", sc_T11, 96, "TwoWayGrammarModel", sc_ty11, rfl, by decide, sc_in11, sm_mem 1631 (by decide +kernel), Or.inl rfl, sc_tyok11, sc_nm11, Or.inl rfl, Or.inl ⟨rfl, rfl⟩⟩), trivial⟩,
  List.forall_mem_cons.mpr ⟨fun pc i hi => by rw [sm_k2 hi]; exact ⟨sm_al1 (⟨"TwoWayGrammarModel", sc_T11, 96, "TwoWayGrammarModel", sc_ty11, rfl, by decide, sc_in11, sm_mem 1636 (by decide +kernel), Or.inl rfl, sc_tyok11, sc_nm11, Or.inl rfl, Or.inl ⟨rfl, rfl⟩⟩), trivial⟩,
  List.forall_mem_cons.mpr ⟨fun pc i hi => by rw [sm_k2 hi]; exact ⟨sm_al1 (⟨"TwoWayGrammarModel", sc_T11, 96, "TwoWayGrammarModel", sc_ty11, rfl, by decide, sc_in11, sm_mem 1619 (by decide +kernel), Or.inl rfl, sc_tyok11, sc_nm11, Or.inl rfl, Or.inl ⟨rfl, rfl⟩⟩), trivial⟩,
  List.forall_mem_cons.mpr ⟨fun pc i hi => by rw [sm_k2 hi]; exact ⟨sm_al1 (⟨"TwoWayGrammarModel", sc_T11, 96, "TwoWayGrammarModel", sc_ty11, rfl, by decide, sc_in11, sm_mem 1635 (by decide +kernel), Or.inl rfl, sc_tyok11, sc_nm11, Or.inl rfl, Or.inl ⟨rfl, rfl⟩⟩), trivial⟩,
  List.forall_mem_cons.mpr ⟨fun pc i hi => by rw [sm_k2 hi]; exact ⟨sm_al1 (⟨"TwoWayGrammarModel", sc_T11, 96, "TwoWayGrammarModel", sc_ty11, rfl, by decide, sc_in11, sm_mem 1634 (by decide +kernel), Or.inl rfl, sc_tyok11, sc_nm11, Or.inl rfl, Or.inl ⟨rfl, rfl⟩⟩), trivial⟩,
  List.forall_mem_cons.mpr ⟨fun pc i hi => by rw [sm_k2 hi]; exact ⟨sm_al1 (⟨"TwoWayGrammarModel", sc_T11, 96, "TwoWayGrammarModel", sc_ty11, rfl, by decide, sc_in11, sm_mem 1633 (by decide +kernel), Or.inl rfl, sc_tyok11, sc_nm11, Or.inl rfl, Or.inl ⟨rfl, rfl⟩⟩), trivial⟩,
  List.forall_mem_cons.mpr ⟨fun pc i hi => by rw [sm_k2 hi]; exact ⟨sm_al1 (⟨"TwoWayGrammarModel", sc_T11, 96, "TwoWayGrammarModel", sc_ty11, rfl, by decide, sc_in11, sm_mem 1632 (by decide +kernel), Or.inl rfl, sc_tyok11, sc_nm11, Or.inl rfl, Or.inl ⟨rfl, rfl⟩⟩), trivial⟩,
  List.forall_mem_cons.mpr ⟨fun pc i hi => by rw [sm_k2 hi]; exact ⟨sm_al1 (⟨"TwoWayGrammarModel", sc_T11, 96, "TwoWayGrammarModel", sc_ty11, rfl, by decide, sc_in11, sm_mem 1637 (by decide +kernel), Or.inl rfl, sc_tyok11, sc_nm11, Or.inl rfl, Or.inl ⟨rfl, rfl⟩⟩), trivial⟩,
  List.forall_mem_cons.mpr ⟨fun pc i hi => by rw [sm_k2 hi]; exact ⟨sm_al1 (⟨"TwoWayGrammarModel", sc_T11, 96, "TwoWayGrammarModel", sc_ty11, rfl, by decide, sc_in11, sm_mem 1647 (by decide +kernel), Or.inl rfl, sc_tyok11, sc_nm11, Or.inl rfl, Or.inr (Or.inr (Or.inr (Or.inl ⟨rfl, rfl⟩)))⟩), trivial⟩,
  List.forall_mem_cons.mpr ⟨fun pc i hi => by rw [sm_k11 hi]; exact ⟨trivial, sm_pk1 (⟨"TwoWayGrammarModel", sc_T11, 96, rfl, sm_mem 2041 (by decide +kernel), sm_mem 112 (by decide +kernel), Or.inl ⟨sm_mem 2039 (by decide +kernel), sm_mem 73 (by decide +kernel), by decide +kernel⟩⟩)⟩,
  List.forall_mem_cons.mpr ⟨fun pc i hi => by rw [sm_k7 hi]; exact ⟨sm_mem 2051 (by decide +kernel), trivial⟩,
  List.forall_mem_cons.mpr ⟨fun pc i hi => by rw [sm_k1 hi]; exact ⟨sm_al1 (⟨"TwoWayGrammarModel", sc_T11, 96, "TwoWayGrammarModel", rfl, by decide, sc_in11, sm_mem 1632 (by decide +kernel), Or.inl rfl⟩), trivial⟩,
  List.forall_mem_cons.mpr ⟨fun pc i hi => by rw [sm_k1 hi]; exact ⟨sm_al1 (⟨"TwoWayGrammarModel", sc_T11, 96, "TwoWayGrammarModel", rfl, by decide, sc_in11, sm_mem 1637 (by decide +kernel), Or.inl rfl⟩), trivial⟩,
  List.forall_mem_cons.mpr ⟨fun pc i hi => by rw [sm_k1 hi]; exact ⟨sm_al1 (⟨"TwoWayGrammarModel", sc_T11, 96, "TwoWayGrammarModel", rfl, by decide, sc_in11, sm_mem 1642 (by decide +kernel), Or.inl rfl⟩), trivial⟩,
  fun _ h => absurd h List.not_mem_nil⟩⟩⟩⟩⟩⟩⟩⟩⟩⟩⟩⟩⟩⟩⟩⟩⟩⟩⟩⟩
end
section
def sp_27_9 : List ((Nat × Nat) × List Nat) := [((1, 183), [88, 0, 11]), ((1, 177), [86, 0, 11]), ((11, 494), [0, 2, 11, 210]), ((11, 498), [0, 1, 11, 223]), ((1, 189), [90, 0, 11]), ((1, 481), [78, 0, 11]), ((1, 472), [64, 0, 11]), ((11, 501), [0, 0, 11, 226]), ((11, 504), [0, 2, 11, 227]), ((1, 478), [79, 0, 11]), ((1, 475), [80, 0, 11]), ((1, 466), [76, 0, 11]), ((1, 138), [60, 0, 11]), ((1, 469), [81, 0, 11]), ((1, 141), [61, 0, 11]), ((1, 514), [83, 0, 11]), ((2, 514), [83, 0, 0, 11]), ((11, 517), [0, 2, 11, 208]), ((11, 521), [0, 3, 11, 209]), ((1, 156), [69, 0, 11])]
set_option maxRecDepth 20000 in
theorem sp_ok_27_9 {K : sm_H} (hK : sc_KOk K) (mn : String) : sm_poolOk sc_Ts sc_sx sc_zx sc_oc K sc_cl sc_Y "TwoWayGrammarModel" mn sp_27_9 :=
  List.forall_mem_cons.mpr ⟨fun pc i hi => by rw [sm_k1 hi]; exact ⟨sm_al1 (⟨"TwoWayGrammarModel", sc_T11, 96, "TwoWayGrammarModel", rfl, by decide, sc_in11, sm_mem 1643 (by decide +kernel), Or.inl rfl⟩), trivial⟩,
  List.forall_mem_cons.mpr ⟨fun pc i hi => by rw [sm_k1 hi]; exact ⟨sm_al1 (⟨"TwoWayGrammarModel", sc_T11, 96, "TwoWayGrammarModel", rfl, by decide, sc_in11, sm_mem 1641 (by decide +kernel), Or.inl rfl⟩), trivial⟩,
  List.forall_mem_cons.mpr ⟨fun pc i hi => by rw [sm_k11 hi]; exact ⟨trivial, sm_pk1 (⟨"TwoWayGrammarModel", sc_T11, 96, rfl, sm_mem 2054 (by decide +kernel), sm_mem 112 (by decide +kernel), Or.inl ⟨sm_mem 2052 (by decide +kernel), sm_mem 76 (by decide +kernel), by decide +kernel⟩⟩)⟩,
  List.forall_mem_cons.mpr ⟨fun pc i hi => by rw [sm_k11 hi]; exact ⟨trivial, sm_pk1 (⟨"TwoWayGrammarModel", sc_T11, 96, rfl, sm_mem 2110 (by decide +kernel), sm_mem 112 (by decide +kernel), Or.inl ⟨sm_mem 2108 (by decide +kernel), sm_mem 88 (by decide +kernel), by decide +kernel⟩⟩)⟩,
  List.forall_mem_cons.mpr ⟨fun pc i hi => by rw [sm_k1 hi]; exact ⟨sm_al1 (⟨"TwoWayGrammarModel", sc_T11, 96, "TwoWayGrammarModel", rfl, by decide, sc_in11, sm_mem 1645 (by decide +kernel), Or.inl rfl⟩), trivial⟩,
  List.forall_mem_cons.mpr ⟨fun pc i hi => by rw [sm_k1 hi]; exact ⟨sm_al1 (⟨"TwoWayGrammarModel", sc_T11, 96, "TwoWayGrammarModel", rfl, by decide, sc_in11, sm_mem 1633 (by decide +kernel), Or.inl rfl⟩), trivial⟩,
  List.forall_mem_cons.mpr ⟨fun pc i hi => by rw [sm_k1 hi]; exact ⟨sm_al1 (⟨"TwoWayGrammarModel", sc_T11, 96, "TwoWayGrammarModel", rfl, by decide, sc_in11, sm_mem 1619 (by decide +kernel), Or.inl rfl⟩), trivial⟩,
  List.forall_mem_cons.mpr ⟨fun pc i hi => by rw [sm_k11 hi]; exact ⟨trivial, sm_pk1 (⟨"TwoWayGrammarModel", sc_T11, 96, rfl, sm_mem 2122 (by decide +kernel), sm_mem 112 (by decide +kernel), Or.inl ⟨sm_mem 2120 (by decide +kernel), sm_mem 91 (by decide +kernel), by decide +kernel⟩⟩)⟩,
  List.forall_mem_cons.mpr ⟨fun pc i hi => by rw [sm_k11 hi]; exact ⟨trivial, sm_pk1 (⟨"TwoWayGrammarModel", sc_T11, 96, rfl, sm_mem 2126 (by decide +kernel), sm_mem 112 (by decide +kernel), Or.inl ⟨sm_mem 2124 (by decide +kernel), sm_mem 92 (by decide +kernel), by decide +kernel⟩⟩)⟩,
  List.forall_mem_cons.mpr ⟨fun pc i hi => by rw [sm_k1 hi]; exact ⟨sm_al1 (⟨"TwoWayGrammarModel", sc_T11, 96, "TwoWayGrammarModel", rfl, by decide, sc_in11, sm_mem 1634 (by decide +kernel), Or.inl rfl⟩), trivial⟩,
  List.forall_mem_cons.mpr ⟨fun pc i hi => by rw [sm_k1 hi]; exact ⟨sm_al1 (⟨"TwoWayGrammarModel", sc_T11, 96, "TwoWayGrammarModel", rfl, by decide, sc_in11, sm_mem 1635 (by decide +kernel), Or.inl rfl⟩), trivial⟩,
  List.forall_mem_cons.mpr ⟨fun pc i hi => by rw [sm_k1 hi]; exact ⟨sm_al1 (⟨"TwoWayGrammarModel", sc_T11, 96, "TwoWayGrammarModel", rfl, by decide, sc_in11, sm_mem 1631 (by decide +kernel), Or.inl rfl⟩), trivial⟩,
  List.forall_mem_cons.mpr ⟨fun pc i hi => by rw [sm_k1 hi]; exact ⟨sm_al1 (⟨"TwoWayGrammarModel", sc_T11, 96, "TwoWayGrammarModel", rfl, by decide, sc_in11, sm_mem 1615 (by decide +kernel), Or.inl rfl⟩), trivial⟩,
  List.forall_mem_cons.mpr ⟨fun pc i hi => by rw [sm_k1 hi]; exact ⟨sm_al1 (⟨"TwoWayGrammarModel", sc_T11, 96, "TwoWayGrammarModel", rfl, by decide, sc_in11, sm_mem 1636 (by decide +kernel), Or.inl rfl⟩), trivial⟩,
  List.forall_mem_cons.mpr ⟨fun pc i hi => by rw [sm_k1 hi]; exact ⟨sm_al1 (⟨"TwoWayGrammarModel", sc_T11, 96, "TwoWayGrammarModel", rfl, by decide, sc_in11, sm_mem 1616 (by decide +kernel), Or.inl rfl⟩), trivial⟩,
  List.forall_mem_cons.mpr ⟨fun pc i hi => by rw [sm_k1 hi]; exact ⟨sm_al1 (⟨"TwoWayGrammarModel", sc_T11, 96, "TwoWayGrammarModel", rfl, by decide, sc_in11, sm_mem 1638 (by decide +kernel), Or.inl rfl⟩), trivial⟩,
  List.forall_mem_cons.mpr ⟨fun pc i hi => by rw [sm_k2 hi]; exact ⟨sm_al1 (⟨"TwoWayGrammarModel", sc_T11, 96, "TwoWayGrammarModel", sc_ty11, rfl, by decide, sc_in11, sm_mem 1638 (by decide +kernel), Or.inl rfl, sc_tyok11, sc_nm11, Or.inl rfl, Or.inl ⟨rfl, rfl⟩⟩), trivial⟩,
  List.forall_mem_cons.mpr ⟨fun pc i hi => by rw [sm_k11 hi]; exact ⟨trivial, sm_pk1 (⟨"TwoWayGrammarModel", sc_T11, 96, rfl, sm_mem 2045 (by decide +kernel), sm_mem 112 (by decide +kernel), Or.inl ⟨sm_mem 2043 (by decide +kernel), sm_mem 74 (by decide +kernel), by decide +kernel⟩⟩)⟩,
  List.forall_mem_cons.mpr ⟨fun pc i hi => by rw [sm_k11 hi]; exact ⟨trivial, sm_pk1 (⟨"TwoWayGrammarModel", sc_T11, 96, rfl, sm_mem 2049 (by decide +kernel), sm_mem 112 (by decide +kernel), Or.inl ⟨sm_mem 2047 (by decide +kernel), sm_mem 75 (by decide +kernel), by decide +kernel⟩⟩)⟩,
  List.forall_mem_cons.mpr ⟨fun pc i hi => by rw [sm_k1 hi]; exact ⟨sm_al1 (⟨"TwoWayGrammarModel", sc_T11, 96, "TwoWayGrammarModel", rfl, by decide, sc_in11, sm_mem 1624 (by decide +kernel), Or.inl rfl⟩), trivial⟩,
  fun _ h => absurd h List.not_mem_nil⟩⟩⟩⟩⟩⟩⟩⟩⟩⟩⟩⟩⟩⟩⟩⟩⟩⟩⟩⟩
def sp_27_10 : List ((Nat × Nat) × List Nat) := [((1, 171), [74, 0, 11]), ((1, 159), [70, 0, 11]), ((1, 162), [71, 0, 11]), ((1, 186), [89, 0, 11]), ((11, 531), [0, 1, 11, 211]), ((1, 168), [73, 0, 11]), ((11, 534), [0, 1, 11, 212]), ((11, 538), [0, 1, 11, 213]), ((1, 507), [95, 0, 11]), ((8, 510), [6364136223846793005]), ((8, 512), [1442695040888963407]), ((2, 507), [95, 1, 0, 11]), ((11, 541), [0, 1, 11, 214]), ((11, 544), [0, 1, 11, 215]), ((11, 547), [0, 1, 11, 217]), ((11, 550), [0, 1, 11, 222]), ((1, 144), [62, 0, 11]), ((8, 553), [10000]), ((11, 457), [0, 1, 11, 216]), ((8, 555), [26])]
set_option maxRecDepth 20000 in
theorem sp_ok_27_10 {K : sm_H} (hK : sc_KOk K) (mn : String) : sm_poolOk sc_Ts sc_sx sc_zx sc_oc K sc_cl sc_Y "TwoWayGrammarModel" mn sp_27_10 :=
  List.forall_mem_cons.mpr ⟨fun pc i hi => by rw [sm_k1 hi]; exact ⟨sm_al1 (⟨"TwoWayGrammarModel", sc_T11, 96, "TwoWayGrammarModel", rfl, by decide, sc_in11, sm_mem 1629 (by decide +kernel), Or.inl rfl⟩), trivial⟩,
  List.forall_mem_cons.mpr ⟨fun pc i hi => by rw [sm_k1 hi]; exact ⟨sm_al1 (⟨"TwoWayGrammarModel", sc_T11, 96, "TwoWayGrammarModel", rfl, by decide, sc_in11, sm_mem 1625 (by decide +kernel), Or.inl rfl⟩), trivial⟩,
  List.forall_mem_cons.mpr ⟨fun pc i hi => by rw [sm_k1 hi]; exact ⟨sm_al1 (⟨"TwoWayGrammarModel", sc_T11, 96, "TwoWayGrammarModel", rfl, by decide, sc_in11, sm_mem 1626 (by decide +kernel), Or.inl rfl⟩), trivial⟩,
  List.forall_mem_cons.mpr ⟨fun pc i hi => by rw [sm_k1 hi]; exact ⟨sm_al1 (⟨"TwoWayGrammarModel", sc_T11, 96, "TwoWayGrammarModel", rfl, by decide, sc_in11, sm_mem 1644 (by decide +kernel), Or.inl rfl⟩), trivial⟩,
  List.forall_mem_cons.mpr ⟨fun pc i hi => by rw [sm_k11 hi]; exact ⟨trivial, sm_pk1 (⟨"TwoWayGrammarModel", sc_T11, 96, rfl, sm_mem 2058 (by decide +kernel), sm_mem 112 (by decide +kernel), Or.inl ⟨sm_mem 2056 (by decide +kernel), sm_mem 77 (by decide +kernel), by decide +kernel⟩⟩)⟩,
  List.forall_mem_cons.mpr ⟨fun pc i hi => by rw [sm_k1 hi]; exact ⟨sm_al1 (⟨"TwoWayGrammarModel", sc_T11, 96, "TwoWayGrammarModel", rfl, by decide, sc_in11, sm_mem 1628 (by decide +kernel), Or.inl rfl⟩), trivial⟩,
  List.forall_mem_cons.mpr ⟨fun pc i hi => by rw [sm_k11 hi]; exact ⟨trivial, sm_pk1 (⟨"TwoWayGrammarModel", sc_T11, 96, rfl, sm_mem 2064 (by decide +kernel), sm_mem 112 (by decide +kernel), Or.inl ⟨sm_mem 2062 (by decide +kernel), sm_mem 78 (by decide +kernel), by decide +kernel⟩⟩)⟩,
  List.forall_mem_cons.mpr ⟨fun pc i hi => by rw [sm_k11 hi]; exact ⟨trivial, sm_pk1 (⟨"TwoWayGrammarModel", sc_T11, 96, rfl, sm_mem 2068 (by decide +kernel), sm_mem 112 (by decide +kernel), Or.inl ⟨sm_mem 2066 (by decide +kernel), sm_mem 79 (by decide +kernel), by decide +kernel⟩⟩)⟩,
  List.forall_mem_cons.mpr ⟨fun pc i hi => by rw [sm_k1 hi]; exact ⟨sm_al1 (⟨"TwoWayGrammarModel", sc_T11, 96, "TwoWayGrammarModel", rfl, by decide, sc_in11, sm_mem 1650 (by decide +kernel), Or.inl rfl⟩), trivial⟩,
  List.forall_mem_cons.mpr ⟨fun pc i hi => by rw [sm_k8 hi]; exact ⟨sm_mem 2060 (by decide +kernel), trivial⟩,
  List.forall_mem_cons.mpr ⟨fun pc i hi => by rw [sm_k8 hi]; exact ⟨sm_mem 2061 (by decide +kernel), trivial⟩,
  List.forall_mem_cons.mpr ⟨fun pc i hi => by rw [sm_k2 hi]; exact ⟨sm_al1 (⟨"TwoWayGrammarModel", sc_T11, 96, "TwoWayGrammarModel", sc_ty11, rfl, by decide, sc_in11, sm_mem 1650 (by decide +kernel), Or.inl rfl, sc_tyok11, sc_nm11, Or.inl rfl, Or.inr (Or.inl ⟨rfl, rfl⟩)⟩), trivial⟩,
  List.forall_mem_cons.mpr ⟨fun pc i hi => by rw [sm_k11 hi]; exact ⟨trivial, sm_pk1 (⟨"TwoWayGrammarModel", sc_T11, 96, rfl, sm_mem 2072 (by decide +kernel), sm_mem 112 (by decide +kernel), Or.inl ⟨sm_mem 2070 (by decide +kernel), sm_mem 80 (by decide +kernel), by decide +kernel⟩⟩)⟩,
  List.forall_mem_cons.mpr ⟨fun pc i hi => by rw [sm_k11 hi]; exact ⟨trivial, sm_pk1 (⟨"TwoWayGrammarModel", sc_T11, 96, rfl, sm_mem 2077 (by decide +kernel), sm_mem 112 (by decide +kernel), Or.inl ⟨sm_mem 2075 (by decide +kernel), sm_mem 81 (by decide +kernel), by decide +kernel⟩⟩)⟩,
  List.forall_mem_cons.mpr ⟨fun pc i hi => by rw [sm_k11 hi]; exact ⟨trivial, sm_pk1 (⟨"TwoWayGrammarModel", sc_T11, 96, rfl, sm_mem 2086 (by decide +kernel), sm_mem 112 (by decide +kernel), Or.inl ⟨sm_mem 2084 (by decide +kernel), sm_mem 83 (by decide +kernel), by decide +kernel⟩⟩)⟩,
  List.forall_mem_cons.mpr ⟨fun pc i hi => by rw [sm_k11 hi]; exact ⟨trivial, sm_pk1 (⟨"TwoWayGrammarModel", sc_T11, 96, rfl, sm_mem 2106 (by decide +kernel), sm_mem 112 (by decide +kernel), Or.inl ⟨sm_mem 2104 (by decide +kernel), sm_mem 87 (by decide +kernel), by decide +kernel⟩⟩)⟩,
  List.forall_mem_cons.mpr ⟨fun pc i hi => by rw [sm_k1 hi]; exact ⟨sm_al1 (⟨"TwoWayGrammarModel", sc_T11, 96, "TwoWayGrammarModel", rfl, by decide, sc_in11, sm_mem 1617 (by decide +kernel), Or.inl rfl⟩), trivial⟩,
  List.forall_mem_cons.mpr ⟨fun pc i hi => by rw [sm_k8 hi]; exact ⟨sm_mem 2074 (by decide +kernel), trivial⟩,
  List.forall_mem_cons.mpr ⟨fun pc i hi => by rw [sm_k11 hi]; exact ⟨trivial, sm_pk1 (⟨"TwoWayGrammarModel", sc_T11, 96, rfl, sm_mem 2081 (by decide +kernel), sm_mem 112 (by decide +kernel), Or.inl ⟨sm_mem 2079 (by decide +kernel), sm_mem 82 (by decide +kernel), by decide +kernel⟩⟩)⟩,
  List.forall_mem_cons.mpr ⟨fun pc i hi => by rw [sm_k8 hi]; exact ⟨sm_mem 2083 (by decide +kernel), trivial⟩,
  fun _ h => absurd h List.not_mem_nil⟩⟩⟩⟩⟩⟩⟩⟩⟩⟩⟩⟩⟩⟩⟩⟩⟩⟩⟩⟩
def sp_27_11 : List ((Nat × Nat) × List Nat) := [((11, 580), [0, 1, 11, 218]), ((11, 577), [0, 1, 11, 219]), ((11, 569), [0, 1, 11, 220]), ((8, 575), [31]), ((1, 560), [94, 0, 11]), ((1, 563), [84, 0, 11]), ((1, 557), [93, 0, 11]), ((9, 572), [0, 221, 1]), ((11, 525), [0, 1, 11, 224]), ((11, 528), [0, 1, 11, 225]), ((11, 589), [0, 0, 11, 229]), ((11, 592), [0, 0, 11, 231]), ((2, 450), [59, 0, 0, 11]), ((1, 450), [59, 0, 11]), ((8, 453), [10]), ((8, 455), [48]), ((11, 460), [0, 1, 11, 230]), ((1, 147), [66, 0, 11]), ((1, 150), [67, 0, 11]), ((1, 153), [68, 0, 11])]
set_option maxRecDepth 20000 in
theorem sp_ok_27_11 {K : sm_H} (hK : sc_KOk K) (mn : String) : sm_poolOk sc_Ts sc_sx sc_zx sc_oc K sc_cl sc_Y "TwoWayGrammarModel" mn sp_27_11 :=
  List.forall_mem_cons.mpr ⟨fun pc i hi => by rw [sm_k11 hi]; exact ⟨trivial, sm_pk1 (⟨"TwoWayGrammarModel", sc_T11, 96, rfl, sm_mem 2090 (by decide +kernel), sm_mem 112 (by decide +kernel), Or.inl ⟨sm_mem 2088 (by decide +kernel), sm_mem 84 (by decide +kernel), by decide +kernel⟩⟩)⟩,
  List.forall_mem_cons.mpr ⟨fun pc i hi => by rw [sm_k11 hi]; exact ⟨trivial, sm_pk1 (⟨"TwoWayGrammarModel", sc_T11, 96, rfl, sm_mem 2095 (by decide +kernel), sm_mem 112 (by decide +kernel), Or.inl ⟨sm_mem 2093 (by decide +kernel), sm_mem 85 (by decide +kernel), by decide +kernel⟩⟩)⟩,
  List.forall_mem_cons.mpr ⟨fun pc i hi => by rw [sm_k11 hi]; exact ⟨trivial, sm_pk1 (⟨"TwoWayGrammarModel", sc_T11, 96, rfl, sm_mem 2099 (by decide +kernel), sm_mem 112 (by decide +kernel), Or.inl ⟨sm_mem 2097 (by decide +kernel), sm_mem 86 (by decide +kernel), by decide +kernel⟩⟩)⟩,
  List.forall_mem_cons.mpr ⟨fun pc i hi => by rw [sm_k8 hi]; exact ⟨sm_mem 2092 (by decide +kernel), trivial⟩,
  List.forall_mem_cons.mpr ⟨fun pc i hi => by rw [sm_k1 hi]; exact ⟨sm_al1 (⟨"TwoWayGrammarModel", sc_T11, 96, "TwoWayGrammarModel", rfl, by decide, sc_in11, sm_mem 1649 (by decide +kernel), Or.inl rfl⟩), trivial⟩,
  List.forall_mem_cons.mpr ⟨fun pc i hi => by rw [sm_k1 hi]; exact ⟨sm_al1 (⟨"TwoWayGrammarModel", sc_T11, 96, "TwoWayGrammarModel", rfl, by decide, sc_in11, sm_mem 1639 (by decide +kernel), Or.inl rfl⟩), trivial⟩,
  List.forall_mem_cons.mpr ⟨fun pc i hi => by rw [sm_k1 hi]; exact ⟨sm_al1 (⟨"TwoWayGrammarModel", sc_T11, 96, "TwoWayGrammarModel", rfl, by decide, sc_in11, sm_mem 1648 (by decide +kernel), Or.inl rfl⟩), trivial⟩,
  List.forall_mem_cons.mpr ⟨fun pc i hi => by rw [sm_k9 hi]; exact ⟨trivial, ⟨sm_mem 2102 (by decide +kernel), sm_mem 112 (by decide +kernel), by decide +kernel, Or.inl (sm_mem 2101 (by decide +kernel))⟩⟩,
  List.forall_mem_cons.mpr ⟨fun pc i hi => by rw [sm_k11 hi]; exact ⟨trivial, sm_pk1 (⟨"TwoWayGrammarModel", sc_T11, 96, rfl, sm_mem 2114 (by decide +kernel), sm_mem 112 (by decide +kernel), Or.inl ⟨sm_mem 2112 (by decide +kernel), sm_mem 89 (by decide +kernel), by decide +kernel⟩⟩)⟩,
  List.forall_mem_cons.mpr ⟨fun pc i hi => by rw [sm_k11 hi]; exact ⟨trivial, sm_pk1 (⟨"TwoWayGrammarModel", sc_T11, 96, rfl, sm_mem 2118 (by decide +kernel), sm_mem 112 (by decide +kernel), Or.inl ⟨sm_mem 2116 (by decide +kernel), sm_mem 90 (by decide +kernel), by decide +kernel⟩⟩)⟩,
  List.forall_mem_cons.mpr ⟨fun pc i hi => by rw [sm_k11 hi]; exact ⟨trivial, sm_pk1 (⟨"TwoWayGrammarModel", sc_T11, 96, rfl, sm_mem 2134 (by decide +kernel), sm_mem 112 (by decide +kernel), Or.inl ⟨sm_mem 2132 (by decide +kernel), sm_mem 93 (by decide +kernel), by decide +kernel⟩⟩)⟩,
  List.forall_mem_cons.mpr ⟨fun pc i hi => by rw [sm_k11 hi]; exact ⟨trivial, sm_pk1 (⟨"TwoWayGrammarModel", sc_T11, 96, rfl, sm_mem 2144 (by decide +kernel), sm_mem 112 (by decide +kernel), Or.inl ⟨sm_mem 2142 (by decide +kernel), sm_mem 95 (by decide +kernel), by decide +kernel⟩⟩)⟩,
  List.forall_mem_cons.mpr ⟨fun pc i hi => by rw [sm_k2 hi]; exact ⟨sm_al1 (⟨"TwoWayGrammarModel", sc_T11, 96, "TwoWayGrammarModel", sc_ty11, rfl, by decide, sc_in11, sm_mem 1614 (by decide +kernel), Or.inl rfl, sc_tyok11, sc_nm11, Or.inl rfl, Or.inl ⟨rfl, rfl⟩⟩), trivial⟩,
  List.forall_mem_cons.mpr ⟨fun pc i hi => by rw [sm_k1 hi]; exact ⟨sm_al1 (⟨"TwoWayGrammarModel", sc_T11, 96, "TwoWayGrammarModel", rfl, by decide, sc_in11, sm_mem 1614 (by decide +kernel), Or.inl rfl⟩), trivial⟩,
  List.forall_mem_cons.mpr ⟨fun pc i hi => by rw [sm_k8 hi]; exact ⟨sm_mem 2136 (by decide +kernel), trivial⟩,
  List.forall_mem_cons.mpr ⟨fun pc i hi => by rw [sm_k8 hi]; exact ⟨sm_mem 2137 (by decide +kernel), trivial⟩,
  List.forall_mem_cons.mpr ⟨fun pc i hi => by rw [sm_k11 hi]; exact ⟨trivial, sm_pk1 (⟨"TwoWayGrammarModel", sc_T11, 96, rfl, sm_mem 2140 (by decide +kernel), sm_mem 112 (by decide +kernel), Or.inl ⟨sm_mem 2138 (by decide +kernel), sm_mem 94 (by decide +kernel), by decide +kernel⟩⟩)⟩,
  List.forall_mem_cons.mpr ⟨fun pc i hi => by rw [sm_k1 hi]; exact ⟨sm_al1 (⟨"TwoWayGrammarModel", sc_T11, 96, "TwoWayGrammarModel", rfl, by decide, sc_in11, sm_mem 1621 (by decide +kernel), Or.inl rfl⟩), trivial⟩,
  List.forall_mem_cons.mpr ⟨fun pc i hi => by rw [sm_k1 hi]; exact ⟨sm_al1 (⟨"TwoWayGrammarModel", sc_T11, 96, "TwoWayGrammarModel", rfl, by decide, sc_in11, sm_mem 1622 (by decide +kernel), Or.inl rfl⟩), trivial⟩,
  List.forall_mem_cons.mpr ⟨fun pc i hi => by rw [sm_k1 hi]; exact ⟨sm_al1 (⟨"TwoWayGrammarModel", sc_T11, 96, "TwoWayGrammarModel", rfl, by decide, sc_in11, sm_mem 1623 (by decide +kernel), Or.inl rfl⟩), trivial⟩,
  fun _ h => absurd h List.not_mem_nil⟩⟩⟩⟩⟩⟩⟩⟩⟩⟩⟩⟩⟩⟩⟩⟩⟩⟩⟩⟩
def sp_27_12 : List ((Nat × Nat) × List Nat) := [((11, 595), [0, 1, 11, 234]), ((8, 598), [9999]), ((11, 600), [0, 1, 11, 236]), ((8, 603), [1073741824]), ((1, 165), [72, 0, 11]), ((1, 174), [75, 0, 11]), ((1, 438), [65, 0, 11])]
set_option maxRecDepth 20000 in
theorem sp_ok_27_12 {K : sm_H} (hK : sc_KOk K) (mn : String) : sm_poolOk sc_Ts sc_sx sc_zx sc_oc K sc_cl sc_Y "TwoWayGrammarModel" mn sp_27_12 :=
  List.forall_mem_cons.mpr ⟨fun pc i hi => by rw [sm_k11 hi]; exact ⟨trivial, sm_pk1 (⟨"TwoWayGrammarModel", sc_T11, 96, rfl, sm_mem 2156 (by decide +kernel), sm_mem 112 (by decide +kernel), Or.inl ⟨sm_mem 2154 (by decide +kernel), sm_mem 96 (by decide +kernel), by decide +kernel⟩⟩)⟩,
  List.forall_mem_cons.mpr ⟨fun pc i hi => by rw [sm_k8 hi]; exact ⟨sm_mem 2162 (by decide +kernel), trivial⟩,
  List.forall_mem_cons.mpr ⟨fun pc i hi => by rw [sm_k11 hi]; exact ⟨trivial, sm_pk1 (⟨"TwoWayGrammarModel", sc_T11, 96, rfl, sm_mem 2165 (by decide +kernel), sm_mem 112 (by decide +kernel), Or.inl ⟨sm_mem 2163 (by decide +kernel), sm_mem 97 (by decide +kernel), by decide +kernel⟩⟩)⟩,
  List.forall_mem_cons.mpr ⟨fun pc i hi => by rw [sm_k8 hi]; exact ⟨sm_mem 2167 (by decide +kernel), trivial⟩,
  List.forall_mem_cons.mpr ⟨fun pc i hi => by rw [sm_k1 hi]; exact ⟨sm_al1 (⟨"TwoWayGrammarModel", sc_T11, 96, "TwoWayGrammarModel", rfl, by decide, sc_in11, sm_mem 1627 (by decide +kernel), Or.inl rfl⟩), trivial⟩,
  List.forall_mem_cons.mpr ⟨fun pc i hi => by rw [sm_k1 hi]; exact ⟨sm_al1 (⟨"TwoWayGrammarModel", sc_T11, 96, "TwoWayGrammarModel", rfl, by decide, sc_in11, sm_mem 1630 (by decide +kernel), Or.inl rfl⟩), trivial⟩,
  List.forall_mem_cons.mpr ⟨fun pc i hi => by rw [sm_k1 hi]; exact ⟨sm_al1 (⟨"TwoWayGrammarModel", sc_T11, 96, "TwoWayGrammarModel", rfl, by decide, sc_in11, sm_mem 1620 (by decide +kernel), Or.inl rfl⟩), trivial⟩,
  fun _ h => absurd h List.not_mem_nil⟩⟩⟩⟩⟩⟩⟩
def sp_27 : List ((Nat × Nat) × List Nat) := sp_27_0 ++ sp_27_1 ++ sp_27_2 ++ sp_27_3 ++ sp_27_4 ++ sp_27_5 ++ sp_27_6 ++ sp_27_7 ++ sp_27_8 ++ sp_27_9 ++ sp_27_10 ++ sp_27_11 ++ sp_27_12
theorem sp_ok_27 {K : sm_H} (hK : sc_KOk K) (mn : String) : sm_poolOk sc_Ts sc_sx sc_zx sc_oc K sc_cl sc_Y "TwoWayGrammarModel" mn sp_27 := by
  intro e he
  simp only [sp_27, List.mem_append] at he
  rcases he with he | he
  rotate_left
  · exact sp_ok_27_12 hK mn e he
  rcases he with he | he
  rotate_left
  · exact sp_ok_27_11 hK mn e he
  rcases he with he | he
  rotate_left
  · exact sp_ok_27_10 hK mn e he
  rcases he with he | he
  rotate_left
  · exact sp_ok_27_9 hK mn e he
  rcases he with he | he
  rotate_left
  · exact sp_ok_27_8 hK mn e he
  rcases he with he | he
  rotate_left
  · exact sp_ok_27_7 hK mn e he
  rcases he with he | he
  rotate_left
  · exact sp_ok_27_6 hK mn e he
  rcases he with he | he
  rotate_left
  · exact sp_ok_27_5 hK mn e he
  rcases he with he | he
  rotate_left
  · exact sp_ok_27_4 hK mn e he
  rcases he with he | he
  rotate_left
  · exact sp_ok_27_3 hK mn e he
  rcases he with he | he
  rotate_left
  · exact sp_ok_27_2 hK mn e he
  rcases he with he | he
  rotate_left
  · exact sp_ok_27_1 hK mn e he
  exact sp_ok_27_0 hK mn e he
end
section
set_option maxRecDepth 20000 in
theorem sk_0 {K : sm_H} (hK : sc_KOk K) : sm_okM sc_Ts sc_sx sc_zx sc_oc K sc_cl sc_Y 0 (1, 0, sb_0) :=
  sm_okM_of (pool := sp_0) (⟨"TwoWayGrammar", "<init>", "()V"⟩, prog_1_method_1_code, none) (by rfl) (sm_mem 131 (by decide +kernel)) (by decide +kernel) ⟨by decide, by decide⟩ (by decide) (Or.inl ⟨rfl, rfl⟩) (by decide +kernel) (sp_ok_0 hK)
set_option maxRecDepth 20000 in
theorem sk_1 {K : sm_H} (hK : sc_KOk K) : sm_okM sc_Ts sc_sx sc_zx sc_oc K sc_cl sc_Y 1 (2, 0, sb_1) :=
  sm_okM_of (pool := sp_1) (⟨"TwoWayGrammar$Text", "<init>", "(I)V"⟩, prog_9_method_1_code, none) (by rfl) (sm_mem 139 (by decide +kernel)) (by decide +kernel) ⟨by decide, by decide⟩ (by decide) (Or.inl ⟨rfl, rfl⟩) (by decide +kernel) (sp_ok_1 hK)
set_option maxRecDepth 20000 in
theorem sk_2 {K : sm_H} (hK : sc_KOk K) : sm_okM sc_Ts sc_sx sc_zx sc_oc K sc_cl sc_Y 2 (1, 0, sb_2) :=
  sm_okM_of (pool := sp_2) (⟨"TwoWayGrammar$Grammar", "<init>", "()V"⟩, prog_3_method_1_code, none) (by rfl) (sm_mem 156 (by decide +kernel)) (by decide +kernel) ⟨by decide, by decide⟩ (by decide) (Or.inl ⟨rfl, rfl⟩) (by decide +kernel) (sp_ok_2 hK)
set_option maxRecDepth 20000 in
theorem sk_3 {K : sm_H} (hK : sc_KOk K) : sm_okM sc_Ts sc_sx sc_zx sc_oc K sc_cl sc_Y 3 (2, 0, sb_3) :=
  sm_okM_of (pool := sp_3) (⟨"TwoWayGrammar$Tokens", "<init>", "(LTwoWayGrammar$Text;)V"⟩, prog_10_method_1_code, none) (by rfl) (sm_mem 273 (by decide +kernel)) (by decide +kernel) ⟨by decide, by decide⟩ (by decide) (Or.inl ⟨rfl, rfl⟩) (by decide +kernel) (sp_ok_3 hK)
set_option maxRecDepth 20000 in
theorem sk_4 {K : sm_H} (hK : sc_KOk K) : sm_okM sc_Ts sc_sx sc_zx sc_oc K sc_cl sc_Y 4 (3, 0, sb_4) :=
  sm_okM_of (pool := sp_4) (⟨"TwoWayGrammar$Reader", "<init>", "(LTwoWayGrammar$Tokens;LTwoWayGrammar$Grammar;)V"⟩, prog_7_method_1_code, none) (by rfl) (sm_mem 296 (by decide +kernel)) (by decide +kernel) ⟨by decide, by decide⟩ (by decide) (Or.inl ⟨rfl, rfl⟩) (by decide +kernel) (sp_ok_4 hK)
set_option maxRecDepth 20000 in
theorem sk_5 {K : sm_H} (hK : sc_KOk K) : sm_okM sc_Ts sc_sx sc_zx sc_oc K sc_cl sc_Y 5 (2, 0, sb_5) :=
  sm_okM_of (pool := sp_5) (⟨"TwoWayGrammar$Sets", "<init>", "(LTwoWayGrammar$Grammar;)V"⟩, prog_8_method_1_code, none) (by rfl) (sm_mem 315 (by decide +kernel)) (by decide +kernel) ⟨by decide, by decide⟩ (by decide) (Or.inl ⟨rfl, rfl⟩) (by decide +kernel) (sp_ok_5 hK)
set_option maxRecDepth 20000 in
theorem sk_6 {K : sm_H} (hK : sc_KOk K) : sm_okM sc_Ts sc_sx sc_zx sc_oc K sc_cl sc_Y 6 (3, 0, sb_6) :=
  sm_okM_of (pool := sp_6) (⟨"TwoWayGrammar$Checks", "<init>", "(LTwoWayGrammar$Grammar;LTwoWayGrammar$Sets;)V"⟩, prog_2_method_1_code, none) (by rfl) (sm_mem 383 (by decide +kernel)) (by decide +kernel) ⟨by decide, by decide⟩ (by decide) (Or.inl ⟨rfl, rfl⟩) (by decide +kernel) (sp_ok_6 hK)
set_option maxRecDepth 20000 in
theorem sk_7 {K : sm_H} (hK : sc_KOk K) : sm_okM sc_Ts sc_sx sc_zx sc_oc K sc_cl sc_Y 7 (1, 0, sb_7) :=
  sm_okM_of (pool := sp_7) (⟨"TwoWayGrammar$Tree", "<init>", "()V"⟩, prog_11_method_1_code, none) (by rfl) (sm_mem 399 (by decide +kernel)) (by decide +kernel) ⟨by decide, by decide⟩ (by decide) (Or.inl ⟨rfl, rfl⟩) (by decide +kernel) (sp_ok_7 hK)
set_option maxRecDepth 20000 in
theorem sk_8 {K : sm_H} (hK : sc_KOk K) : sm_okM sc_Ts sc_sx sc_zx sc_oc K sc_cl sc_Y 8 (5, 0, sb_8) :=
  sm_okM_of (pool := sp_8) (⟨"TwoWayGrammar$Parsing", "<init>", "(LTwoWayGrammar$Grammar;LTwoWayGrammar$Sets;LTwoWayGrammar$Tree;LTwoWayGrammar$Text;)V"⟩, prog_5_method_1_code, none) (by rfl) (sm_mem 426 (by decide +kernel)) (by decide +kernel) ⟨by decide, by decide⟩ (by decide) (Or.inl ⟨rfl, rfl⟩) (by decide +kernel) (sp_ok_8 hK)
set_option maxRecDepth 20000 in
theorem sk_9 {K : sm_H} (hK : sc_KOk K) : sm_okM sc_Ts sc_sx sc_zx sc_oc K sc_cl sc_Y 9 (4, 0, sb_9) :=
  sm_okM_of (pool := sp_9) (⟨"TwoWayGrammar$Walk", "<init>", "(LTwoWayGrammar$Grammar;LTwoWayGrammar$Sets;LTwoWayGrammar$Tree;)V"⟩, prog_12_method_1_code, none) (by rfl) (sm_mem 429 (by decide +kernel)) (by decide +kernel) ⟨by decide, by decide⟩ (by decide) (Or.inl ⟨rfl, rfl⟩) (by decide +kernel) (sp_ok_9 hK)
set_option maxRecDepth 20000 in
theorem sk_10 {K : sm_H} (hK : sc_KOk K) : sm_okM sc_Ts sc_sx sc_zx sc_oc K sc_cl sc_Y 10 (4, 0, sb_10) :=
  sm_okM_of (pool := sp_10) (⟨"TwoWayGrammar$Growing", "<init>", "(LTwoWayGrammar$Grammar;LTwoWayGrammar$Sets;LTwoWayGrammar$Tree;)V"⟩, prog_4_method_1_code, none) (by rfl) (sm_mem 499 (by decide +kernel)) (by decide +kernel) ⟨by decide, by decide⟩ (by decide) (Or.inl ⟨rfl, rfl⟩) (by decide +kernel) (sp_ok_10 hK)
set_option maxRecDepth 20000 in
theorem sk_11 {K : sm_H} (hK : sc_KOk K) : sm_okM sc_Ts sc_sx sc_zx sc_oc K sc_cl sc_Y 11 (5, 0, sb_11) :=
  sm_okM_of (pool := sp_11) (⟨"TwoWayGrammar$Printing", "<init>", "(LTwoWayGrammar$Grammar;LTwoWayGrammar$Sets;LTwoWayGrammar$Tree;LTwoWayGrammar$Text;)V"⟩, prog_6_method_1_code, none) (by rfl) (sm_mem 518 (by decide +kernel)) (by decide +kernel) ⟨by decide, by decide⟩ (by decide) (Or.inl ⟨rfl, rfl⟩) (by decide +kernel) (sp_ok_11 hK)
set_option maxRecDepth 20000 in
theorem sk_12 {K : sm_H} (hK : sc_KOk K) : sm_okM sc_Ts sc_sx sc_zx sc_oc K sc_cl sc_Y 12 (2, 1, sb_12) :=
  sm_okM_of (pool := sp_12) (⟨"TwoWayGrammar", "compile", "()I"⟩, prog_1_method_5_code, (some (.int))) (by rfl) (sm_mem 601 (by decide +kernel)) (by decide +kernel) ⟨by decide, by decide⟩ (by decide) (Or.inr (Or.inl ⟨rfl, rfl⟩)) (by decide +kernel) (sp_ok_12 hK _)
set_option maxRecDepth 20000 in
theorem sk_13 {K : sm_H} (hK : sc_KOk K) : sm_okM sc_Ts sc_sx sc_zx sc_oc K sc_cl sc_Y 13 (1, 0, sb_13) :=
  sm_okM_of (pool := sp_13) (⟨"TwoWayGrammar$Tree", "drop", "()V"⟩, prog_11_method_2_code, none) (by rfl) (sm_mem 605 (by decide +kernel)) (by decide +kernel) ⟨by decide, by decide⟩ (by decide) (Or.inl ⟨rfl, rfl⟩) (by decide +kernel) (sp_ok_13 hK _)
set_option maxRecDepth 20000 in
theorem sk_14 {K : sm_H} (hK : sc_KOk K) : sm_okM sc_Ts sc_sx sc_zx sc_oc K sc_cl sc_Y 14 (3, 1, sb_14) :=
  sm_okM_of (pool := sp_14) (⟨"TwoWayGrammar$Reader", "read", "()I"⟩, prog_7_method_2_code, (some (.int))) (by rfl) (sm_mem 609 (by decide +kernel)) (by decide +kernel) ⟨by decide, by decide⟩ (by decide) (Or.inr (Or.inl ⟨rfl, rfl⟩)) (by decide +kernel) (sp_ok_14 hK _)
set_option maxRecDepth 20000 in
theorem sk_15 {K : sm_H} (hK : sc_KOk K) : sm_okM sc_Ts sc_sx sc_zx sc_oc K sc_cl sc_Y 15 (2, 0, sb_15) :=
  sm_okM_of (pool := sp_15) (⟨"TwoWayGrammar$Grammar", "drop", "()V"⟩, prog_3_method_2_code, none) (by rfl) (sm_mem 613 (by decide +kernel)) (by decide +kernel) ⟨by decide, by decide⟩ (by decide) (Or.inl ⟨rfl, rfl⟩) (by decide +kernel) (sp_ok_15 hK _)
set_option maxRecDepth 20000 in
theorem sk_16 {K : sm_H} (hK : sc_KOk K) : sm_okM sc_Ts sc_sx sc_zx sc_oc K sc_cl sc_Y 16 (3, 0, sb_16) :=
  sm_okM_of (pool := sp_12) (⟨"TwoWayGrammar", "put", "([III)V"⟩, prog_1_method_20_code, none) (by rfl) (sm_mem 616 (by decide +kernel)) (by decide +kernel) ⟨by decide, by decide⟩ (by decide) (Or.inl ⟨rfl, rfl⟩) (by decide +kernel) (sp_ok_12 hK _)
set_option maxRecDepth 20000 in
theorem sk_17 {K : sm_H} (hK : sc_KOk K) : sm_okM sc_Ts sc_sx sc_zx sc_oc K sc_cl sc_Y 17 (1, 0, sb_17) :=
  sm_okM_of (pool := sp_16) (⟨"TwoWayGrammar$Tokens", "rewind", "()V"⟩, prog_10_method_2_code, none) (by rfl) (sm_mem 620 (by decide +kernel)) (by decide +kernel) ⟨by decide, by decide⟩ (by decide) (Or.inl ⟨rfl, rfl⟩) (by decide +kernel) (sp_ok_16 hK _)
set_option maxRecDepth 20000 in
theorem sk_18 {K : sm_H} (hK : sc_KOk K) : sm_okM sc_Ts sc_sx sc_zx sc_oc K sc_cl sc_Y 18 (2, 0, sb_18) :=
  sm_okM_of (pool := sp_16) (⟨"TwoWayGrammar$Tokens", "advance", "()V"⟩, prog_10_method_3_code, none) (by rfl) (sm_mem 624 (by decide +kernel)) (by decide +kernel) ⟨by decide, by decide⟩ (by decide) (Or.inl ⟨rfl, rfl⟩) (by decide +kernel) (sp_ok_16 hK _)
set_option maxRecDepth 20000 in
theorem sk_19 {K : sm_H} (hK : sc_KOk K) : sm_okM sc_Ts sc_sx sc_zx sc_oc K sc_cl sc_Y 19 (3, 1, sb_19) :=
  sm_okM_of (pool := sp_17) (⟨"TwoWayGrammar$Text", "behindBlanks", "(I)I"⟩, prog_9_method_8_code, (some (.int))) (by rfl) (sm_mem 628 (by decide +kernel)) (by decide +kernel) ⟨by decide, by decide⟩ (by decide) (Or.inr (Or.inl ⟨rfl, rfl⟩)) (by decide +kernel) (sp_ok_17 hK _)
set_option maxRecDepth 20000 in
theorem sk_20 {K : sm_H} (hK : sc_KOk K) : sm_okM sc_Ts sc_sx sc_zx sc_oc K sc_cl sc_Y 20 (2, 5, sb_20) :=
  sm_okM_of (pool := sp_17) (⟨"TwoWayGrammar$Text", "at", "(I)C"⟩, prog_9_method_3_code, (some (.char))) (by rfl) (sm_mem 632 (by decide +kernel)) (by decide +kernel) ⟨by decide, by decide⟩ (by decide) (Or.inr (Or.inr (Or.inr (Or.inr (Or.inr (Or.inl ⟨rfl, rfl⟩)))))) (by decide +kernel) (sp_ok_17 hK _)
set_option maxRecDepth 20000 in
theorem sk_21 {K : sm_H} (hK : sc_KOk K) : sm_okM sc_Ts sc_sx sc_zx sc_oc K sc_cl sc_Y 21 (1, 4, sb_21) :=
  sm_okM_of (pool := sp_12) (⟨"TwoWayGrammar", "isBlank", "(I)Z"⟩, prog_1_method_25_code, (some (.boolean))) (by rfl) (sm_mem 635 (by decide +kernel)) (by decide +kernel) ⟨by decide, by decide⟩ (by decide) (Or.inr (Or.inr (Or.inr (Or.inr (Or.inl ⟨rfl, rfl⟩))))) (by decide +kernel) (sp_ok_12 hK _)
set_option maxRecDepth 20000 in
theorem sk_22 {K : sm_H} (hK : sc_KOk K) : sm_okM sc_Ts sc_sx sc_zx sc_oc K sc_cl sc_Y 22 (1, 1, sb_22) :=
  sm_okM_of (pool := sp_17) (⟨"TwoWayGrammar$Text", "length", "()I"⟩, prog_9_method_2_code, (some (.int))) (by rfl) (sm_mem 640 (by decide +kernel)) (by decide +kernel) ⟨by decide, by decide⟩ (by decide) (Or.inr (Or.inl ⟨rfl, rfl⟩)) (by decide +kernel) (sp_ok_17 hK _)
set_option maxRecDepth 20000 in
theorem sk_23 {K : sm_H} (hK : sc_KOk K) : sm_okM sc_Ts sc_sx sc_zx sc_oc K sc_cl sc_Y 23 (1, 4, sb_23) :=
  sm_okM_of (pool := sp_12) (⟨"TwoWayGrammar", "isSmall", "(I)Z"⟩, prog_1_method_22_code, (some (.boolean))) (by rfl) (sm_mem 643 (by decide +kernel)) (by decide +kernel) ⟨by decide, by decide⟩ (by decide) (Or.inr (Or.inr (Or.inr (Or.inr (Or.inl ⟨rfl, rfl⟩))))) (by decide +kernel) (sp_ok_12 hK _)
set_option maxRecDepth 20000 in
theorem sk_24 {K : sm_H} (hK : sc_KOk K) : sm_okM sc_Ts sc_sx sc_zx sc_oc K sc_cl sc_Y 24 (1, 0, sb_24) :=
  sm_okM_of (pool := sp_16) (⟨"TwoWayGrammar$Tokens", "takeWord", "()V"⟩, prog_10_method_5_code, none) (by rfl) (sm_mem 647 (by decide +kernel)) (by decide +kernel) ⟨by decide, by decide⟩ (by decide) (Or.inl ⟨rfl, rfl⟩) (by decide +kernel) (sp_ok_16 hK _)
set_option maxRecDepth 20000 in
theorem sk_25 {K : sm_H} (hK : sc_KOk K) : sm_okM sc_Ts sc_sx sc_zx sc_oc K sc_cl sc_Y 25 (3, 1, sb_25) :=
  sm_okM_of (pool := sp_17) (⟨"TwoWayGrammar$Text", "behindLetters", "(I)I"⟩, prog_9_method_9_code, (some (.int))) (by rfl) (sm_mem 651 (by decide +kernel)) (by decide +kernel) ⟨by decide, by decide⟩ (by decide) (Or.inr (Or.inl ⟨rfl, rfl⟩)) (by decide +kernel) (sp_ok_17 hK _)
set_option maxRecDepth 20000 in
theorem sk_26 {K : sm_H} (hK : sc_KOk K) : sm_okM sc_Ts sc_sx sc_zx sc_oc K sc_cl sc_Y 26 (6, 4, sb_26) :=
  sm_okM_of (pool := sp_17) (⟨"TwoWayGrammar$Text", "has", "(Ljava/lang/String;II)Z"⟩, prog_9_method_11_code, (some (.boolean))) (by rfl) (sm_mem 657 (by decide +kernel)) (by decide +kernel) ⟨by decide, by decide⟩ (by decide) (Or.inr (Or.inr (Or.inr (Or.inr (Or.inl ⟨rfl, rfl⟩))))) (by decide +kernel) (sp_ok_17 hK _)
set_option maxRecDepth 20000 in
theorem sk_27 {K : sm_H} (hK : sc_KOk K) : sm_okM sc_Ts sc_sx sc_zx sc_oc K sc_cl sc_Y 27 (1, 1, sb_27) :=
  sm_okM_of (pool := sp_18) (⟨"java/lang/String", "length", "()I"⟩, prog_23_method_54_code, (some (.int))) (by rfl) (sm_mem 661 (by decide +kernel)) (by decide +kernel) ⟨by decide, by decide⟩ (by decide) (Or.inr (Or.inl ⟨rfl, rfl⟩)) (by decide +kernel) (sp_ok_18 hK _)
set_option maxRecDepth 20000 in
theorem sk_28 {K : sm_H} (hK : sc_KOk K) : sm_okM sc_Ts sc_sx sc_zx sc_oc K sc_cl sc_Y 28 (1, 6, sb_28) :=
  sm_okM_of (pool := sp_18) (⟨"java/lang/String", "coder", "()B"⟩, prog_23_method_152_code, (some (.byte))) (by rfl) (sm_mem 665 (by decide +kernel)) (by decide +kernel) ⟨by decide, by decide⟩ (by decide) (Or.inr (Or.inr (Or.inr (Or.inr (Or.inr (Or.inr ⟨rfl, rfl⟩)))))) (by decide +kernel) (sp_ok_18 hK _)
set_option maxRecDepth 20000 in
theorem sk_29 {K : sm_H} (hK : sc_KOk K) : sm_okM sc_Ts sc_sx sc_zx sc_oc K sc_cl sc_Y 29 (2, 5, sb_29) :=
  sm_okM_of (pool := sp_18) (⟨"java/lang/String", "charAt", "(I)C"⟩, prog_23_method_56_code, (some (.char))) (by rfl) (sm_mem 671 (by decide +kernel)) (by decide +kernel) ⟨by decide, by decide⟩ (by decide) (Or.inr (Or.inr (Or.inr (Or.inr (Or.inr (Or.inl ⟨rfl, rfl⟩)))))) (by decide +kernel) (sp_ok_18 hK _)
set_option maxRecDepth 20000 in
theorem sk_30 {K : sm_H} (hK : sc_KOk K) : sm_okM sc_Ts sc_sx sc_zx sc_oc K sc_cl sc_Y 30 (1, 4, sb_30) :=
  sm_okM_of (pool := sp_18) (⟨"java/lang/String", "isLatin1", "()Z"⟩, prog_23_method_154_code, (some (.boolean))) (by rfl) (sm_mem 675 (by decide +kernel)) (by decide +kernel) ⟨by decide, by decide⟩ (by decide) (Or.inr (Or.inr (Or.inr (Or.inr (Or.inl ⟨rfl, rfl⟩))))) (by decide +kernel) (sp_ok_18 hK _)
set_option maxRecDepth 20000 in
theorem sk_31 {K : sm_H} (hK : sc_KOk K) : sm_okM sc_Ts sc_sx sc_zx sc_oc K sc_cl sc_Y 31 (2, 5, sb_31) :=
  sm_okM_of (pool := sp_19) (⟨"java/lang/StringLatin1", "charAt", "([BI)C"⟩, prog_24_method_2_code, (some (.char))) (by rfl) (sm_mem 678 (by decide +kernel)) (by decide +kernel) ⟨by decide, by decide⟩ (by decide) (Or.inr (Or.inr (Or.inr (Or.inr (Or.inr (Or.inl ⟨rfl, rfl⟩)))))) (by decide +kernel) (sp_ok_19 hK _)
set_option maxRecDepth 20000 in
theorem sk_32 {K : sm_H} (hK : sc_KOk K) : sm_okM sc_Ts sc_sx sc_zx sc_oc K sc_cl sc_Y 32 (2, 0, sb_32) :=
  sm_okM_of (pool := sp_18) (⟨"java/lang/String", "checkIndex", "(II)V"⟩, prog_23_method_155_code, none) (by rfl) (sm_mem 681 (by decide +kernel)) (by decide +kernel) ⟨by decide, by decide⟩ (by decide) (Or.inl ⟨rfl, rfl⟩) (by decide +kernel) (sp_ok_18 hK _)
set_option maxRecDepth 20000 in
theorem sk_33 {K : sm_H} (hK : sc_KOk K) : sm_okM sc_Ts sc_sx sc_zx sc_oc K sc_cl sc_Y 33 (3, 0, sb_33) :=
  sm_okM_of (pool := sp_16) (⟨"TwoWayGrammar$Tokens", "takeKeyword", "()V"⟩, prog_10_method_6_code, none) (by rfl) (sm_mem 715 (by decide +kernel)) (by decide +kernel) ⟨by decide, by decide⟩ (by decide) (Or.inl ⟨rfl, rfl⟩) (by decide +kernel) (sp_ok_16 hK _)
set_option maxRecDepth 20000 in
theorem sk_34 {K : sm_H} (hK : sc_KOk K) : sm_okM sc_Ts sc_sx sc_zx sc_oc K sc_cl sc_Y 34 (5, 1, sb_34) :=
  sm_okM_of (pool := sp_17) (⟨"TwoWayGrammar$Text", "letterCode", "(II)I"⟩, prog_9_method_12_code, (some (.int))) (by rfl) (sm_mem 719 (by decide +kernel)) (by decide +kernel) ⟨by decide, by decide⟩ (by decide) (Or.inr (Or.inl ⟨rfl, rfl⟩)) (by decide +kernel) (sp_ok_17 hK _)
set_option maxRecDepth 20000 in
theorem sk_35 {K : sm_H} (hK : sc_KOk K) : sm_okM sc_Ts sc_sx sc_zx sc_oc K sc_cl sc_Y 35 (2, 0, sb_35) :=
  sm_okM_of (pool := sp_16) (⟨"TwoWayGrammar$Tokens", "takeSign", "()V"⟩, prog_10_method_7_code, none) (by rfl) (sm_mem 723 (by decide +kernel)) (by decide +kernel) ⟨by decide, by decide⟩ (by decide) (Or.inl ⟨rfl, rfl⟩) (by decide +kernel) (sp_ok_16 hK _)
set_option maxRecDepth 20000 in
theorem sk_36 {K : sm_H} (hK : sc_KOk K) : sm_okM sc_Ts sc_sx sc_zx sc_oc K sc_cl sc_Y 36 (1, 4, sb_36) :=
  sm_okM_of (pool := sp_12) (⟨"TwoWayGrammar", "isCapital", "(I)Z"⟩, prog_1_method_23_code, (some (.boolean))) (by rfl) (sm_mem 727 (by decide +kernel)) (by decide +kernel) ⟨by decide, by decide⟩ (by decide) (Or.inr (Or.inr (Or.inr (Or.inr (Or.inl ⟨rfl, rfl⟩))))) (by decide +kernel) (sp_ok_12 hK _)
set_option maxRecDepth 20000 in
theorem sk_37 {K : sm_H} (hK : sc_KOk K) : sm_okM sc_Ts sc_sx sc_zx sc_oc K sc_cl sc_Y 37 (1, 4, sb_37) :=
  sm_okM_of (pool := sp_12) (⟨"TwoWayGrammar", "isDigit", "(I)Z"⟩, prog_1_method_24_code, (some (.boolean))) (by rfl) (sm_mem 730 (by decide +kernel)) (by decide +kernel) ⟨by decide, by decide⟩ (by decide) (Or.inr (Or.inr (Or.inr (Or.inr (Or.inl ⟨rfl, rfl⟩))))) (by decide +kernel) (sp_ok_12 hK _)
set_option maxRecDepth 20000 in
theorem sk_38 {K : sm_H} (hK : sc_KOk K) : sm_okM sc_Ts sc_sx sc_zx sc_oc K sc_cl sc_Y 38 (1, 1, sb_38) :=
  sm_okM_of (pool := sp_12) (⟨"TwoWayGrammar", "signCode", "(C)I"⟩, prog_1_method_27_code, (some (.int))) (by rfl) (sm_mem 733 (by decide +kernel)) (by decide +kernel) ⟨by decide, by decide⟩ (by decide) (Or.inr (Or.inl ⟨rfl, rfl⟩)) (by decide +kernel) (sp_ok_12 hK _)
set_option maxRecDepth 20000 in
theorem sk_39 {K : sm_H} (hK : sc_KOk K) : sm_okM sc_Ts sc_sx sc_zx sc_oc K sc_cl sc_Y 39 (2, 0, sb_39) :=
  sm_okM_of (pool := sp_16) (⟨"TwoWayGrammar$Tokens", "takeCharacter", "(C)V"⟩, prog_10_method_8_code, none) (by rfl) (sm_mem 737 (by decide +kernel)) (by decide +kernel) ⟨by decide, by decide⟩ (by decide) (Or.inl ⟨rfl, rfl⟩) (by decide +kernel) (sp_ok_16 hK _)
set_option maxRecDepth 20000 in
theorem sk_40 {K : sm_H} (hK : sc_KOk K) : sm_okM sc_Ts sc_sx sc_zx sc_oc K sc_cl sc_Y 40 (2, 1, sb_40) :=
  sm_okM_of (pool := sp_18) (⟨"java/lang/String", "indexOf", "(I)I"⟩, prog_23_method_79_code, (some (.int))) (by rfl) (sm_mem 742 (by decide +kernel)) (by decide +kernel) ⟨by decide, by decide⟩ (by decide) (Or.inr (Or.inl ⟨rfl, rfl⟩)) (by decide +kernel) (sp_ok_18 hK _)
set_option maxRecDepth 20000 in
theorem sk_41 {K : sm_H} (hK : sc_KOk K) : sm_okM sc_Ts sc_sx sc_zx sc_oc K sc_cl sc_Y 41 (3, 1, sb_41) :=
  sm_okM_of (pool := sp_18) (⟨"java/lang/String", "indexOf", "(II)I"⟩, prog_23_method_80_code, (some (.int))) (by rfl) (sm_mem 746 (by decide +kernel)) (by decide +kernel) ⟨by decide, by decide⟩ (by decide) (Or.inr (Or.inl ⟨rfl, rfl⟩)) (by decide +kernel) (sp_ok_18 hK _)
set_option maxRecDepth 20000 in
theorem sk_42 {K : sm_H} (hK : sc_KOk K) : sm_okM sc_Ts sc_sx sc_zx sc_oc K sc_cl sc_Y 42 (4, 1, sb_42) :=
  sm_okM_of (pool := sp_19) (⟨"java/lang/StringLatin1", "indexOf", "([BIII)I"⟩, prog_24_method_22_code, (some (.int))) (by rfl) (sm_mem 750 (by decide +kernel)) (by decide +kernel) ⟨by decide, by decide⟩ (by decide) (Or.inr (Or.inl ⟨rfl, rfl⟩)) (by decide +kernel) (sp_ok_19 hK _)
set_option maxRecDepth 20000 in
theorem sk_43 {K : sm_H} (hK : sc_KOk K) : sm_okM sc_Ts sc_sx sc_zx sc_oc K sc_cl sc_Y 43 (1, 4, sb_43) :=
  sm_okM_of (pool := sp_19) (⟨"java/lang/StringLatin1", "canEncode", "(I)Z"⟩, prog_24_method_4_code, (some (.boolean))) (by rfl) (sm_mem 753 (by decide +kernel)) (by decide +kernel) ⟨by decide, by decide⟩ (by decide) (Or.inr (Or.inr (Or.inr (Or.inr (Or.inl ⟨rfl, rfl⟩))))) (by decide +kernel) (sp_ok_19 hK _)
set_option maxRecDepth 20000 in
theorem sk_44 {K : sm_H} (hK : sc_KOk K) : sm_okM sc_Ts sc_sx sc_zx sc_oc K sc_cl sc_Y 44 (6, 1, sb_44) :=
  sm_okM_of (pool := sp_19) (⟨"java/lang/StringLatin1", "indexOfChar", "([BIII)I"⟩, prog_24_method_23_code, (some (.int))) (by rfl) (sm_mem 760 (by decide +kernel)) (by decide +kernel) ⟨by decide, by decide⟩ (by decide) (Or.inr (Or.inl ⟨rfl, rfl⟩)) (by decide +kernel) (sp_ok_19 hK _)
set_option maxRecDepth 20000 in
theorem sk_45 {K : sm_H} (hK : sc_KOk K) : sm_okM sc_Ts sc_sx sc_zx sc_oc K sc_cl sc_Y 45 (3, 0, sb_45) :=
  sm_okM_of (pool := sp_18) (⟨"java/lang/String", "checkBoundsBeginEnd", "(III)V"⟩, prog_23_method_158_code, none) (by rfl) (sm_mem 775 (by decide +kernel)) (by decide +kernel) ⟨by decide, by decide⟩ (by decide) (Or.inl ⟨rfl, rfl⟩) (by decide +kernel) (sp_ok_18 hK _)
set_option maxRecDepth 20000 in
theorem sk_46 {K : sm_H} (hK : sc_KOk K) : sm_okM sc_Ts sc_sx sc_zx sc_oc K sc_cl sc_Y 46 (2, 1, sb_46) :=
  sm_okM_of (pool := sp_14) (⟨"TwoWayGrammar$Reader", "beginRule", "()I"⟩, prog_7_method_5_code, (some (.int))) (by rfl) (sm_mem 799 (by decide +kernel)) (by decide +kernel) ⟨by decide, by decide⟩ (by decide) (Or.inr (Or.inl ⟨rfl, rfl⟩)) (by decide +kernel) (sp_ok_14 hK _)
set_option maxRecDepth 20000 in
theorem sk_47 {K : sm_H} (hK : sc_KOk K) : sm_okM sc_Ts sc_sx sc_zx sc_oc K sc_cl sc_Y 47 (3, 0, sb_47) :=
  sm_okM_of (pool := sp_14) (⟨"TwoWayGrammar$Reader", "blame", "(II)V"⟩, prog_7_method_3_code, none) (by rfl) (sm_mem 803 (by decide +kernel)) (by decide +kernel) ⟨by decide, by decide⟩ (by decide) (Or.inl ⟨rfl, rfl⟩) (by decide +kernel) (sp_ok_14 hK _)
set_option maxRecDepth 20000 in
theorem sk_48 {K : sm_H} (hK : sc_KOk K) : sm_okM sc_Ts sc_sx sc_zx sc_oc K sc_cl sc_Y 48 (3, 1, sb_48) :=
  sm_okM_of (pool := sp_15) (⟨"TwoWayGrammar$Grammar", "ruleNamed", "(I)I"⟩, prog_3_method_3_code, (some (.int))) (by rfl) (sm_mem 807 (by decide +kernel)) (by decide +kernel) ⟨by decide, by decide⟩ (by decide) (Or.inr (Or.inl ⟨rfl, rfl⟩)) (by decide +kernel) (sp_ok_15 hK _)
set_option maxRecDepth 20000 in
theorem sk_49 {K : sm_H} (hK : sc_KOk K) : sm_okM sc_Ts sc_sx sc_zx sc_oc K sc_cl sc_Y 49 (2, 1, sb_49) :=
  sm_okM_of (pool := sp_12) (⟨"TwoWayGrammar", "at", "([II)I"⟩, prog_1_method_18_code, (some (.int))) (by rfl) (sm_mem 810 (by decide +kernel)) (by decide +kernel) ⟨by decide, by decide⟩ (by decide) (Or.inr (Or.inl ⟨rfl, rfl⟩)) (by decide +kernel) (sp_ok_12 hK _)
set_option maxRecDepth 20000 in
theorem sk_50 {K : sm_H} (hK : sc_KOk K) : sm_okM sc_Ts sc_sx sc_zx sc_oc K sc_cl sc_Y 50 (3, 1, sb_50) :=
  sm_okM_of (pool := sp_15) (⟨"TwoWayGrammar$Grammar", "addRule", "(II)I"⟩, prog_3_method_5_code, (some (.int))) (by rfl) (sm_mem 814 (by decide +kernel)) (by decide +kernel) ⟨by decide, by decide⟩ (by decide) (Or.inr (Or.inl ⟨rfl, rfl⟩)) (by decide +kernel) (sp_ok_15 hK _)
set_option maxRecDepth 20000 in
theorem sk_51 {K : sm_H} (hK : sc_KOk K) : sm_okM sc_Ts sc_sx sc_zx sc_oc K sc_cl sc_Y 51 (2, 0, sb_51) :=
  sm_okM_of (pool := sp_14) (⟨"TwoWayGrammar$Reader", "expect", "(I)V"⟩, prog_7_method_4_code, none) (by rfl) (sm_mem 819 (by decide +kernel)) (by decide +kernel) ⟨by decide, by decide⟩ (by decide) (Or.inl ⟨rfl, rfl⟩) (by decide +kernel) (sp_ok_14 hK _)
set_option maxRecDepth 20000 in
theorem sk_52 {K : sm_H} (hK : sc_KOk K) : sm_okM sc_Ts sc_sx sc_zx sc_oc K sc_cl sc_Y 52 (7, 0, sb_52) :=
  sm_okM_of (pool := sp_14) (⟨"TwoWayGrammar$Reader", "readForm", "(II)V"⟩, prog_7_method_6_code, none) (by rfl) (sm_mem 823 (by decide +kernel)) (by decide +kernel) ⟨by decide, by decide⟩ (by decide) (Or.inl ⟨rfl, rfl⟩) (by decide +kernel) (sp_ok_14 hK _)
set_option maxRecDepth 20000 in
theorem sk_53 {K : sm_H} (hK : sc_KOk K) : sm_okM sc_Ts sc_sx sc_zx sc_oc K sc_cl sc_Y 53 (5, 1, sb_53) :=
  sm_okM_of (pool := sp_15) (⟨"TwoWayGrammar$Grammar", "addAlternative", "(III)I"⟩, prog_3_method_8_code, (some (.int))) (by rfl) (sm_mem 827 (by decide +kernel)) (by decide +kernel) ⟨by decide, by decide⟩ (by decide) (Or.inr (Or.inl ⟨rfl, rfl⟩)) (by decide +kernel) (sp_ok_15 hK _)
set_option maxRecDepth 20000 in
theorem sk_54 {K : sm_H} (hK : sc_KOk K) : sm_okM sc_Ts sc_sx sc_zx sc_oc K sc_cl sc_Y 54 (7, 0, sb_54) :=
  sm_okM_of (pool := sp_14) (⟨"TwoWayGrammar$Reader", "readItems", "(II)V"⟩, prog_7_method_7_code, none) (by rfl) (sm_mem 831 (by decide +kernel)) (by decide +kernel) ⟨by decide, by decide⟩ (by decide) (Or.inl ⟨rfl, rfl⟩) (by decide +kernel) (sp_ok_14 hK _)
end
