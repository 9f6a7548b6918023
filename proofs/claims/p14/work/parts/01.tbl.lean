/-! the tables' words: PART A of the claim's own skeleton (a starting text) -/
/-- a private method of a class that the tables say can be made, by its rows of tables_1 -/
def lw_okq (q : MethodName × Nat) : Prop := (q.1.cls ≠ "java/lang/invoke/MethodHandle" ∧ q.1.cls ≠ "java/lang/invoke/VarHandle") ∧ Cond.instantiable q.1.cls q.2 ∈ tables_1 ∧ Cond.privateMethod q.1 ∈ tables_1 ∧ Cond.instanceMethod q.1 ∈ tables_1
theorem lw_p0 : lw_okq (⟨"TwoWayGrammar$Tokens", "takeWord", "()V"⟩, 5) := ⟨⟨by decide +kernel, by decide +kernel⟩, tb_mem 172 rfl, tb_mem 547 rfl, tb_mem 548 rfl⟩
theorem lw_p1 : lw_okq (⟨"TwoWayGrammar$Tokens", "takeKeyword", "()V"⟩, 5) := ⟨⟨by decide +kernel, by decide +kernel⟩, tb_mem 172 rfl, tb_mem 615 rfl, tb_mem 616 rfl⟩
theorem lw_p2 : lw_okq (⟨"TwoWayGrammar$Tokens", "takeSign", "()V"⟩, 5) := ⟨⟨by decide +kernel, by decide +kernel⟩, tb_mem 172 rfl, tb_mem 623 rfl, tb_mem 624 rfl⟩
theorem lw_p3 : lw_okq (⟨"TwoWayGrammar$Tokens", "takeCharacter", "(C)V"⟩, 5) := ⟨⟨by decide +kernel, by decide +kernel⟩, tb_mem 172 rfl, tb_mem 637 rfl, tb_mem 638 rfl⟩
theorem lw_p4 : lw_okq (⟨"TwoWayGrammar$Reader", "beginRule", "()I"⟩, 4) := ⟨⟨by decide +kernel, by decide +kernel⟩, tb_mem 170 rfl, tb_mem 699 rfl, tb_mem 700 rfl⟩
theorem lw_p5 : lw_okq (⟨"TwoWayGrammar$Reader", "blame", "(II)V"⟩, 4) := ⟨⟨by decide +kernel, by decide +kernel⟩, tb_mem 170 rfl, tb_mem 703 rfl, tb_mem 704 rfl⟩
theorem lw_p6 : lw_okq (⟨"TwoWayGrammar$Reader", "expect", "(I)V"⟩, 4) := ⟨⟨by decide +kernel, by decide +kernel⟩, tb_mem 170 rfl, tb_mem 719 rfl, tb_mem 720 rfl⟩
theorem lw_p7 : lw_okq (⟨"TwoWayGrammar$Reader", "readForm", "(II)V"⟩, 4) := ⟨⟨by decide +kernel, by decide +kernel⟩, tb_mem 170 rfl, tb_mem 723 rfl, tb_mem 724 rfl⟩
theorem lw_p8 : lw_okq (⟨"TwoWayGrammar$Reader", "readItems", "(II)V"⟩, 4) := ⟨⟨by decide +kernel, by decide +kernel⟩, tb_mem 170 rfl, tb_mem 731 rfl, tb_mem 732 rfl⟩
theorem lw_p9 : lw_okq (⟨"TwoWayGrammar$Reader", "readUnit", "(III)I"⟩, 4) := ⟨⟨by decide +kernel, by decide +kernel⟩, tb_mem 170 rfl, tb_mem 735 rfl, tb_mem 736 rfl⟩
theorem lw_p10 : lw_okq (⟨"TwoWayGrammar$Reader", "isOneTooMany", "(I)Z"⟩, 4) := ⟨⟨by decide +kernel, by decide +kernel⟩, tb_mem 170 rfl, tb_mem 743 rfl, tb_mem 744 rfl⟩
theorem lw_p11 : lw_okq (⟨"TwoWayGrammar$Reader", "readPart", "(I)I"⟩, 4) := ⟨⟨by decide +kernel, by decide +kernel⟩, tb_mem 170 rfl, tb_mem 751 rfl, tb_mem 752 rfl⟩
theorem lw_p12 : lw_okq (⟨"TwoWayGrammar$Reader", "nameUses", "()V"⟩, 4) := ⟨⟨by decide +kernel, by decide +kernel⟩, tb_mem 170 rfl, tb_mem 773 rfl, tb_mem 774 rfl⟩
theorem lw_p13 : lw_okq (⟨"TwoWayGrammar$Sets", "spreadStarts", "()V"⟩, 16) := ⟨⟨by decide +kernel, by decide +kernel⟩, tb_mem 214 rfl, tb_mem 786 rfl, tb_mem 787 rfl⟩
theorem lw_p14 : lw_okq (⟨"TwoWayGrammar$Sets", "refreshForm", "(I)V"⟩, 16) := ⟨⟨by decide +kernel, by decide +kernel⟩, tb_mem 214 rfl, tb_mem 791 rfl, tb_mem 792 rfl⟩
theorem lw_p15 : lw_okq (⟨"TwoWayGrammar$Sets", "refreshAlternative", "(I)V"⟩, 16) := ⟨⟨by decide +kernel, by decide +kernel⟩, tb_mem 214 rfl, tb_mem 796 rfl, tb_mem 797 rfl⟩
def lw_privs_1 : List (MethodName × Nat) := [(⟨"TwoWayGrammar$Tokens", "takeWord", "()V"⟩, 5), (⟨"TwoWayGrammar$Tokens", "takeKeyword", "()V"⟩, 5), (⟨"TwoWayGrammar$Tokens", "takeSign", "()V"⟩, 5), (⟨"TwoWayGrammar$Tokens", "takeCharacter", "(C)V"⟩, 5), (⟨"TwoWayGrammar$Reader", "beginRule", "()I"⟩, 4), (⟨"TwoWayGrammar$Reader", "blame", "(II)V"⟩, 4), (⟨"TwoWayGrammar$Reader", "expect", "(I)V"⟩, 4), (⟨"TwoWayGrammar$Reader", "readForm", "(II)V"⟩, 4), (⟨"TwoWayGrammar$Reader", "readItems", "(II)V"⟩, 4), (⟨"TwoWayGrammar$Reader", "readUnit", "(III)I"⟩, 4), (⟨"TwoWayGrammar$Reader", "isOneTooMany", "(I)Z"⟩, 4), (⟨"TwoWayGrammar$Reader", "readPart", "(I)I"⟩, 4), (⟨"TwoWayGrammar$Reader", "nameUses", "()V"⟩, 4), (⟨"TwoWayGrammar$Sets", "spreadStarts", "()V"⟩, 16), (⟨"TwoWayGrammar$Sets", "refreshForm", "(I)V"⟩, 16), (⟨"TwoWayGrammar$Sets", "refreshAlternative", "(I)V"⟩, 16)]
theorem lw_r1 : ∀ q ∈ lw_privs_1, lw_okq q := List.forall_mem_cons.mpr ⟨lw_p0, List.forall_mem_cons.mpr ⟨lw_p1, List.forall_mem_cons.mpr ⟨lw_p2, List.forall_mem_cons.mpr ⟨lw_p3, List.forall_mem_cons.mpr ⟨lw_p4, List.forall_mem_cons.mpr ⟨lw_p5, List.forall_mem_cons.mpr ⟨lw_p6, List.forall_mem_cons.mpr ⟨lw_p7, List.forall_mem_cons.mpr ⟨lw_p8, List.forall_mem_cons.mpr ⟨lw_p9, List.forall_mem_cons.mpr ⟨lw_p10, List.forall_mem_cons.mpr ⟨lw_p11, List.forall_mem_cons.mpr ⟨lw_p12, List.forall_mem_cons.mpr ⟨lw_p13, List.forall_mem_cons.mpr ⟨lw_p14, List.forall_mem_cons.mpr ⟨lw_p15, fun _ h => absurd h List.not_mem_nil⟩⟩⟩⟩⟩⟩⟩⟩⟩⟩⟩⟩⟩⟩⟩⟩
theorem lw_p16 : lw_okq (⟨"TwoWayGrammar$Sets", "refreshPart", "(I)V"⟩, 16) := ⟨⟨by decide +kernel, by decide +kernel⟩, tb_mem 214 rfl, tb_mem 800 rfl, tb_mem 801 rfl⟩
theorem lw_p17 : lw_okq (⟨"TwoWayGrammar$Sets", "begins", "(I)I"⟩, 16) := ⟨⟨by decide +kernel, by decide +kernel⟩, tb_mem 214 rfl, tb_mem 813 rfl, tb_mem 814 rfl⟩
theorem lw_p18 : lw_okq (⟨"TwoWayGrammar$Sets", "mayBePassed", "(I)Z"⟩, 16) := ⟨⟨by decide +kernel, by decide +kernel⟩, tb_mem 214 rfl, tb_mem 817 rfl, tb_mem 818 rfl⟩
theorem lw_p19 : lw_okq (⟨"TwoWayGrammar$Sets", "height", "(I)I"⟩, 16) := ⟨⟨by decide +kernel, by decide +kernel⟩, tb_mem 214 rfl, tb_mem 821 rfl, tb_mem 822 rfl⟩
theorem lw_p20 : lw_okq (⟨"TwoWayGrammar$Sets", "spreadFollows", "()V"⟩, 16) := ⟨⟨by decide +kernel, by decide +kernel⟩, tb_mem 214 rfl, tb_mem 827 rfl, tb_mem 828 rfl⟩
theorem lw_p21 : lw_okq (⟨"TwoWayGrammar$Sets", "spreadInto", "(IJ)V"⟩, 16) := ⟨⟨by decide +kernel, by decide +kernel⟩, tb_mem 214 rfl, tb_mem 831 rfl, tb_mem 832 rfl⟩
theorem lw_p22 : lw_okq (⟨"TwoWayGrammar$Sets", "startsFrom", "(IJ)J"⟩, 16) := ⟨⟨by decide +kernel, by decide +kernel⟩, tb_mem 214 rfl, tb_mem 835 rfl, tb_mem 836 rfl⟩
theorem lw_p23 : lw_okq (⟨"TwoWayGrammar$Sets", "findDirectors", "()V"⟩, 16) := ⟨⟨by decide +kernel, by decide +kernel⟩, tb_mem 214 rfl, tb_mem 840 rfl, tb_mem 841 rfl⟩
theorem lw_p24 : lw_okq (⟨"TwoWayGrammar$Sets", "findTops", "()V"⟩, 16) := ⟨⟨by decide +kernel, by decide +kernel⟩, tb_mem 214 rfl, tb_mem 844 rfl, tb_mem 845 rfl⟩
theorem lw_p25 : lw_okq (⟨"TwoWayGrammar$Sets", "groupTops", "(I)I"⟩, 16) := ⟨⟨by decide +kernel, by decide +kernel⟩, tb_mem 214 rfl, tb_mem 848 rfl, tb_mem 849 rfl⟩
theorem lw_p26 : lw_okq (⟨"TwoWayGrammar$Checks", "checkRules", "()V"⟩, 3) := ⟨⟨by decide +kernel, by decide +kernel⟩, tb_mem 282 rfl, tb_mem 856 rfl, tb_mem 857 rfl⟩
theorem lw_p27 : lw_okq (⟨"TwoWayGrammar$Checks", "blame", "(II)V"⟩, 3) := ⟨⟨by decide +kernel, by decide +kernel⟩, tb_mem 282 rfl, tb_mem 861 rfl, tb_mem 862 rfl⟩
theorem lw_p28 : lw_okq (⟨"TwoWayGrammar$Checks", "checkRepeats", "()V"⟩, 3) := ⟨⟨by decide +kernel, by decide +kernel⟩, tb_mem 282 rfl, tb_mem 869 rfl, tb_mem 870 rfl⟩
theorem lw_p29 : lw_okq (⟨"TwoWayGrammar$Checks", "checkChoice", "(I)V"⟩, 3) := ⟨⟨by decide +kernel, by decide +kernel⟩, tb_mem 282 rfl, tb_mem 874 rfl, tb_mem 875 rfl⟩
theorem lw_p30 : lw_okq (⟨"java/lang/Throwable", "fillInStackTrace", "(I)Ljava/lang/Throwable;"⟩, 6) := ⟨⟨by decide +kernel, by decide +kernel⟩, tb_mem 959 rfl, tb_mem 957 rfl, tb_mem 958 rfl⟩
theorem lw_p31 : lw_okq (⟨"TwoWayGrammar", "text", "(I)LTwoWayGrammar$Text;"⟩, 16) := ⟨⟨by decide +kernel, by decide +kernel⟩, tb_mem 30 rfl, tb_mem 988 rfl, tb_mem 989 rfl⟩
def lw_privs_2 : List (MethodName × Nat) := [(⟨"TwoWayGrammar$Sets", "refreshPart", "(I)V"⟩, 16), (⟨"TwoWayGrammar$Sets", "begins", "(I)I"⟩, 16), (⟨"TwoWayGrammar$Sets", "mayBePassed", "(I)Z"⟩, 16), (⟨"TwoWayGrammar$Sets", "height", "(I)I"⟩, 16), (⟨"TwoWayGrammar$Sets", "spreadFollows", "()V"⟩, 16), (⟨"TwoWayGrammar$Sets", "spreadInto", "(IJ)V"⟩, 16), (⟨"TwoWayGrammar$Sets", "startsFrom", "(IJ)J"⟩, 16), (⟨"TwoWayGrammar$Sets", "findDirectors", "()V"⟩, 16), (⟨"TwoWayGrammar$Sets", "findTops", "()V"⟩, 16), (⟨"TwoWayGrammar$Sets", "groupTops", "(I)I"⟩, 16), (⟨"TwoWayGrammar$Checks", "checkRules", "()V"⟩, 3), (⟨"TwoWayGrammar$Checks", "blame", "(II)V"⟩, 3), (⟨"TwoWayGrammar$Checks", "checkRepeats", "()V"⟩, 3), (⟨"TwoWayGrammar$Checks", "checkChoice", "(I)V"⟩, 3), (⟨"java/lang/Throwable", "fillInStackTrace", "(I)Ljava/lang/Throwable;"⟩, 6), (⟨"TwoWayGrammar", "text", "(I)LTwoWayGrammar$Text;"⟩, 16)]
theorem lw_r2 : ∀ q ∈ lw_privs_2, lw_okq q := List.forall_mem_cons.mpr ⟨lw_p16, List.forall_mem_cons.mpr ⟨lw_p17, List.forall_mem_cons.mpr ⟨lw_p18, List.forall_mem_cons.mpr ⟨lw_p19, List.forall_mem_cons.mpr ⟨lw_p20, List.forall_mem_cons.mpr ⟨lw_p21, List.forall_mem_cons.mpr ⟨lw_p22, List.forall_mem_cons.mpr ⟨lw_p23, List.forall_mem_cons.mpr ⟨lw_p24, List.forall_mem_cons.mpr ⟨lw_p25, List.forall_mem_cons.mpr ⟨lw_p26, List.forall_mem_cons.mpr ⟨lw_p27, List.forall_mem_cons.mpr ⟨lw_p28, List.forall_mem_cons.mpr ⟨lw_p29, List.forall_mem_cons.mpr ⟨lw_p30, List.forall_mem_cons.mpr ⟨lw_p31, fun _ h => absurd h List.not_mem_nil⟩⟩⟩⟩⟩⟩⟩⟩⟩⟩⟩⟩⟩⟩⟩⟩
theorem lw_p32 : lw_okq (⟨"TwoWayGrammar$Parsing", "takeToken", "()V"⟩, 12) := ⟨⟨by decide +kernel, by decide +kernel⟩, tb_mem 325 rfl, tb_mem 1092 rfl, tb_mem 1093 rfl⟩
theorem lw_p33 : lw_okq (⟨"TwoWayGrammar$Parsing", "takeNumber", "()V"⟩, 12) := ⟨⟨by decide +kernel, by decide +kernel⟩, tb_mem 325 rfl, tb_mem 1100 rfl, tb_mem 1101 rfl⟩
theorem lw_p34 : lw_okq (⟨"TwoWayGrammar$Parsing", "takeWord", "()V"⟩, 12) := ⟨⟨by decide +kernel, by decide +kernel⟩, tb_mem 325 rfl, tb_mem 1110 rfl, tb_mem 1111 rfl⟩
theorem lw_p35 : lw_okq (⟨"TwoWayGrammar$Parsing", "literalOr", "(II)I"⟩, 12) := ⟨⟨by decide +kernel, by decide +kernel⟩, tb_mem 325 rfl, tb_mem 1116 rfl, tb_mem 1117 rfl⟩
theorem lw_p36 : lw_okq (⟨"TwoWayGrammar$Parsing", "blame", "()V"⟩, 12) := ⟨⟨by decide +kernel, by decide +kernel⟩, tb_mem 325 rfl, tb_mem 1122 rfl, tb_mem 1123 rfl⟩
theorem lw_p37 : lw_okq (⟨"TwoWayGrammar$Growing", "lowest", "(I)I"⟩, 8) := ⟨⟨by decide +kernel, by decide +kernel⟩, tb_mem 398 rfl, tb_mem 1174 rfl, tb_mem 1175 rfl⟩
theorem lw_p38 : lw_okq (⟨"TwoWayGrammar$Growing", "draw", "(I)I"⟩, 8) := ⟨⟨by decide +kernel, by decide +kernel⟩, tb_mem 398 rfl, tb_mem 1179 rfl, tb_mem 1180 rfl⟩
theorem lw_p39 : lw_okq (⟨"TwoWayGrammar$Parsing", "isNextIn", "(J)Z"⟩, 12) := ⟨⟨by decide +kernel, by decide +kernel⟩, tb_mem 325 rfl, tb_mem 1190 rfl, tb_mem 1191 rfl⟩
theorem lw_p40 : lw_okq (⟨"TwoWayGrammar$Growing", "drawName", "()I"⟩, 8) := ⟨⟨by decide +kernel, by decide +kernel⟩, tb_mem 398 rfl, tb_mem 1233 rfl, tb_mem 1234 rfl⟩
theorem lw_p41 : lw_okq (⟨"TwoWayGrammar$Printing", "nextValue", "()I"⟩, 13) := ⟨⟨by decide +kernel, by decide +kernel⟩, tb_mem 417 rfl, tb_mem 1247 rfl, tb_mem 1248 rfl⟩
theorem lw_p42 : lw_okq (⟨"TwoWayGrammar$Printing", "writeNumber", "(I)V"⟩, 13) := ⟨⟨by decide +kernel, by decide +kernel⟩, tb_mem 417 rfl, tb_mem 1251 rfl, tb_mem 1252 rfl⟩
theorem lw_p43 : lw_okq (⟨"TwoWayGrammar$Printing", "separate", "(Z)V"⟩, 13) := ⟨⟨by decide +kernel, by decide +kernel⟩, tb_mem 417 rfl, tb_mem 1255 rfl, tb_mem 1256 rfl⟩
theorem lw_p44 : lw_okq (⟨"TwoWayGrammar$Printing", "write", "(C)V"⟩, 13) := ⟨⟨by decide +kernel, by decide +kernel⟩, tb_mem 417 rfl, tb_mem 1260 rfl, tb_mem 1261 rfl⟩
theorem lw_p45 : lw_okq (⟨"TwoWayGrammar$Printing", "writeCode", "(I)V"⟩, 13) := ⟨⟨by decide +kernel, by decide +kernel⟩, tb_mem 417 rfl, tb_mem 1265 rfl, tb_mem 1266 rfl⟩
theorem lw_p46 : lw_okq (⟨"TwoWayGrammar$Tree", "turnRound", "(II)V"⟩, 4) := ⟨⟨by decide +kernel, by decide +kernel⟩, tb_mem 298 rfl, tb_mem 1324 rfl, tb_mem 1325 rfl⟩
theorem lw_p47 : lw_okq (⟨"TwoWayGrammarModel", "say", "(J)V"⟩, 96) := ⟨⟨by decide +kernel, by decide +kernel⟩, tb_mem 1452 rfl, tb_mem 1761 rfl, tb_mem 1762 rfl⟩
def lw_privs_3 : List (MethodName × Nat) := [(⟨"TwoWayGrammar$Parsing", "takeToken", "()V"⟩, 12), (⟨"TwoWayGrammar$Parsing", "takeNumber", "()V"⟩, 12), (⟨"TwoWayGrammar$Parsing", "takeWord", "()V"⟩, 12), (⟨"TwoWayGrammar$Parsing", "literalOr", "(II)I"⟩, 12), (⟨"TwoWayGrammar$Parsing", "blame", "()V"⟩, 12), (⟨"TwoWayGrammar$Growing", "lowest", "(I)I"⟩, 8), (⟨"TwoWayGrammar$Growing", "draw", "(I)I"⟩, 8), (⟨"TwoWayGrammar$Parsing", "isNextIn", "(J)Z"⟩, 12), (⟨"TwoWayGrammar$Growing", "drawName", "()I"⟩, 8), (⟨"TwoWayGrammar$Printing", "nextValue", "()I"⟩, 13), (⟨"TwoWayGrammar$Printing", "writeNumber", "(I)V"⟩, 13), (⟨"TwoWayGrammar$Printing", "separate", "(Z)V"⟩, 13), (⟨"TwoWayGrammar$Printing", "write", "(C)V"⟩, 13), (⟨"TwoWayGrammar$Printing", "writeCode", "(I)V"⟩, 13), (⟨"TwoWayGrammar$Tree", "turnRound", "(II)V"⟩, 4), (⟨"TwoWayGrammarModel", "say", "(J)V"⟩, 96)]
theorem lw_r3 : ∀ q ∈ lw_privs_3, lw_okq q := List.forall_mem_cons.mpr ⟨lw_p32, List.forall_mem_cons.mpr ⟨lw_p33, List.forall_mem_cons.mpr ⟨lw_p34, List.forall_mem_cons.mpr ⟨lw_p35, List.forall_mem_cons.mpr ⟨lw_p36, List.forall_mem_cons.mpr ⟨lw_p37, List.forall_mem_cons.mpr ⟨lw_p38, List.forall_mem_cons.mpr ⟨lw_p39, List.forall_mem_cons.mpr ⟨lw_p40, List.forall_mem_cons.mpr ⟨lw_p41, List.forall_mem_cons.mpr ⟨lw_p42, List.forall_mem_cons.mpr ⟨lw_p43, List.forall_mem_cons.mpr ⟨lw_p44, List.forall_mem_cons.mpr ⟨lw_p45, List.forall_mem_cons.mpr ⟨lw_p46, List.forall_mem_cons.mpr ⟨lw_p47, fun _ h => absurd h List.not_mem_nil⟩⟩⟩⟩⟩⟩⟩⟩⟩⟩⟩⟩⟩⟩⟩⟩
theorem lw_p48 : lw_okq (⟨"TwoWayGrammarModel", "read", "()V"⟩, 96) := ⟨⟨by decide +kernel, by decide +kernel⟩, tb_mem 1452 rfl, tb_mem 1809 rfl, tb_mem 1810 rfl⟩
theorem lw_p49 : lw_okq (⟨"TwoWayGrammarModel", "scan", "()V"⟩, 96) := ⟨⟨by decide +kernel, by decide +kernel⟩, tb_mem 1452 rfl, tb_mem 1813 rfl, tb_mem 1814 rfl⟩
theorem lw_p50 : lw_okq (⟨"TwoWayGrammarModel", "charAt", "(I)I"⟩, 96) := ⟨⟨by decide +kernel, by decide +kernel⟩, tb_mem 1452 rfl, tb_mem 1820 rfl, tb_mem 1821 rfl⟩
theorem lw_p51 : lw_okq (⟨"TwoWayGrammarModel", "letters", "(I)I"⟩, 96) := ⟨⟨by decide +kernel, by decide +kernel⟩, tb_mem 1452 rfl, tb_mem 1827 rfl, tb_mem 1828 rfl⟩
theorem lw_p52 : lw_okq (⟨"TwoWayGrammarModel", "readRule", "()V"⟩, 96) := ⟨⟨by decide +kernel, by decide +kernel⟩, tb_mem 1452 rfl, tb_mem 1836 rfl, tb_mem 1837 rfl⟩
theorem lw_p53 : lw_okq (⟨"TwoWayGrammarModel", "blame", "(II)V"⟩, 96) := ⟨⟨by decide +kernel, by decide +kernel⟩, tb_mem 1452 rfl, tb_mem 1840 rfl, tb_mem 1841 rfl⟩
theorem lw_p54 : lw_okq (⟨"TwoWayGrammarModel", "newForm", "()I"⟩, 96) := ⟨⟨by decide +kernel, by decide +kernel⟩, tb_mem 1452 rfl, tb_mem 1844 rfl, tb_mem 1845 rfl⟩
theorem lw_p55 : lw_okq (⟨"TwoWayGrammarModel", "form", "()V"⟩, 96) := ⟨⟨by decide +kernel, by decide +kernel⟩, tb_mem 1452 rfl, tb_mem 1848 rfl, tb_mem 1849 rfl⟩
theorem lw_p56 : lw_okq (⟨"TwoWayGrammarModel", "begin", "(I)V"⟩, 96) := ⟨⟨by decide +kernel, by decide +kernel⟩, tb_mem 1452 rfl, tb_mem 1852 rfl, tb_mem 1853 rfl⟩
theorem lw_p57 : lw_okq (⟨"TwoWayGrammarModel", "isPart", "()Z"⟩, 96) := ⟨⟨by decide +kernel, by decide +kernel⟩, tb_mem 1452 rfl, tb_mem 1856 rfl, tb_mem 1857 rfl⟩
theorem lw_p58 : lw_okq (⟨"TwoWayGrammarModel", "part", "()V"⟩, 96) := ⟨⟨by decide +kernel, by decide +kernel⟩, tb_mem 1452 rfl, tb_mem 1870 rfl, tb_mem 1871 rfl⟩
theorem lw_p59 : lw_okq (⟨"TwoWayGrammarModel", "literal", "()I"⟩, 96) := ⟨⟨by decide +kernel, by decide +kernel⟩, tb_mem 1452 rfl, tb_mem 1874 rfl, tb_mem 1875 rfl⟩
theorem lw_p60 : lw_okq (⟨"TwoWayGrammarModel", "put", "(I)V"⟩, 96) := ⟨⟨by decide +kernel, by decide +kernel⟩, tb_mem 1452 rfl, tb_mem 1878 rfl, tb_mem 1879 rfl⟩
theorem lw_p61 : lw_okq (⟨"TwoWayGrammarModel", "plus", "()V"⟩, 96) := ⟨⟨by decide +kernel, by decide +kernel⟩, tb_mem 1452 rfl, tb_mem 1882 rfl, tb_mem 1883 rfl⟩
theorem lw_p62 : lw_okq (⟨"TwoWayGrammarModel", "study", "()V"⟩, 96) := ⟨⟨by decide +kernel, by decide +kernel⟩, tb_mem 1452 rfl, tb_mem 1886 rfl, tb_mem 1887 rfl⟩
theorem lw_p63 : lw_okq (⟨"TwoWayGrammarModel", "weigh", "(I)V"⟩, 96) := ⟨⟨by decide +kernel, by decide +kernel⟩, tb_mem 1452 rfl, tb_mem 1890 rfl, tb_mem 1891 rfl⟩
def lw_privs_4 : List (MethodName × Nat) := [(⟨"TwoWayGrammarModel", "read", "()V"⟩, 96), (⟨"TwoWayGrammarModel", "scan", "()V"⟩, 96), (⟨"TwoWayGrammarModel", "charAt", "(I)I"⟩, 96), (⟨"TwoWayGrammarModel", "letters", "(I)I"⟩, 96), (⟨"TwoWayGrammarModel", "readRule", "()V"⟩, 96), (⟨"TwoWayGrammarModel", "blame", "(II)V"⟩, 96), (⟨"TwoWayGrammarModel", "newForm", "()I"⟩, 96), (⟨"TwoWayGrammarModel", "form", "()V"⟩, 96), (⟨"TwoWayGrammarModel", "begin", "(I)V"⟩, 96), (⟨"TwoWayGrammarModel", "isPart", "()Z"⟩, 96), (⟨"TwoWayGrammarModel", "part", "()V"⟩, 96), (⟨"TwoWayGrammarModel", "literal", "()I"⟩, 96), (⟨"TwoWayGrammarModel", "put", "(I)V"⟩, 96), (⟨"TwoWayGrammarModel", "plus", "()V"⟩, 96), (⟨"TwoWayGrammarModel", "study", "()V"⟩, 96), (⟨"TwoWayGrammarModel", "weigh", "(I)V"⟩, 96)]
theorem lw_r4 : ∀ q ∈ lw_privs_4, lw_okq q := List.forall_mem_cons.mpr ⟨lw_p48, List.forall_mem_cons.mpr ⟨lw_p49, List.forall_mem_cons.mpr ⟨lw_p50, List.forall_mem_cons.mpr ⟨lw_p51, List.forall_mem_cons.mpr ⟨lw_p52, List.forall_mem_cons.mpr ⟨lw_p53, List.forall_mem_cons.mpr ⟨lw_p54, List.forall_mem_cons.mpr ⟨lw_p55, List.forall_mem_cons.mpr ⟨lw_p56, List.forall_mem_cons.mpr ⟨lw_p57, List.forall_mem_cons.mpr ⟨lw_p58, List.forall_mem_cons.mpr ⟨lw_p59, List.forall_mem_cons.mpr ⟨lw_p60, List.forall_mem_cons.mpr ⟨lw_p61, List.forall_mem_cons.mpr ⟨lw_p62, List.forall_mem_cons.mpr ⟨lw_p63, fun _ h => absurd h List.not_mem_nil⟩⟩⟩⟩⟩⟩⟩⟩⟩⟩⟩⟩⟩⟩⟩⟩
theorem lw_p64 : lw_okq (⟨"TwoWayGrammarModel", "alternative", "(I)V"⟩, 96) := ⟨⟨by decide +kernel, by decide +kernel⟩, tb_mem 1452 rfl, tb_mem 1894 rfl, tb_mem 1895 rfl⟩
theorem lw_p65 : lw_okq (⟨"TwoWayGrammarModel", "line", "(I)I"⟩, 96) := ⟨⟨by decide +kernel, by decide +kernel⟩, tb_mem 1452 rfl, tb_mem 1898 rfl, tb_mem 1899 rfl⟩
theorem lw_p66 : lw_okq (⟨"TwoWayGrammarModel", "isVoid", "(I)Z"⟩, 96) := ⟨⟨by decide +kernel, by decide +kernel⟩, tb_mem 1452 rfl, tb_mem 1902 rfl, tb_mem 1903 rfl⟩
theorem lw_p67 : lw_okq (⟨"TwoWayGrammarModel", "formOf", "(I)V"⟩, 96) := ⟨⟨by decide +kernel, by decide +kernel⟩, tb_mem 1452 rfl, tb_mem 1906 rfl, tb_mem 1907 rfl⟩
theorem lw_p68 : lw_okq (⟨"TwoWayGrammarModel", "behind", "(IJ)V"⟩, 96) := ⟨⟨by decide +kernel, by decide +kernel⟩, tb_mem 1452 rfl, tb_mem 1910 rfl, tb_mem 1911 rfl⟩
theorem lw_p69 : lw_okq (⟨"TwoWayGrammarModel", "check", "()I"⟩, 96) := ⟨⟨by decide +kernel, by decide +kernel⟩, tb_mem 1452 rfl, tb_mem 1914 rfl, tb_mem 1915 rfl⟩
theorem lw_p70 : lw_okq (⟨"TwoWayGrammarModel", "least", "(III)I"⟩, 96) := ⟨⟨by decide +kernel, by decide +kernel⟩, tb_mem 1452 rfl, tb_mem 1918 rfl, tb_mem 1919 rfl⟩
theorem lw_p71 : lw_okq (⟨"TwoWayGrammarModel", "directors", "(II)J"⟩, 96) := ⟨⟨by decide +kernel, by decide +kernel⟩, tb_mem 1452 rfl, tb_mem 1922 rfl, tb_mem 1923 rfl⟩
theorem lw_p72 : lw_okq (⟨"TwoWayGrammarModel", "walk", "(I)V"⟩, 96) := ⟨⟨by decide +kernel, by decide +kernel⟩, tb_mem 1452 rfl, tb_mem 1934 rfl, tb_mem 1935 rfl⟩
theorem lw_p73 : lw_okq (⟨"TwoWayGrammarModel", "enter", "(I)V"⟩, 96) := ⟨⟨by decide +kernel, by decide +kernel⟩, tb_mem 1452 rfl, tb_mem 1938 rfl, tb_mem 1939 rfl⟩
theorem lw_p74 : lw_okq (⟨"TwoWayGrammarModel", "comes", "(IJ)I"⟩, 96) := ⟨⟨by decide +kernel, by decide +kernel⟩, tb_mem 1452 rfl, tb_mem 1942 rfl, tb_mem 1943 rfl⟩
theorem lw_p75 : lw_okq (⟨"TwoWayGrammarModel", "push", "(III)V"⟩, 96) := ⟨⟨by decide +kernel, by decide +kernel⟩, tb_mem 1452 rfl, tb_mem 1946 rfl, tb_mem 1947 rfl⟩
theorem lw_p76 : lw_okq (⟨"TwoWayGrammarModel", "unit", "(IZ)V"⟩, 96) := ⟨⟨by decide +kernel, by decide +kernel⟩, tb_mem 1452 rfl, tb_mem 1951 rfl, tb_mem 1952 rfl⟩
theorem lw_p77 : lw_okq (⟨"TwoWayGrammarModel", "draw", "(I)I"⟩, 96) := ⟨⟨by decide +kernel, by decide +kernel⟩, tb_mem 1452 rfl, tb_mem 1955 rfl, tb_mem 1956 rfl⟩
theorem lw_p78 : lw_okq (⟨"TwoWayGrammarModel", "has", "(J)Z"⟩, 96) := ⟨⟨by decide +kernel, by decide +kernel⟩, tb_mem 1452 rfl, tb_mem 1961 rfl, tb_mem 1962 rfl⟩
theorem lw_p79 : lw_okq (⟨"TwoWayGrammarModel", "single", "(I)V"⟩, 96) := ⟨⟨by decide +kernel, by decide +kernel⟩, tb_mem 1452 rfl, tb_mem 1965 rfl, tb_mem 1966 rfl⟩
def lw_privs_5 : List (MethodName × Nat) := [(⟨"TwoWayGrammarModel", "alternative", "(I)V"⟩, 96), (⟨"TwoWayGrammarModel", "line", "(I)I"⟩, 96), (⟨"TwoWayGrammarModel", "isVoid", "(I)Z"⟩, 96), (⟨"TwoWayGrammarModel", "formOf", "(I)V"⟩, 96), (⟨"TwoWayGrammarModel", "behind", "(IJ)V"⟩, 96), (⟨"TwoWayGrammarModel", "check", "()I"⟩, 96), (⟨"TwoWayGrammarModel", "least", "(III)I"⟩, 96), (⟨"TwoWayGrammarModel", "directors", "(II)J"⟩, 96), (⟨"TwoWayGrammarModel", "walk", "(I)V"⟩, 96), (⟨"TwoWayGrammarModel", "enter", "(I)V"⟩, 96), (⟨"TwoWayGrammarModel", "comes", "(IJ)I"⟩, 96), (⟨"TwoWayGrammarModel", "push", "(III)V"⟩, 96), (⟨"TwoWayGrammarModel", "unit", "(IZ)V"⟩, 96), (⟨"TwoWayGrammarModel", "draw", "(I)I"⟩, 96), (⟨"TwoWayGrammarModel", "has", "(J)Z"⟩, 96), (⟨"TwoWayGrammarModel", "single", "(I)V"⟩, 96)]
theorem lw_r5 : ∀ q ∈ lw_privs_5, lw_okq q := List.forall_mem_cons.mpr ⟨lw_p64, List.forall_mem_cons.mpr ⟨lw_p65, List.forall_mem_cons.mpr ⟨lw_p66, List.forall_mem_cons.mpr ⟨lw_p67, List.forall_mem_cons.mpr ⟨lw_p68, List.forall_mem_cons.mpr ⟨lw_p69, List.forall_mem_cons.mpr ⟨lw_p70, List.forall_mem_cons.mpr ⟨lw_p71, List.forall_mem_cons.mpr ⟨lw_p72, List.forall_mem_cons.mpr ⟨lw_p73, List.forall_mem_cons.mpr ⟨lw_p74, List.forall_mem_cons.mpr ⟨lw_p75, List.forall_mem_cons.mpr ⟨lw_p76, List.forall_mem_cons.mpr ⟨lw_p77, List.forall_mem_cons.mpr ⟨lw_p78, List.forall_mem_cons.mpr ⟨lw_p79, fun _ h => absurd h List.not_mem_nil⟩⟩⟩⟩⟩⟩⟩⟩⟩⟩⟩⟩⟩⟩⟩⟩
theorem lw_p80 : lw_okq (⟨"TwoWayGrammarModel", "match", "(I)V"⟩, 96) := ⟨⟨by decide +kernel, by decide +kernel⟩, tb_mem 1452 rfl, tb_mem 1969 rfl, tb_mem 1970 rfl⟩
theorem lw_p81 : lw_okq (⟨"TwoWayGrammarModel", "grown", "(I)V"⟩, 96) := ⟨⟨by decide +kernel, by decide +kernel⟩, tb_mem 1452 rfl, tb_mem 1974 rfl, tb_mem 1975 rfl⟩
theorem lw_p82 : lw_okq (⟨"TwoWayGrammarModel", "keywordOf", "(J)I"⟩, 96) := ⟨⟨by decide +kernel, by decide +kernel⟩, tb_mem 1452 rfl, tb_mem 1978 rfl, tb_mem 1979 rfl⟩
theorem lw_p83 : lw_okq (⟨"TwoWayGrammarModel", "shown", "(I)V"⟩, 96) := ⟨⟨by decide +kernel, by decide +kernel⟩, tb_mem 1452 rfl, tb_mem 1983 rfl, tb_mem 1984 rfl⟩
theorem lw_p84 : lw_okq (⟨"TwoWayGrammarModel", "letters2", "(J)V"⟩, 96) := ⟨⟨by decide +kernel, by decide +kernel⟩, tb_mem 1452 rfl, tb_mem 1987 rfl, tb_mem 1988 rfl⟩
theorem lw_p85 : lw_okq (⟨"TwoWayGrammarModel", "between", "(I)V"⟩, 96) := ⟨⟨by decide +kernel, by decide +kernel⟩, tb_mem 1452 rfl, tb_mem 1992 rfl, tb_mem 1993 rfl⟩
theorem lw_p86 : lw_okq (⟨"TwoWayGrammarModel", "write", "(I)V"⟩, 96) := ⟨⟨by decide +kernel, by decide +kernel⟩, tb_mem 1452 rfl, tb_mem 1996 rfl, tb_mem 1997 rfl⟩
theorem lw_p87 : lw_okq (⟨"TwoWayGrammarModel", "layout", "(I)V"⟩, 96) := ⟨⟨by decide +kernel, by decide +kernel⟩, tb_mem 1452 rfl, tb_mem 2003 rfl, tb_mem 2004 rfl⟩
theorem lw_p88 : lw_okq (⟨"TwoWayGrammarModel", "choose", "(I)V"⟩, 96) := ⟨⟨by decide +kernel, by decide +kernel⟩, tb_mem 1452 rfl, tb_mem 2007 rfl, tb_mem 2008 rfl⟩
theorem lw_p89 : lw_okq (⟨"TwoWayGrammarModel", "directed", "(I)I"⟩, 96) := ⟨⟨by decide +kernel, by decide +kernel⟩, tb_mem 1452 rfl, tb_mem 2011 rfl, tb_mem 2012 rfl⟩
theorem lw_p90 : lw_okq (⟨"TwoWayGrammarModel", "lowest", "(I)I"⟩, 96) := ⟨⟨by decide +kernel, by decide +kernel⟩, tb_mem 1452 rfl, tb_mem 2015 rfl, tb_mem 2016 rfl⟩
theorem lw_p91 : lw_okq (⟨"TwoWayGrammarModel", "swap", "()V"⟩, 96) := ⟨⟨by decide +kernel, by decide +kernel⟩, tb_mem 1452 rfl, tb_mem 2019 rfl, tb_mem 2020 rfl⟩
theorem lw_p92 : lw_okq (⟨"TwoWayGrammarModel", "again", "(II)V"⟩, 96) := ⟨⟨by decide +kernel, by decide +kernel⟩, tb_mem 1452 rfl, tb_mem 2023 rfl, tb_mem 2024 rfl⟩
theorem lw_p93 : lw_okq (⟨"TwoWayGrammarModel", "tokenize", "()V"⟩, 96) := ⟨⟨by decide +kernel, by decide +kernel⟩, tb_mem 1452 rfl, tb_mem 2031 rfl, tb_mem 2032 rfl⟩
theorem lw_p94 : lw_okq (⟨"TwoWayGrammarModel", "signOf", "(I)I"⟩, 96) := ⟨⟨by decide +kernel, by decide +kernel⟩, tb_mem 1452 rfl, tb_mem 2037 rfl, tb_mem 2038 rfl⟩
theorem lw_p95 : lw_okq (⟨"TwoWayGrammarModel", "take", "()I"⟩, 96) := ⟨⟨by decide +kernel, by decide +kernel⟩, tb_mem 1452 rfl, tb_mem 2041 rfl, tb_mem 2042 rfl⟩
def lw_privs_6 : List (MethodName × Nat) := [(⟨"TwoWayGrammarModel", "match", "(I)V"⟩, 96), (⟨"TwoWayGrammarModel", "grown", "(I)V"⟩, 96), (⟨"TwoWayGrammarModel", "keywordOf", "(J)I"⟩, 96), (⟨"TwoWayGrammarModel", "shown", "(I)V"⟩, 96), (⟨"TwoWayGrammarModel", "letters2", "(J)V"⟩, 96), (⟨"TwoWayGrammarModel", "between", "(I)V"⟩, 96), (⟨"TwoWayGrammarModel", "write", "(I)V"⟩, 96), (⟨"TwoWayGrammarModel", "layout", "(I)V"⟩, 96), (⟨"TwoWayGrammarModel", "choose", "(I)V"⟩, 96), (⟨"TwoWayGrammarModel", "directed", "(I)I"⟩, 96), (⟨"TwoWayGrammarModel", "lowest", "(I)I"⟩, 96), (⟨"TwoWayGrammarModel", "swap", "()V"⟩, 96), (⟨"TwoWayGrammarModel", "again", "(II)V"⟩, 96), (⟨"TwoWayGrammarModel", "tokenize", "()V"⟩, 96), (⟨"TwoWayGrammarModel", "signOf", "(I)I"⟩, 96), (⟨"TwoWayGrammarModel", "take", "()I"⟩, 96)]
theorem lw_r6 : ∀ q ∈ lw_privs_6, lw_okq q := List.forall_mem_cons.mpr ⟨lw_p80, List.forall_mem_cons.mpr ⟨lw_p81, List.forall_mem_cons.mpr ⟨lw_p82, List.forall_mem_cons.mpr ⟨lw_p83, List.forall_mem_cons.mpr ⟨lw_p84, List.forall_mem_cons.mpr ⟨lw_p85, List.forall_mem_cons.mpr ⟨lw_p86, List.forall_mem_cons.mpr ⟨lw_p87, List.forall_mem_cons.mpr ⟨lw_p88, List.forall_mem_cons.mpr ⟨lw_p89, List.forall_mem_cons.mpr ⟨lw_p90, List.forall_mem_cons.mpr ⟨lw_p91, List.forall_mem_cons.mpr ⟨lw_p92, List.forall_mem_cons.mpr ⟨lw_p93, List.forall_mem_cons.mpr ⟨lw_p94, List.forall_mem_cons.mpr ⟨lw_p95, fun _ h => absurd h List.not_mem_nil⟩⟩⟩⟩⟩⟩⟩⟩⟩⟩⟩⟩⟩⟩⟩⟩
theorem lw_p96 : lw_okq (⟨"TwoWayGrammarModel", "levelOf", "(I)I"⟩, 96) := ⟨⟨by decide +kernel, by decide +kernel⟩, tb_mem 1452 rfl, tb_mem 2053 rfl, tb_mem 2054 rfl⟩
theorem lw_p97 : lw_okq (⟨"TwoWayGrammarModel", "isName", "(J)Z"⟩, 96) := ⟨⟨by decide +kernel, by decide +kernel⟩, tb_mem 1452 rfl, tb_mem 2062 rfl, tb_mem 2063 rfl⟩
def lw_privs_7 : List (MethodName × Nat) := [(⟨"TwoWayGrammarModel", "levelOf", "(I)I"⟩, 96), (⟨"TwoWayGrammarModel", "isName", "(J)Z"⟩, 96)]
theorem lw_r7 : ∀ q ∈ lw_privs_7, lw_okq q := List.forall_mem_cons.mpr ⟨lw_p96, List.forall_mem_cons.mpr ⟨lw_p97, fun _ h => absurd h List.not_mem_nil⟩⟩
def lw_privs : List (MethodName × Nat) := lw_privs_1 ++ (lw_privs_2 ++ (lw_privs_3 ++ (lw_privs_4 ++ (lw_privs_5 ++ (lw_privs_6 ++ (lw_privs_7))))))
def lw_tbl : List Cond := k2_sels lw_privs ++ tables_1
theorem lw_privs_ok : ∀ q ∈ lw_privs, lw_okq q := by
  show ∀ q ∈ lw_privs_1 ++ (lw_privs_2 ++ (lw_privs_3 ++ (lw_privs_4 ++ (lw_privs_5 ++ (lw_privs_6 ++ (lw_privs_7)))))), lw_okq q
  exact List.forall_mem_append.mpr ⟨lw_r1, List.forall_mem_append.mpr ⟨lw_r2, List.forall_mem_append.mpr ⟨lw_r3, List.forall_mem_append.mpr ⟨lw_r4, List.forall_mem_append.mpr ⟨lw_r5, List.forall_mem_append.mpr ⟨lw_r6, lw_r7⟩⟩⟩⟩⟩⟩
def lw_at (i : Nat) : Option Cond := bif Nat.ble 98 i then tb_at (Nat.sub i 98) else sm_at (k2_sels lw_privs) i
theorem lw_mem {w : Cond} (i : Nat) : lw_at i = some w → w ∈ lw_tbl := by
  unfold lw_at
  exact sm_bif (fun h => List.mem_append_right _ (tb_mem _ h)) (fun h => List.mem_append_left _ (sm_at_mem h))
/-! private methods of a class that is never made, on objects of its subclasses -/
theorem lx_priv {C C0 : String} {y y0 x0 : MethodName} {s : State} {args : Array Value} {n : Nat} (hy : y.cls ≠ "java/lang/invoke/MethodHandle" ∧ y.cls ≠ "java/lang/invoke/VarHandle")
    (hins : (Cond.instantiable C n).before args s = true) (hpriv : (Cond.privateMethod y).before args s = true) (hinst : (Cond.instanceMethod y).before args s = true) (hs0 : (Cond.selects C0 x0 y0).before args s = true) (h0 : y0.cls = y.cls) : (Cond.selects C y y).before args s = true := by
  obtain ⟨c, k, hc, hk, -, hniab, -, -⟩ := Cond.instantiable_spec hins
  obtain ⟨mk, methM, hnamed, hmethM, -, -⟩ := Cond.instanceMethod_spec hinst
  obtain ⟨c2, r2, m2, q1, q2, q3, q4, kP, hkP, hkPi⟩ := Cond.selects_spec hs0
  have e : m2.cls = mk.cls := by
    have e1 := findClass_of_methodNamed q3
    have e2 := findClass_of_methodNamed hnamed
    rw [h0, e2] at e1
    exact (Option.some.inj e1).symm
  rw [e] at hkP
  have hfound : s.methodFound? y.cls y.name y.desc = some mk := State.methodFound?_of_named hnamed hy
  have hsel : selectMethod {} s.vm c mk = .method mk := selectMethod_private hmethM (Cond.privateMethod_at hpriv mk methM hnamed hmethM)
  simp only [Cond.before, Cond.holds, Cond.value, hc, hfound, hnamed, hsel, hkP]
  simp; exact hkPi
def lx_sel : List Cond := [Cond.selects "TwoWayGrammar$Growing" ⟨"TwoWayGrammar$Walk", "walkUse", "(II)V"⟩ ⟨"TwoWayGrammar$Walk", "walkUse", "(II)V"⟩, Cond.selects "TwoWayGrammar$Parsing" ⟨"TwoWayGrammar$Walk", "walkUse", "(II)V"⟩ ⟨"TwoWayGrammar$Walk", "walkUse", "(II)V"⟩, Cond.selects "TwoWayGrammar$Printing" ⟨"TwoWayGrammar$Walk", "walkUse", "(II)V"⟩ ⟨"TwoWayGrammar$Walk", "walkUse", "(II)V"⟩, Cond.selects "TwoWayGrammar$Growing" ⟨"TwoWayGrammar$Walk", "walkForm", "(II)V"⟩ ⟨"TwoWayGrammar$Walk", "walkForm", "(II)V"⟩, Cond.selects "TwoWayGrammar$Parsing" ⟨"TwoWayGrammar$Walk", "walkForm", "(II)V"⟩ ⟨"TwoWayGrammar$Walk", "walkForm", "(II)V"⟩, Cond.selects "TwoWayGrammar$Printing" ⟨"TwoWayGrammar$Walk", "walkForm", "(II)V"⟩ ⟨"TwoWayGrammar$Walk", "walkForm", "(II)V"⟩, Cond.selects "TwoWayGrammar$Growing" ⟨"TwoWayGrammar$Walk", "walkUnit", "(II)V"⟩ ⟨"TwoWayGrammar$Walk", "walkUnit", "(II)V"⟩, Cond.selects "TwoWayGrammar$Parsing" ⟨"TwoWayGrammar$Walk", "walkUnit", "(II)V"⟩ ⟨"TwoWayGrammar$Walk", "walkUnit", "(II)V"⟩, Cond.selects "TwoWayGrammar$Printing" ⟨"TwoWayGrammar$Walk", "walkUnit", "(II)V"⟩ ⟨"TwoWayGrammar$Walk", "walkUnit", "(II)V"⟩, Cond.selects "TwoWayGrammar$Growing" ⟨"TwoWayGrammar$Walk", "walkPart", "(II)V"⟩ ⟨"TwoWayGrammar$Walk", "walkPart", "(II)V"⟩, Cond.selects "TwoWayGrammar$Parsing" ⟨"TwoWayGrammar$Walk", "walkPart", "(II)V"⟩ ⟨"TwoWayGrammar$Walk", "walkPart", "(II)V"⟩, Cond.selects "TwoWayGrammar$Printing" ⟨"TwoWayGrammar$Walk", "walkPart", "(II)V"⟩ ⟨"TwoWayGrammar$Walk", "walkPart", "(II)V"⟩]
def lx_tbl : List Cond := lw_tbl ++ lx_sel
theorem lx_s0 {s : State} {args : Array Value} (h : ∀ w ∈ lw_tbl, w.before args s = true) : (Cond.selects "TwoWayGrammar$Growing" ⟨"TwoWayGrammar$Walk", "walkUse", "(II)V"⟩ ⟨"TwoWayGrammar$Walk", "walkUse", "(II)V"⟩).before args s = true := lx_priv (C0 := "TwoWayGrammar$Parsing") (x0 := ⟨"TwoWayGrammar$Parsing", "walk", "()V"⟩) (y0 := ⟨"TwoWayGrammar$Walk", "walk", "()V"⟩) (n := 8) ⟨by decide, by decide⟩ (h _ (lw_mem 496 rfl)) (h _ (lw_mem 1228 rfl)) (h _ (lw_mem 1229 rfl)) (h _ (lw_mem 1175 rfl)) rfl
theorem lx_s1 {s : State} {args : Array Value} (h : ∀ w ∈ lw_tbl, w.before args s = true) : (Cond.selects "TwoWayGrammar$Parsing" ⟨"TwoWayGrammar$Walk", "walkUse", "(II)V"⟩ ⟨"TwoWayGrammar$Walk", "walkUse", "(II)V"⟩).before args s = true := lx_priv (C0 := "TwoWayGrammar$Parsing") (x0 := ⟨"TwoWayGrammar$Parsing", "walk", "()V"⟩) (y0 := ⟨"TwoWayGrammar$Walk", "walk", "()V"⟩) (n := 12) ⟨by decide, by decide⟩ (h _ (lw_mem 423 rfl)) (h _ (lw_mem 1228 rfl)) (h _ (lw_mem 1229 rfl)) (h _ (lw_mem 1175 rfl)) rfl
theorem lx_s2 {s : State} {args : Array Value} (h : ∀ w ∈ lw_tbl, w.before args s = true) : (Cond.selects "TwoWayGrammar$Printing" ⟨"TwoWayGrammar$Walk", "walkUse", "(II)V"⟩ ⟨"TwoWayGrammar$Walk", "walkUse", "(II)V"⟩).before args s = true := lx_priv (C0 := "TwoWayGrammar$Parsing") (x0 := ⟨"TwoWayGrammar$Parsing", "walk", "()V"⟩) (y0 := ⟨"TwoWayGrammar$Walk", "walk", "()V"⟩) (n := 13) ⟨by decide, by decide⟩ (h _ (lw_mem 515 rfl)) (h _ (lw_mem 1228 rfl)) (h _ (lw_mem 1229 rfl)) (h _ (lw_mem 1175 rfl)) rfl
theorem lx_s3 {s : State} {args : Array Value} (h : ∀ w ∈ lw_tbl, w.before args s = true) : (Cond.selects "TwoWayGrammar$Growing" ⟨"TwoWayGrammar$Walk", "walkForm", "(II)V"⟩ ⟨"TwoWayGrammar$Walk", "walkForm", "(II)V"⟩).before args s = true := lx_priv (C0 := "TwoWayGrammar$Parsing") (x0 := ⟨"TwoWayGrammar$Parsing", "walk", "()V"⟩) (y0 := ⟨"TwoWayGrammar$Walk", "walk", "()V"⟩) (n := 8) ⟨by decide, by decide⟩ (h _ (lw_mem 496 rfl)) (h _ (lw_mem 1261 rfl)) (h _ (lw_mem 1262 rfl)) (h _ (lw_mem 1175 rfl)) rfl
theorem lx_s4 {s : State} {args : Array Value} (h : ∀ w ∈ lw_tbl, w.before args s = true) : (Cond.selects "TwoWayGrammar$Parsing" ⟨"TwoWayGrammar$Walk", "walkForm", "(II)V"⟩ ⟨"TwoWayGrammar$Walk", "walkForm", "(II)V"⟩).before args s = true := lx_priv (C0 := "TwoWayGrammar$Parsing") (x0 := ⟨"TwoWayGrammar$Parsing", "walk", "()V"⟩) (y0 := ⟨"TwoWayGrammar$Walk", "walk", "()V"⟩) (n := 12) ⟨by decide, by decide⟩ (h _ (lw_mem 423 rfl)) (h _ (lw_mem 1261 rfl)) (h _ (lw_mem 1262 rfl)) (h _ (lw_mem 1175 rfl)) rfl
theorem lx_s5 {s : State} {args : Array Value} (h : ∀ w ∈ lw_tbl, w.before args s = true) : (Cond.selects "TwoWayGrammar$Printing" ⟨"TwoWayGrammar$Walk", "walkForm", "(II)V"⟩ ⟨"TwoWayGrammar$Walk", "walkForm", "(II)V"⟩).before args s = true := lx_priv (C0 := "TwoWayGrammar$Parsing") (x0 := ⟨"TwoWayGrammar$Parsing", "walk", "()V"⟩) (y0 := ⟨"TwoWayGrammar$Walk", "walk", "()V"⟩) (n := 13) ⟨by decide, by decide⟩ (h _ (lw_mem 515 rfl)) (h _ (lw_mem 1261 rfl)) (h _ (lw_mem 1262 rfl)) (h _ (lw_mem 1175 rfl)) rfl
theorem lx_s6 {s : State} {args : Array Value} (h : ∀ w ∈ lw_tbl, w.before args s = true) : (Cond.selects "TwoWayGrammar$Growing" ⟨"TwoWayGrammar$Walk", "walkUnit", "(II)V"⟩ ⟨"TwoWayGrammar$Walk", "walkUnit", "(II)V"⟩).before args s = true := lx_priv (C0 := "TwoWayGrammar$Parsing") (x0 := ⟨"TwoWayGrammar$Parsing", "walk", "()V"⟩) (y0 := ⟨"TwoWayGrammar$Walk", "walk", "()V"⟩) (n := 8) ⟨by decide, by decide⟩ (h _ (lw_mem 496 rfl)) (h _ (lw_mem 1313 rfl)) (h _ (lw_mem 1314 rfl)) (h _ (lw_mem 1175 rfl)) rfl
theorem lx_s7 {s : State} {args : Array Value} (h : ∀ w ∈ lw_tbl, w.before args s = true) : (Cond.selects "TwoWayGrammar$Parsing" ⟨"TwoWayGrammar$Walk", "walkUnit", "(II)V"⟩ ⟨"TwoWayGrammar$Walk", "walkUnit", "(II)V"⟩).before args s = true := lx_priv (C0 := "TwoWayGrammar$Parsing") (x0 := ⟨"TwoWayGrammar$Parsing", "walk", "()V"⟩) (y0 := ⟨"TwoWayGrammar$Walk", "walk", "()V"⟩) (n := 12) ⟨by decide, by decide⟩ (h _ (lw_mem 423 rfl)) (h _ (lw_mem 1313 rfl)) (h _ (lw_mem 1314 rfl)) (h _ (lw_mem 1175 rfl)) rfl
theorem lx_s8 {s : State} {args : Array Value} (h : ∀ w ∈ lw_tbl, w.before args s = true) : (Cond.selects "TwoWayGrammar$Printing" ⟨"TwoWayGrammar$Walk", "walkUnit", "(II)V"⟩ ⟨"TwoWayGrammar$Walk", "walkUnit", "(II)V"⟩).before args s = true := lx_priv (C0 := "TwoWayGrammar$Parsing") (x0 := ⟨"TwoWayGrammar$Parsing", "walk", "()V"⟩) (y0 := ⟨"TwoWayGrammar$Walk", "walk", "()V"⟩) (n := 13) ⟨by decide, by decide⟩ (h _ (lw_mem 515 rfl)) (h _ (lw_mem 1313 rfl)) (h _ (lw_mem 1314 rfl)) (h _ (lw_mem 1175 rfl)) rfl
theorem lx_s9 {s : State} {args : Array Value} (h : ∀ w ∈ lw_tbl, w.before args s = true) : (Cond.selects "TwoWayGrammar$Growing" ⟨"TwoWayGrammar$Walk", "walkPart", "(II)V"⟩ ⟨"TwoWayGrammar$Walk", "walkPart", "(II)V"⟩).before args s = true := lx_priv (C0 := "TwoWayGrammar$Parsing") (x0 := ⟨"TwoWayGrammar$Parsing", "walk", "()V"⟩) (y0 := ⟨"TwoWayGrammar$Walk", "walk", "()V"⟩) (n := 8) ⟨by decide, by decide⟩ (h _ (lw_mem 496 rfl)) (h _ (lw_mem 1317 rfl)) (h _ (lw_mem 1318 rfl)) (h _ (lw_mem 1175 rfl)) rfl
theorem lx_s10 {s : State} {args : Array Value} (h : ∀ w ∈ lw_tbl, w.before args s = true) : (Cond.selects "TwoWayGrammar$Parsing" ⟨"TwoWayGrammar$Walk", "walkPart", "(II)V"⟩ ⟨"TwoWayGrammar$Walk", "walkPart", "(II)V"⟩).before args s = true := lx_priv (C0 := "TwoWayGrammar$Parsing") (x0 := ⟨"TwoWayGrammar$Parsing", "walk", "()V"⟩) (y0 := ⟨"TwoWayGrammar$Walk", "walk", "()V"⟩) (n := 12) ⟨by decide, by decide⟩ (h _ (lw_mem 423 rfl)) (h _ (lw_mem 1317 rfl)) (h _ (lw_mem 1318 rfl)) (h _ (lw_mem 1175 rfl)) rfl
theorem lx_s11 {s : State} {args : Array Value} (h : ∀ w ∈ lw_tbl, w.before args s = true) : (Cond.selects "TwoWayGrammar$Printing" ⟨"TwoWayGrammar$Walk", "walkPart", "(II)V"⟩ ⟨"TwoWayGrammar$Walk", "walkPart", "(II)V"⟩).before args s = true := lx_priv (C0 := "TwoWayGrammar$Parsing") (x0 := ⟨"TwoWayGrammar$Parsing", "walk", "()V"⟩) (y0 := ⟨"TwoWayGrammar$Walk", "walk", "()V"⟩) (n := 13) ⟨by decide, by decide⟩ (h _ (lw_mem 515 rfl)) (h _ (lw_mem 1317 rfl)) (h _ (lw_mem 1318 rfl)) (h _ (lw_mem 1175 rfl)) rfl
theorem lx_hts {s : State} {args : Array Value} (h : ∀ w ∈ lw_tbl, w.before args s = true) : ∀ w ∈ lx_tbl, w.before args s = true := by
  intro w hw
  rcases List.mem_append.mp hw with hw | hw
  · exact h w hw
  · have hall : ∀ w ∈ lx_sel, w.before args s = true := List.forall_mem_cons.mpr ⟨lx_s0 h, List.forall_mem_cons.mpr ⟨lx_s1 h, List.forall_mem_cons.mpr ⟨lx_s2 h, List.forall_mem_cons.mpr ⟨lx_s3 h, List.forall_mem_cons.mpr ⟨lx_s4 h, List.forall_mem_cons.mpr ⟨lx_s5 h, List.forall_mem_cons.mpr ⟨lx_s6 h, List.forall_mem_cons.mpr ⟨lx_s7 h, List.forall_mem_cons.mpr ⟨lx_s8 h, List.forall_mem_cons.mpr ⟨lx_s9 h, List.forall_mem_cons.mpr ⟨lx_s10 h, List.forall_mem_cons.mpr ⟨lx_s11 h, fun _ h => absurd h List.not_mem_nil⟩⟩⟩⟩⟩⟩⟩⟩⟩⟩⟩⟩
    exact hall w hw
/-! THE SMALL MACHINE. A machine of our own over pictures of the cells: a cell is known by its place in a list, a reference is such a place.
A run of it is a run of the JVM (part 11); all that is said of the programs is said of it. -/
/-- a cell: an array (the number of its class in 'tys', its contents), or an object (the number of its class in 'classes', its fields) -/
abbrev sm_E : Type := (Nat × vp_A) ⊕ (Nat × List Value)
abbrev sm_H : Type := List sm_E
abbrev sm_L : Type := List (Option Value)
/-- an instruction, its length, what its operand names (resolved) -/
abbrev sm_I : Type := Instr × Nat × List Nat
/-- a local -/
def sm_lget (ls : sm_L) (i : Nat) : Option Value := match ls[i]? with
  | some (some v) => some v
  | _ => none
/-- a store at i breaks a long that ends there -/
def sm_kill (ls : sm_L) (i : Nat) : sm_L := match i with
  | 0 => ls
  | j + 1 => match ls[j]? with
    | some (some v) => if v.category = 2 then ls.set j none else ls
    | _ => ls
def sm_put1 (ls : sm_L) (i : Nat) (v : Value) : Option sm_L := if i < ls.length then some ((sm_kill ls i).set i (some v)) else none
def sm_put2 (ls : sm_L) (i : Nat) (v : Value) : Option sm_L := if i + 1 < ls.length then some (((sm_kill ls i).set i (some v)).set (i + 1) none) else none
def sm_jmp (pc : Nat) (off : Int) : Nat := ((pc : Int) + off).toNat
def sm_cmp (c : ClassFile.Cond) (x y : Int32) : Bool := match c with
  | .eq => decide (x = y)
  | .ne => !decide (x = y)
  | .lt => decide (x < y)
  | .ge => decide (y ≤ x)
  | .gt => decide (y < x)
  | .le => decide (x ≤ y)
/-- where one instruction leads: on; the method's answer; a call (method, arguments, what lies below them) -/
abbrev sm_R : Type := (Nat × sm_L × List Value × sm_H) ⊕ (Option Value ⊕ (Nat × List Value × List Value))
def sm_nx (pc : Nat) (ls : sm_L) (st : List Value) (h : sm_H) : Option sm_R := some (.inl (pc, ls, st, h))
def sm_ret (v : Option Value) : Option sm_R := some (.inr (.inl v))
def sm_call (m : Nat) (as rest : List Value) : Option sm_R := some (.inr (.inr (m, as, rest)))
/-- so many cells at the front of a picture were there before the law began, and are never written -/
def sm_C : Nat := 51
/-- a value fits a field of a kind: 0 int, 1 long, 2 reference, 3 boolean, 4 char -/
def sm_fit (t : Nat) (v : Value) : Bool := match t, v with
  | 0, .int _ => true
  | 1, .long _ => true
  | 2, .ref _ => true
  | 2, .null => true
  | 3, .int x => decide (x = 0 ∨ x = 1)
  | 4, .int x => decide (0 ≤ x ∧ x ≤ 65535)
  | _, _ => false
def sm_dflt (t : Nat) : Value := match t with
  | 1 => .long 0
  | 2 => .null
  | _ => .int 0
/-- an index of an array of n places -/
def sm_ix (x : Int32) (n : Nat) : Bool := decide (¬ x < 0 ∧ x.toNatClampNeg < n)
def sm_args (n : Nat) (st : List Value) : Option (List Value × List Value) := if n ≤ st.length then some ((st.take n).reverse, st.drop n) else none
/-- the method that a class number has in a list [class, method, class, method ..] -/
def sm_pick (ci : Nat) : List Nat → Option Nat
  | c :: m :: r => if c = ci then some m else sm_pick ci r
  | _ => none
def sm_bin (f : Int32 → Int32 → Int32) (pc : Nat) (ls : sm_L) (st : List Value) (h : sm_H) : Option sm_R := match st with
  | .int y :: .int x :: r => sm_nx (pc + 1) ls (.int (f x y) :: r) h
  | _ => none
def sm_binL (f : Int64 → Int64 → Int64) (pc : Nat) (ls : sm_L) (st : List Value) (h : sm_H) : Option sm_R := match st with
  | .long y :: .long x :: r => sm_nx (pc + 1) ls (.long (f x y) :: r) h
  | _ => none
def sm_isI (v : Value) : Bool := match v with | .int _ => true | _ => false
def sm_isL (v : Value) : Bool := match v with | .long _ => true | _ => false
def sm_isA (v : Value) : Bool := match v with | .ref _ => true | _ => false
def sm_loadK (k : Value → Bool) (n i pc : Nat) (ls : sm_L) (st : List Value) (h : sm_H) : Option sm_R := match sm_lget ls i with
  | some v => if k v then sm_nx (pc + n) ls (v :: st) h else none
  | none => none
def sm_store1 (k : Value → Bool) (n i pc : Nat) (ls : sm_L) (st : List Value) (h : sm_H) : Option sm_R := match st with
  | v :: r => if k v then (sm_put1 ls i v).bind (fun ls' => sm_nx (pc + n) ls' r h) else none
  | _ => none
def sm_store2 (n i pc : Nat) (ls : sm_L) (st : List Value) (h : sm_H) : Option sm_R := match st with
  | .long v :: r => (sm_put2 ls i (.long v)).bind (fun ls' => sm_nx (pc + n) ls' r h)
  | _ => none
/-- the array classes' numbers -/
def sm_ty (t : Nat) : Option FieldType := match t with
  | 0 => some .int
  | 1 => some .long
  | 2 => some .char
  | 3 => some .boolean
  | 4 => some .byte
  | _ => none
/-- an element of an array of class number t, of ints -/
def sm_ald (t pc : Nat) (ls : sm_L) (st : List Value) (h : sm_H) : Option sm_R := match st with
  | .int i :: .ref a :: r => match h[a]? with
    | some (.inl (t', n, .inl f)) => if t' = t ∧ sm_ix i n ∧ (sm_C ≤ a ∨ t = 0 ∨ t = 4) then sm_nx (pc + 1) ls (.int (f i.toNatClampNeg) :: r) h else none
    | _ => none
  | _ => none
def sm_ast (t : Nat) (g : Int32 → Int32) (pc : Nat) (ls : sm_L) (st : List Value) (h : sm_H) : Option sm_R := match st with
  | .int x :: .int i :: .ref a :: r => match h[a]? with
    | some (.inl (t', n, .inl f)) => if t' = t ∧ sm_ix i n ∧ sm_C ≤ a then sm_nx (pc + 1) ls r (h.set a (.inl (t', n, .inl (upd f i.toNatClampNeg (g x))))) else none
    | _ => none
  | _ => none
def sm_aldL (pc : Nat) (ls : sm_L) (st : List Value) (h : sm_H) : Option sm_R := match st with
  | .int i :: .ref a :: r => match h[a]? with
    | some (.inl (t', n, .inr (.inl f))) => if t' = 1 ∧ sm_ix i n ∧ sm_C ≤ a then sm_nx (pc + 1) ls (.long (f i.toNatClampNeg) :: r) h else none
    | _ => none
  | _ => none
def sm_astL (pc : Nat) (ls : sm_L) (st : List Value) (h : sm_H) : Option sm_R := match st with
  | .long x :: .int i :: .ref a :: r => match h[a]? with
    | some (.inl (t', n, .inr (.inl f))) => if t' = 1 ∧ sm_ix i n ∧ sm_C ≤ a then sm_nx (pc + 1) ls r (h.set a (.inl (t', n, .inr (.inl (vp_updL f i.toNatClampNeg x))))) else none
    | _ => none
  | _ => none
/-- a char of an int -/
def sm_chr (x : Int32) : Int32 := (x.toUInt32 % 65536).toInt32
/-- getfield: rs = [field, 0, classes that the object may have ..], or [field, 1, class] of an object that was there before -/
def sm_getf (rs : List Nat) (pc : Nat) (ls : sm_L) (st : List Value) (h : sm_H) : Option sm_R := match st, rs with
  | .ref a :: r, k :: z :: cs => match h[a]? with
    | some (.inr (ci, fs)) => if ci ∈ cs ∧ ((z = 0 ∧ sm_C ≤ a) ∨ (z ≠ 0 ∧ a < sm_C)) then (match fs[k]? with
      | some v => sm_nx (pc + 3) ls (v :: r) h
      | none => none) else none
    | _ => none
  | _, _ => none
/-- putfield: rs = [field, its kind, final, classes ..] -/
def sm_putf (rs : List Nat) (pc : Nat) (ls : sm_L) (st : List Value) (h : sm_H) : Option sm_R := match st, rs with
  | v :: .ref a :: r, k :: t :: _ :: cs => match h[a]? with
    | some (.inr (ci, fs)) => if ci ∈ cs ∧ k < fs.length ∧ sm_fit t v ∧ sm_C ≤ a then sm_nx (pc + 3) ls r (h.set a (.inr (ci, fs.set k v))) else none
    | _ => none
  | _, _ => none
/-- new: rs = [class, kinds of its fields ..]; [1000, class] begins 'throw new ..' -/
def sm_newo (rs : List Nat) (pc : Nat) (ls : sm_L) (st : List Value) (h : sm_H) : Option sm_R := match rs with
  | ci :: ts => if ci = 1000 then none else sm_nx (pc + 3) ls (.ref h.length :: st) (h ++ [.inr (ci, ts.map sm_dflt)])
  | _ => none
/-- newarray: rs = [class number of the array] -/
def sm_newa (rs : List Nat) (pc : Nat) (ls : sm_L) (st : List Value) (h : sm_H) : Option sm_R := match st, rs with
  | .int n :: r, [t] => if ¬ n < 0 ∧ n.toNatClampNeg ≤ 65536 then
      sm_nx (pc + 2) ls (.ref h.length :: r) (h ++ [.inl (t, n.toNatClampNeg, if t = 1 then .inr (.inl (fun _ => 0)) else .inl (fun _ => 0))]) else none
  | _, _ => none
/-- a call of a method that is known: rs = [kind, method, number of arguments (with the object)]; of Math.max and Math.min (which the JVM's model knows itself) rs = [7, 0], [7, 1]; of String.checkIndex within its range rs = [8, 0, 0, 0] -/
def sm_callS (rs : List Nat) (st : List Value) : Option sm_R := match rs with
  | [_, m, n] => match sm_args n st with
    | some (as, r) => sm_call m as r
    | none => none
  | _ => none
/-- .. of a constructor -/
def sm_callI (rs : List Nat) (st : List Value) : Option sm_R := match rs with
  | [_, m, n] => match sm_args n st with
    | some (.ref a :: as, r) => sm_call m (.ref a :: as) r
    | _ => none
  | _ => none
/-- a call by the object's class: rs = [kind, number of arguments (without the object), class, method, class, method ..] -/
def sm_callV (rs : List Nat) (st : List Value) (h : sm_H) : Option sm_R := match rs with
  | _ :: n :: ps => match sm_args (n + 1) st with
    | some (.ref a :: as, r) => match h[a]? with
      | some (.inr (ci, _)) => match sm_pick ci ps with
        | some m => sm_call m (.ref a :: as) r
        | none => none
      | _ => none
    | _ => none
  | _ => none
def sm_if (b : Bool) (pc : Nat) (off : Int) (ls : sm_L) (r : List Value) (h : sm_H) : Option sm_R := sm_nx (if b then sm_jmp pc off else pc + 3) ls r h
/-- one instruction -/
def sm_step (q : sm_I) (pc : Nat) (ls : sm_L) (st : List Value) (h : sm_H) : Option sm_R := match q with
  | (i, len, rs) => match i with
    | .iconst n => sm_nx (pc + 1) ls (.int (Int32.ofInt n) :: st) h
    | .bipush n => sm_nx (pc + 2) ls (.int (Int8.ofInt n).toInt32 :: st) h
    | .sipush n => sm_nx (pc + 3) ls (.int (Int16.ofInt n).toInt32 :: st) h
    | .lconst n => sm_nx (pc + 1) ls (.long (Int64.ofNat (n : Nat)) :: st) h
    | .aconst_null => sm_nx (pc + 1) ls (.null :: st) h
    | .ldc _ => match rs with
      | [0, n] => sm_nx (pc + 2) ls (.int (Int32.ofNat n) :: st) h
      | [1, n] => sm_nx (pc + 2) ls (.ref n :: st) h
      | _ => none
    | .ldc_w _ => match rs with
      | [0, n] => sm_nx (pc + 3) ls (.int (Int32.ofNat n) :: st) h
      | _ => none
    | .ldc2_w _ => match rs with
      | [n] => sm_nx (pc + 3) ls (.long (Int64.ofNat n) :: st) h
      | _ => none
    | .iload_n k => sm_loadK sm_isI 1 k pc ls st h
    | .iload k => sm_loadK sm_isI 2 k pc ls st h
    | .lload_n k => sm_loadK sm_isL 1 k pc ls st h
    | .lload k => sm_loadK sm_isL 2 k pc ls st h
    | .aload_n k => sm_loadK sm_isA 1 k pc ls st h
    | .aload k => sm_loadK sm_isA 2 k pc ls st h
    | .istore_n k => sm_store1 sm_isI 1 k pc ls st h
    | .istore k => sm_store1 sm_isI 2 k pc ls st h
    | .astore_n k => sm_store1 sm_isA 1 k pc ls st h
    | .astore k => sm_store1 sm_isA 2 k pc ls st h
    | .lstore_n k => sm_store2 1 k pc ls st h
    | .lstore k => sm_store2 2 k pc ls st h
    | .iinc k n => match sm_lget ls k with
      | some (.int x) => (sm_put1 ls k (.int (x + Int32.ofInt n))).bind (fun ls' => sm_nx (pc + 3) ls' st h)
      | _ => none
    | .iadd => sm_bin (· + ·) pc ls st h
    | .isub => sm_bin (· - ·) pc ls st h
    | .imul => sm_bin (· * ·) pc ls st h
    | .iand => sm_bin (· &&& ·) pc ls st h
    | .ior => sm_bin (· ||| ·) pc ls st h
    | .ixor => sm_bin (· ^^^ ·) pc ls st h
    | .ishl => sm_bin (fun x y => x <<< (y &&& 31)) pc ls st h
    | .ishr => sm_bin (fun x y => x >>> (y &&& 31)) pc ls st h
    | .iushr => sm_bin (fun x y => (x.toUInt32 >>> (y.toUInt32 &&& Int32.toUInt32 31)).toInt32) pc ls st h
    | .idiv => match st with
      | .int y :: .int x :: r => if y = 0 then none else sm_nx (pc + 1) ls (.int (x / y) :: r) h
      | _ => none
    | .irem => match st with
      | .int y :: .int x :: r => if y = 0 then none else sm_nx (pc + 1) ls (.int (x - x / y * y) :: r) h
      | _ => none
    | .ineg => match st with
      | .int x :: r => sm_nx (pc + 1) ls (.int (-x) :: r) h
      | _ => none
    | .ladd => sm_binL (· + ·) pc ls st h
    | .lsub => sm_binL (· - ·) pc ls st h
    | .lmul => sm_binL (· * ·) pc ls st h
    | .land => sm_binL (· &&& ·) pc ls st h
    | .lor => sm_binL (· ||| ·) pc ls st h
    | .lxor => sm_binL (· ^^^ ·) pc ls st h
    | .lrem => match st with
      | .long y :: .long x :: r => if y = 0 then none else sm_nx (pc + 1) ls (.long (x - x / y * y) :: r) h
      | _ => none
    | .ldiv => match st with
      | .long y :: .long x :: r => if y = 0 then none else sm_nx (pc + 1) ls (.long (x / y) :: r) h
      | _ => none
    | .lushr => match st with
      | .int y :: .long x :: r => sm_nx (pc + 1) ls (.long (x.toUInt64 >>> (y.toInt64.toUInt64 &&& Int64.toUInt64 63)).toInt64 :: r) h
      | _ => none
    | .lshl => match st with
      | .int y :: .long x :: r => sm_nx (pc + 1) ls (.long (x <<< (y.toInt64 &&& 63)) :: r) h
      | _ => none
    | .lshr => match st with
      | .int y :: .long x :: r => sm_nx (pc + 1) ls (.long (x >>> (y.toInt64 &&& 63)) :: r) h
      | _ => none
    | .lcmp => match st with
      | .long y :: .long x :: r => sm_nx (pc + 1) ls (.int (lg_cmp x y) :: r) h
      | _ => none
    | .i2l => match st with
      | .int x :: r => sm_nx (pc + 1) ls (.long x.toInt64 :: r) h
      | _ => none
    | .l2i => match st with
      | .long x :: r => sm_nx (pc + 1) ls (.int x.toInt32 :: r) h
      | _ => none
    | .i2c => match st with
      | .int x :: r => sm_nx (pc + 1) ls (.int (sm_chr x) :: r) h
      | _ => none
    | .i2b => match st with
      | .int x :: r => sm_nx (pc + 1) ls (.int x.toInt8.toInt32 :: r) h
      | _ => none
    | .dup => match st with
      | v :: r => if v.category = 1 then sm_nx (pc + 1) ls (v :: v :: r) h else none
      | _ => none
    | .pop => match st with
      | v :: r => if v.category = 1 then sm_nx (pc + 1) ls r h else none
      | _ => none
    | .dup_x1 => match st with
      | v :: w :: r => if v.category = 1 ∧ w.category = 1 then sm_nx (pc + 1) ls (v :: w :: v :: r) h else none
      | _ => none
    | .dup_x2 => match st with
      | v :: w :: u :: r => if v.category = 1 ∧ w.category = 1 ∧ u.category = 1 then sm_nx (pc + 1) ls (v :: w :: u :: v :: r) h else none
      | _ => none
    | .dup2 => match st with
      | .long x :: r => sm_nx (pc + 1) ls (.long x :: .long x :: r) h
      | v :: w :: r => if v.category = 1 ∧ w.category = 1 then sm_nx (pc + 1) ls (v :: w :: v :: w :: r) h else none
      | _ => none
    | .pop2 => match st with
      | .long _ :: r => sm_nx (pc + 1) ls r h
      | v :: w :: r => if v.category = 1 ∧ w.category = 1 then sm_nx (pc + 1) ls r h else none
      | _ => none
    | .if_icmp c off => match st with
      | .int y :: .int x :: r => sm_if (sm_cmp c x y) pc off ls r h
      | _ => none
    | .ifCond c off => match st with
      | .int x :: r => sm_if (sm_cmp c x 0) pc off ls r h
      | _ => none
    | .goto off => sm_nx (sm_jmp pc off) ls st h
    | .tableswitch d lo hi offs => match st with
      | .int x :: r => if x.toInt < lo ∨ hi < x.toInt then sm_nx (sm_jmp pc d) ls r h else (match offs[(x.toInt - lo).toNat]? with
        | some off => sm_nx (sm_jmp pc off) ls r h
        | none => none)
      | _ => none
    | .arraylength => match st with
      | .ref a :: r => match h[a]? with
        | some (.inl (t, n, _)) => if (sm_ty t).isSome then sm_nx (pc + 1) ls (.int (Int32.ofNat n) :: r) h else none
        | _ => none
      | _ => none
    | .iaload => sm_ald 0 pc ls st h
    | .caload => sm_ald 2 pc ls st h
    | .baload => match sm_ald 3 pc ls st h with
      | some r => some r
      | none => sm_ald 4 pc ls st h
    | .iastore => sm_ast 0 (fun x => x) pc ls st h
    | .bastore => sm_ast 3 (fun x => x &&& 1) pc ls st h
    | .castore => sm_ast 2 sm_chr pc ls st h
    | .laload => sm_aldL pc ls st h
    | .lastore => sm_astL pc ls st h
    | .getstatic _ => match rs with
      | [n] => sm_nx (pc + 3) ls (.int (Int32.ofNat n) :: st) h
      | _ => none
    | .getfield _ => sm_getf rs pc ls st h
    | .putfield _ => sm_putf rs pc ls st h
    | .new _ => sm_newo rs pc ls st h
    | .newarray _ => sm_newa rs pc ls st h
    | .invokestatic _ => match rs with
      | [_, k] => match st with
        | .int y :: .int x :: r => if (r.map fun v => v.category).sum ≤ 8 then sm_nx (pc + 3) ls (.int (if k = 0 then (if x < y then y else x) else (if y < x then y else x)) :: r) h else none
        | _ => none
      | [_, _, _, _] => match st with
        | .int n :: .int i :: r => if ¬ i < 0 ∧ i < n ∧ (r.map fun v => v.category).sum ≤ 8 then sm_nx (pc + 3) ls r h else none
        | _ => none
      | _ => sm_callS rs st
    | .invokespecial _ => match rs with
      | [_] => match st with
        | .ref _ :: r => if (r.map fun v => v.category).sum ≤ 8 then sm_nx (pc + 3) ls r h else none
        | _ => none
      | _ => sm_callI rs st
    | .invokevirtual _ => sm_callV rs st h
    | .ireturn => match st with
      | [.int v] => sm_ret (some (.int v))
      | _ => none
    | .lreturn => match st with
      | [.long v] => sm_ret (some (.long v))
      | _ => none
    | .areturn => match st with
      | [.ref v] => sm_ret (some (.ref v))
      | _ => none
    | .return_ => match st with
      | [] => sm_ret none
      | _ => none
    | _ => none
/-- a method: how many locals, the kind of its answer (0 none, 1 int, 2 long, 3 reference, 4 boolean, 5 char, 6 byte), its instructions by their places -/
abbrev sm_M : Type := Nat × Nat × List (Option sm_I)
/-- the locals at the start -/
def sm_slots : List Value → sm_L
  | [] => []
  | v :: vs => if v.category = 2 then some v :: none :: sm_slots vs else some v :: sm_slots vs
def sm_entry (n : Nat) (as : List Value) : sm_L := sm_slots as ++ List.replicate (n - (sm_slots as).length) none
/-- an answer of a kind -/
def sm_okret (k : Nat) (v : Option Value) : Bool := match k, v with
  | 0, none => true
  | 1, some (.int _) => true
  | 2, some (.long _) => true
  | 3, some (.ref _) => true
  | 4, some (.int x) => decide (x = 0 ∨ x = 1)
  | 5, some (.int x) => decide (0 ≤ x ∧ x ≤ 65535)
  | 6, some (.int x) => decide (x = 0 ∨ x = 1)
  | _, _ => false
/-- what is pushed of an answer -/
def sm_back (v : Option Value) (r : List Value) : List Value := match v with
  | some x => x :: r
  | none => r
/-- a run: n the steps, d the depth of calls that is left -/
def sm_run (P : Nat → Option sm_M) : Nat → Nat → Nat → Nat → sm_L → List Value → sm_H → Option (Option Value × sm_H)
  | 0, _, _, _, _, _, _ => none
  | n + 1, d, m, pc, ls, st, h => match P m with
    | none => none
    | some (_, k, tab) => match tab[pc]? with
      | some (some q) => match sm_step q pc ls st h with
        | some (.inl (pc', ls', st', h')) => sm_run P n d m pc' ls' st' h'
        | some (.inr (.inl v)) => if sm_okret k v then some (v, h) else none
        | some (.inr (.inr (m', as, r))) => match d, P m' with
          | d' + 1, some (nl, _, _) => if (sm_slots as).length ≤ nl ∧ (r.map fun v => v.category).sum ≤ 8 then (match sm_run P n d' m' 0 (sm_entry nl as) [] h with
            | some (v, h') => sm_run P n d m (pc + 3) ls (sm_back v r) h'
            | none => none) else none
          | _, _ => none
        | none => none
      | _ => none
/-! PICTURES AND HEAPS: what the small machine's state says of the JVM's. N0: the heap's size when the law began; cs: where the text constants lie. -/
def sm_mv (ad : Nat → Nat) (v : Value) : Value := match v with
  | .ref k => .ref (ad k)
  | .int x => .int x
  | .long x => .long x
  | .float x => .float x
  | .double x => .double x
  | .null => .null
  | .retAddr x => .retAddr x
def sm_ad (N0 : Nat) (cs : Nat → Nat) (k : Nat) : Nat := if k < sm_C then cs k else N0 + (k - sm_C)
def sm_me (ad : Nat → Nat) (tys : List (ClassId × FieldType)) (e : sm_E) : va_E := match e with
  | .inl (t, a) => .inl ((tys.getD t (0, .int)).1, a)
  | .inr (ci, fs) => .inr (ci, fs.map (sm_mv ad))
/-- the heap holds the picture; K: the cells that were there before -/
def sm_P (D : va_G) (cl : List vw_C) (tys : List (ClassId × FieldType)) (N0 : Nat) (cs : Nat → Nat) (K : sm_H) (h : sm_H) (H : Heap) : Prop :=
  H.size + sm_C = N0 + h.length ∧ sm_C ≤ h.length ∧ (∀ k, k < sm_C → cs k < N0 ∧ h[k]? = K[k]?) ∧ ∀ (k : Nat) (e : sm_E), sm_C ≤ k → h[k]? = some e → va_at D cl (sm_ad N0 cs k, sm_me (sm_ad N0 cs) tys e) H
/-- the locals hold the picture -/
def sm_LR (ad : Nat → Nat) (ls : sm_L) (LS : Array Slot) : Prop := LS.size = ls.length ∧ lv_wf LS ∧ ∀ (i : Nat) (v : Value), ls[i]? = some (some v) → LS[i]? = some (.val (sm_mv ad v))
theorem sm_cat (ad : Nat → Nat) (v : Value) : (sm_mv ad v).category = v.category := by cases v <;> rfl
theorem sm_ad_ge {N0 : Nat} {cs : Nat → Nat} {k : Nat} (h : sm_C ≤ k) : sm_ad N0 cs k = N0 + (k - sm_C) := if_neg (by omega)
theorem sm_ad_lt {N0 : Nat} {cs : Nat → Nat} {k : Nat} (h : k < sm_C) : sm_ad N0 cs k = cs k := if_pos h
def sm_al (ad : Nat → Nat) (ls : sm_L) : List (Nat × Value) := ls.zipIdx.filterMap (fun q => q.1.map (fun v => (q.2, sm_mv ad v)))
theorem sm_al_mem {ad : Nat → Nat} {ls : sm_L} {q : Nat × Value} : q ∈ sm_al ad ls ↔ ∃ v, ls[q.1]? = some (some v) ∧ q.2 = sm_mv ad v := by
  unfold sm_al
  rw [List.mem_filterMap]
  constructor
  · rintro ⟨⟨o, i⟩, h1, h2⟩
    have h3 := List.mem_zipIdx_iff_getElem?.mp h1
    cases o with
    | none => simp at h2
    | some v =>
      simp at h2
      obtain ⟨rfl⟩ := h2
      exact ⟨v, h3, rfl⟩
  · rintro ⟨v, h1, h2⟩
    refine ⟨(some v, q.1), List.mem_zipIdx_iff_getElem?.mpr h1, ?_⟩
    simp [← h2]
theorem sm_LR.has {ad : Nat → Nat} {ls : sm_L} {LS : Array Slot} (h : sm_LR ad ls LS) : lv_has LS ls.length (sm_al ad ls) :=
  ⟨h.1, h.2.1, fun q hq => by
    obtain ⟨v, h1, h2⟩ := sm_al_mem.mp hq
    rw [h2]
    exact h.2.2 _ _ h1⟩
theorem sm_lget_at {ad : Nat → Nat} {ls : sm_L} {LS : Array Slot} (h : sm_LR ad ls LS) {i : Nat} {v : Value} (hg : sm_lget ls i = some v) : LS[i]? = some (.val (sm_mv ad v)) := by
  unfold sm_lget at hg
  split at hg
  · next w hw => cases hg; exact h.2.2 _ _ hw
  · cases hg
theorem sm_kill_len (ls : sm_L) (i : Nat) : (sm_kill ls i).length = ls.length := by
  unfold sm_kill
  cases i with
  | zero => rfl
  | succ j =>
    dsimp only
    split
    · split <;> simp
    · rfl
theorem sm_kill_at {ls : sm_L} {i j : Nat} {w : Value} (h : (sm_kill ls i)[j]? = some (some w)) : ls[j]? = some (some w) ∧ ¬ (j + 1 = i ∧ w.category = 2) := by
  unfold sm_kill at h
  cases i with
  | zero => exact ⟨h, fun z => by omega⟩
  | succ k =>
    dsimp only at h
    split at h
    · next v hv =>
      split at h
      · next hc =>
        by_cases hjk : k = j
        · subst hjk
          have hl := (List.getElem?_eq_some_iff.mp hv).1
          rw [List.getElem?_set_self hl] at h
          cases h
        · rw [List.getElem?_set_ne hjk] at h
          exact ⟨h, fun z => by omega⟩
      · next hc =>
        refine ⟨h, fun z => ?_⟩
        have e : j = k := by omega
        subst e
        rw [hv] at h
        cases h
        exact hc z.2
    · next hno =>
      refine ⟨h, fun z => ?_⟩
      have e : j = k := by omega
      subst e
      exact hno _ h
theorem sm_put1_len {ls ls' : sm_L} {i : Nat} {v : Value} (h : sm_put1 ls i v = some ls') : i < ls.length ∧ ls' = (sm_kill ls i).set i (some v) := by
  unfold sm_put1 at h
  split at h
  · next hl => cases h; exact ⟨hl, rfl⟩
  · cases h
theorem sm_put2_len {ls ls' : sm_L} {i : Nat} {v : Value} (h : sm_put2 ls i v = some ls') : i + 1 < ls.length ∧ ls' = ((sm_kill ls i).set i (some v)).set (i + 1) none := by
  unfold sm_put2 at h
  split at h
  · next hl => cases h; exact ⟨hl, rfl⟩
  · cases h
theorem sm_LR.put1 {ad : Nat → Nat} {ls ls' : sm_L} {LS LS' : Array Slot} {i : Nat} {v : Value} (hp : sm_put1 ls i v = some ls')
    (h : lv_has LS' ls.length ((i, sm_mv ad v) :: (sm_al ad ls).filter (fun q => !(q.1 == i) && !(q.1 + 1 == i && q.2.category == 2)))) : sm_LR ad ls' LS' := by
  obtain ⟨hl, rfl⟩ := sm_put1_len hp
  refine ⟨by rw [h.1, List.length_set, sm_kill_len], h.2.1, fun j w hj => ?_⟩
  by_cases hji : i = j
  · subst hji
    rw [List.getElem?_set_self (by rw [sm_kill_len]; exact hl)] at hj
    cases hj
    exact h.2.2 _ List.mem_cons_self
  · rw [List.getElem?_set_ne hji] at hj
    obtain ⟨h1, h2⟩ := sm_kill_at hj
    refine h.2.2 (j, sm_mv ad w) (List.mem_cons_of_mem _ (List.mem_filter.mpr ⟨sm_al_mem.mpr ⟨w, h1, rfl⟩, ?_⟩))
    simp only [sm_cat]
    by_cases hc : w.category = 2
    · have : ¬ j + 1 = i := fun z => h2 ⟨z, hc⟩
      simp [hc, this, Ne.symm hji]
    · simp [hc, Ne.symm hji]
theorem sm_LR.put2 {ad : Nat → Nat} {ls ls' : sm_L} {LS LS' : Array Slot} {i : Nat} {v : Value} (hp : sm_put2 ls i v = some ls')
    (h : lv_has LS' ls.length ((i, sm_mv ad v) :: (sm_al ad ls).filter (fun q => !(q.1 == i) && (!(q.1 == i + 1) && !(q.1 + 1 == i && q.2.category == 2))))) : sm_LR ad ls' LS' := by
  obtain ⟨hl, rfl⟩ := sm_put2_len hp
  refine ⟨by rw [h.1, List.length_set, List.length_set, sm_kill_len], h.2.1, fun j w hj => ?_⟩
  by_cases hj1 : i + 1 = j
  · subst hj1
    rw [List.getElem?_set_self (by rw [List.length_set, sm_kill_len]; exact hl)] at hj
    cases hj
  · rw [List.getElem?_set_ne hj1] at hj
    by_cases hji : i = j
    · subst hji
      rw [List.getElem?_set_self (by rw [sm_kill_len]; omega)] at hj
      cases hj
      exact h.2.2 _ List.mem_cons_self
    · rw [List.getElem?_set_ne hji] at hj
      obtain ⟨h1, h2⟩ := sm_kill_at hj
      refine h.2.2 (j, sm_mv ad w) (List.mem_cons_of_mem _ (List.mem_filter.mpr ⟨sm_al_mem.mpr ⟨w, h1, rfl⟩, ?_⟩))
      simp only [sm_cat]
      by_cases hc : w.category = 2
      · have : ¬ j + 1 = i := fun z => h2 ⟨z, hc⟩
        simp [hc, this, Ne.symm hji, Ne.symm hj1]
      · simp [hc, Ne.symm hji, Ne.symm hj1]
theorem sm_entry_LR {ad : Nat → Nat} {as : List Value} {n : Nat} (h : (sm_slots as).length ≤ n) : sm_LR ad (sm_entry n as) ((lg_sl (as.map (sm_mv ad)) ++ List.replicate (n - (lg_sl (as.map (sm_mv ad))).length) Slot.unset).toArray) := by
  have key : ∀ vs : List Value, (lg_sl (vs.map (sm_mv ad))).length = (sm_slots vs).length ∧ ∀ (i : Nat) (v : Value), (sm_slots vs)[i]? = some (some v) → (lg_sl (vs.map (sm_mv ad)))[i]? = some (.val (sm_mv ad v)) := by
    intro vs
    induction vs with
    | nil => exact ⟨rfl, fun i v h => by simp [sm_slots] at h⟩
    | cons w vs ih =>
      obtain ⟨h1, h2⟩ := ih
      by_cases hc : w.category = 2
      · have e1 : lg_sl ((w :: vs).map (sm_mv ad)) = .val (sm_mv ad w) :: .second :: lg_sl (vs.map (sm_mv ad)) := by simp [lg_sl, sm_cat, hc]
        have e2 : sm_slots (w :: vs) = some w :: none :: sm_slots vs := by simp [sm_slots, hc]
        rw [e1, e2]
        refine ⟨by simp [h1], fun i v hi => ?_⟩
        match i, hi with
        | 0, hi => simp at hi; subst hi; rfl
        | 1, hi => simp at hi
        | i + 2, hi => exact h2 i v hi
      · have e1 : lg_sl ((w :: vs).map (sm_mv ad)) = .val (sm_mv ad w) :: lg_sl (vs.map (sm_mv ad)) := by simp [lg_sl, sm_cat, hc]
        have e2 : sm_slots (w :: vs) = some w :: sm_slots vs := by simp [sm_slots, hc]
        rw [e1, e2]
        refine ⟨by simp [h1], fun i v hi => ?_⟩
        match i, hi with
        | 0, hi => simp at hi; subst hi; rfl
        | i + 1, hi => exact h2 i v hi
  obtain ⟨h1, h2⟩ := key as
  have hen := lv_entry (as.map (sm_mv ad)) (n := n) (by rw [h1]; exact h)
  refine ⟨by rw [hen.1]; simp [sm_entry]; omega, hen.2.1, fun i v hi => ?_⟩
  unfold sm_entry at hi
  by_cases hl : i < (sm_slots as).length
  · rw [List.getElem?_append_left hl] at hi
    rw [List.getElem?_toArray, List.getElem?_append_left (by rw [h1]; exact hl)]
    exact h2 i v hi
  · rw [List.getElem?_append_right (by omega)] at hi
    have := List.eq_of_mem_replicate (List.mem_of_getElem? hi)
    cases this
/-! ROWS: what an instruction that writes or makes cells does to a picture -/
/-- the array classes, by their numbers -/
def sm_T (tys : List (ClassId × FieldType)) : Prop := ∀ (t : Nat) (ty : FieldType), sm_ty t = some ty → ∃ cA, tys[t]? = some (cA, ty)
/-- how many slots a cell has -/
def sm_sz (e : sm_E) : Nat := match e with
  | .inl (_, n, _) => n
  | .inr (_, fs) => fs.length
def sm_sl (h : sm_H) : Nat := (h.map sm_sz).sum
theorem sm_sl_app (h : sm_H) (e : sm_E) : sm_sl (h ++ [e]) = sm_sl h + sm_sz e := by simp [sm_sl]
theorem sm_sl_set {e e' : sm_E} (he : sm_sz e' = sm_sz e) : ∀ (h : sm_H) (k : Nat), h[k]? = some e → sm_sl (h.set k e') = sm_sl h := by
  intro h
  induction h with
  | nil => intro k hk; simp at hk
  | cons x h ih =>
    intro k hk
    cases k with
    | zero =>
      simp at hk
      subst hk
      simp [sm_sl, he]
    | succ k =>
      have := ih k (by simpa using hk)
      simp [sm_sl] at this ⊢
      exact this
section SMR
variable {p : Program} {l : Launch} {e : Env} {R : Room} {s : State} {m : MethodId} {args : Array Value} {below : List Frame} {meth : Method} {c : Code} {H : Heap} {locs : List Loc} {cells slots : Nat} {Q : State → Prop}
variable {cc : ByteArray} {pc : Nat} {ls : Array Slot} {rest : List Value} {D : va_G} {cl : List vw_C} {tys : List (ClassId × FieldType)} {N0 : Nat} {cs : Nat → Nat} {K h : sm_H}
/-- one cell is set to another picture -/
theorem sm_P.put {k : Nat} {e0 e1 : sm_E} {H1 : Heap} (hP : sm_P D cl tys N0 cs K h H) (hk : h[k]? = some e0) (hC : sm_C ≤ k) (ha : va_at D cl (sm_ad N0 cs k, sm_me (sm_ad N0 cs) tys e1) H1) (hz : H1.size = H.size) (ho : ∀ q, q ≠ sm_ad N0 cs k → H1[q]? = H[q]?) : sm_P D cl tys N0 cs K (h.set k e1) H1 := by
  refine ⟨by rw [hz, List.length_set]; exact hP.1, by rw [List.length_set]; exact hP.2.1, fun j hj => ⟨(hP.2.2.1 j hj).1, by rw [List.getElem?_set_ne (by omega)]; exact (hP.2.2.1 j hj).2⟩, fun j e hjC hj => ?_⟩
  by_cases hjk : k = j
  · subst hjk
    rw [List.getElem?_set_self (List.getElem?_eq_some_iff.mp hk).1] at hj
    cases hj
    exact ha
  · rw [List.getElem?_set_ne hjk] at hj
    refine (hP.2.2.2 j e hjC hj).kept (ho (sm_ad N0 cs j) ?_)
    rw [sm_ad_ge hC, sm_ad_ge hjC]
    omega
/-- one cell is made -/
theorem sm_P.make {e1 : sm_E} {H1 : Heap} (hP : sm_P D cl tys N0 cs K h H) (ha : va_at D cl (H.size, sm_me (sm_ad N0 cs) tys e1) H1) (hz : H1.size = H.size + 1) (ho : ∀ q, q < H.size → H1[q]? = H[q]?) : sm_P D cl tys N0 cs K (h ++ [e1]) H1 := by
  have hs := hP.1
  have hl := hP.2.1
  refine ⟨by rw [hz, List.length_append, List.length_singleton]; omega, by rw [List.length_append, List.length_singleton]; omega, fun j hj => ⟨(hP.2.2.1 j hj).1, by rw [List.getElem?_append_left (by omega)]; exact (hP.2.2.1 j hj).2⟩, fun j e hjC hj => ?_⟩
  by_cases hjl : j < h.length
  · rw [List.getElem?_append_left hjl] at hj
    exact (hP.2.2.2 j e hjC hj).kept (ho _ (hP.2.2.2 j e hjC hj).lt)
  · rw [List.getElem?_append_right (by omega)] at hj
    have hz2 : j - h.length < 1 := (List.getElem?_eq_some_iff.mp hj).1
    have hj0 : j = h.length := by omega
    subst hj0
    simp at hj
    subst hj
    rw [sm_ad_ge hl, show N0 + (h.length - sm_C) = H.size by omega]
    exact ha
theorem sm_top (hP : sm_P D cl tys N0 cs K h H) : H.size = sm_ad N0 cs h.length := by
  have hs := hP.1
  have hl := hP.2.1
  rw [sm_ad_ge hl]
  omega
theorem sm_fit_ok {t : Nat} {v : Value} {ad : Nat → Nat} {ty : FieldType} (hf : sm_fit t v = true)
    (ht : (t = 0 ∧ ty = .int) ∨ (t = 1 ∧ ty = .long) ∨ (t = 2 ∧ ((∃ n, ty = .object n) ∨ ∃ n, ty = .array n)) ∨ (t = 3 ∧ ty = .boolean) ∨ (t = 4 ∧ ty = .char)) : narrow ty (sm_mv ad v) = sm_mv ad v ∧ fits ty (sm_mv ad v) = true := by
  rcases ht with ⟨rfl, rfl⟩ | ⟨rfl, rfl⟩ | ⟨rfl, ⟨n, rfl⟩ | ⟨n, rfl⟩⟩ | ⟨rfl, rfl⟩ | ⟨rfl, rfl⟩
  · cases v <;> simp [sm_fit] at hf <;> exact ⟨rfl, rfl⟩
  · cases v <;> simp [sm_fit] at hf <;> exact ⟨rfl, rfl⟩
  · cases v <;> simp [sm_fit] at hf <;> exact ⟨rfl, rfl⟩
  · cases v <;> simp [sm_fit] at hf <;> exact ⟨rfl, rfl⟩
  · cases v with
    | int x =>
      simp [sm_fit] at hf
      rcases hf with rfl | rfl <;> exact ⟨rfl, rfl⟩
    | _ => simp [sm_fit] at hf
  · cases v with
    | int x =>
      simp [sm_fit] at hf
      obtain ⟨j, hj, rfl⟩ := nI_of2 (x := x) (M := 65535) (n := 65535) (by decide) (Int32.not_lt.mpr hf.1) hf.2
      exact pk_charN (by omega)
    | _ => simp [sm_fit] at hf
theorem sm_Wput (hexec : p.tables.exec = Jvm.exec) (hb : c.code = cc) {own ref C : String} {T : u_T} {N ci index : Nat} {Ts : List Cond} (hts : ∀ w ∈ Ts, w.before args s = true) (hin : ∀ w ∈ u_ws C T N, w ∈ Ts) (ty0 : Nat → FieldType) (hty : ∀ k, k < N → parseFieldDescriptor (T k).2.2.1 = some (ty0 k)) (hnm : ∀ a, a < N → ∀ b, b < N → a ≠ b → (T a).2.1 ≠ (T b).2.1) (hown : s.vm.findClass own = some m.cls) (hK : va_K D cl tys s) {a : Nat} {fs : List Value} (he : va_at D cl (a, .inr (ci, fs)) H) (hc : cl[ci]? = some (C, T, N)) (k : Nat) (hk : k < N) (hlink : (Cond.fieldLink own index ref (T k).2.1 (T k).2.2.1).before args s = true) (hsame : ∀ x, s.fieldFound? (T k).1 (T k).2.1 (T k).2.2.1 = some x → s.fieldFound? ref (T k).2.1 (T k).2.2.1 = some x) (hfin : (T k).2.2.2 = false ∨ ((T k).2.2.2 = true ∧ meth.name = "<init>" ∧ (T k).1 = own)) {v : Value} (hn : narrow (ty0 k) v = v) (hfit : fits (ty0 k) v = true) (hl : k < fs.length)
    (hdg : decode cc pc = .ok (.putfield index, 3)) (kk : ∀ (H1 : Heap) (j : Nat), va_at D cl (a, .inr (ci, fs.set k v)) H1 → H1.size = H.size → (∀ q, q ≠ a → H1[q]? = H[q]?) → W p l e R s m args below meth c H1 (locs ++ [⟨a, j⟩]) cells slots Q (F0 m (pc + 3) ls rest)) : W p l e R s m args below meth c H locs cells slots Q (F0 m pc ls (v :: .ref a :: rest)) := by
  have hap := va_apart (own := own) hts hin ty0 hty hnm hK hc
  have hd := hty k hk
  obtain ⟨r, h1, cell, q1, q2, q3, q4⟩ := he
  have hr : r = (C, T, N) := Option.some.inj (h1.symm.trans hc)
  subst hr
  obtain ⟨hS, hfc, kC, hkC, hkind⟩ := hK.1 ci _ hc
  obtain ⟨cf, kf, fi, f, hi, hsl⟩ := hS k hk
  have hlay := hts _ (hin _ (u_in_lay hk))
  have hst := (u_facts hfc hkC (u_lays hts hin hk) hi).1
  have last : ∀ H' : Heap, H'[a]? = some (cell.setSlot (D.2 ci k) v) → va_at D cl (a, .inr (ci, fs.set k v)) H' := fun H' e1 => ⟨_, hc, t_OB.to (V := updV (vp_V fs) k v) ⟨_, e1, q2, q3, t_set q4 hap hk v⟩ (fun j _ => vp_updV_set hl v j)⟩
  rcases hfin with hfin | ⟨hfin, hin2, hdecl⟩
  · unfold u_lay at hlay
    rw [if_neg (by rw [hfin]; decide)] at hlay
    have h6 := u_store hfc hkC hkind hlay hi hd hn hfit
    refine W.putK hexec hb (f := f) ⟨hown, hlink, ⟨_, _, _, hsame _ hi⟩, hst⟩ (by rw [q2]; exact h6) q1 q3 (by rw [hsl]; exact k2_hasslot (q4 k hk)) rfl rfl hdg fun H' e1 e2 e3 => ?_
    rw [hsl] at e1 ⊢
    exact kk H' _ (last H' e1) e2 e3
  · unfold u_lay at hlay
    rw [if_pos hfin] at hlay
    have hcf : m.cls = cf := by
      obtain ⟨_, _, c', _, _, _, -, -, hf', -, -, -, hown2, -⟩ := Cond.laysFinal_spec hlay
      have e1 : c' = cf := by have := hi.symm.trans hf'; simp at this; exact this.1.symm
      rw [hdecl] at hown2
      rw [← e1]; exact Option.some.inj (hown.symm.trans hown2)
    have h6 := u_fits hfc hkC hkind (Or.inr hlay) hi hd hn hfit
    refine W.putFinK hexec hb hown hlink (hsame _ hi) hst hcf hin2 (by rw [q2]; exact h6) q1 q3 (by rw [hsl]; exact k2_hasslot (q4 k hk)) rfl rfl hdg fun H' e1 e2 e3 => ?_
    rw [hsl] at e1 ⊢
    exact kk H' _ (last H' e1) e2 e3
theorem sm_in {x : Int32} {n : Nat} (h : sm_ix x n = true) : vp_in x n := by
  simp [sm_ix] at h
  intro z
  rcases z with z | z
  · exact absurd z (Int32.not_lt.mpr h.1)
  · omega
theorem sm_upd_i (cA : ClassId) (n k : Nat) (f : Nat → Int32) (x : Int32) : (vp_cell cA (n, .inl f)).setSlot k (.int x) = vp_cell cA (n, .inl (upd f k x)) := by
  rw [vp_cell_i, vp_cell_i, arrV_store]
  congr 1
  funext q
  by_cases hq : q = k
  · subst hq
    simp [updV, upd]
  · simp [updV, upd, hq]
theorem sm_upd_l (cA : ClassId) (n k : Nat) (f : Nat → Int64) (x : Int64) : (vp_cell cA (n, .inr (.inl f))).setSlot k (.long x) = vp_cell cA (n, .inr (.inl (vp_updL f k x))) := by
  rw [vp_cell_l, vp_cell_l, arrV_store]
  congr 1
  funext q
  by_cases hq : q = k
  · subst hq
    simp [updV, vp_updL]
  · simp [updV, vp_updL, hq]
theorem sm_tys {t : Nat} {ty : FieldType} (hT : sm_T tys) (ht : sm_ty t = some ty) : tys[t]? = some ((tys.getD t (0, .int)).1, ty) := by
  obtain ⟨cA, hc⟩ := hT t ty ht
  rw [hc, List.getD_eq_getElem?_getD, hc]
  rfl
theorem sm_nchr (x : Int32) : narrow .char (.int x) = .int (sm_chr x) := congrArg Value.int (lg_i2c_nf x).symm
end SMR
/-! STRING.CHECKINDEX within its range. It reads a static of which no more is known than that it is a reference or null: so it is a step of its own, by a contract. -/
def sm_yS : MethodName := ⟨"java/lang/String", "checkIndex", "(II)V"⟩
def sm_yP : MethodName := ⟨"jdk/internal/util/Preconditions", "checkIndex", "(IILjava/util/function/BiFunction;)I"⟩
def sm_cS : ByteArray := ⟨#[0x1a, 0x1b, 0xb2, 0x04, 0x1d, 0xb8, 0x04, 0x23, 0x57, 0xb1]⟩
def sm_cP : ByteArray := ⟨#[0x1a, 0x9b, 0x00, 0x08, 0x1a, 0x1b, 0xa1, 0x00, 0x0a, 0x2c, 0x1a, 0x1b, 0xb8, 0x00, 0x5f, 0xbf, 0x1a, 0xac]⟩
/-- the static, among what was there before -/
def sm_Zs (N0 : Nat) (U : State) : Prop := va_Zq "jdk/internal/util/Preconditions" "SIOOBE_FORMATTER" "Ljava/util/function/BiFunction;" (fun a => N0 ≤ a) U U.heap
def sm_wP : List Cond := [Cond.code sm_yP sm_cP 3 (some .int)]
def sm_wS : List Cond := [Cond.code sm_yS sm_cS 2 none, .fieldLink "java/lang/String" 1053 "jdk/internal/util/Preconditions" "SIOOBE_FORMATTER" "Ljava/util/function/BiFunction;", .methodLink "java/lang/String" 1059 sm_yP, .static sm_yP, .initialized sm_yP.cls, Cond.code sm_yP sm_cP 3 (some .int)]
def sm_rP : Room := { frames := 0, cells := 0, slots := 0, locals := 0 }
def sm_rS : Room := { frames := 1, cells := 0, slots := 0, locals := 22 }
section SMCHK
variable {l : Launch}
def sm_PP : Array Value → State → Prop := fun v _ => ∃ (i n : Int32) (w : Value), v = [.int i, .int n, w].toArray ∧ ¬ i < 0 ∧ i < n
def sm_QP : Array Value → State → Outcome → State → Prop := fun v s o t => (∃ x, v[0]? = some x ∧ o = .returned (some x)) ∧ t.heap = s.heap
theorem sm_metP : Met l sm_yP sm_wP sm_rP sm_PP sm_QP 0 0 (fun _ => False) := by
  refine Met.ofW (cc := sm_cP) (maxL := 3) (ret := some .int) (by decide +kernel) rfl ?_
  intro p e s m args below meth c s₁ B hml hv
  obtain ⟨i, n, w, rfl, h0, hn⟩ := hv
  rw [lg_entry_eq]
  refine lv_iload_n (k := 0) (i := 0) (x := i) B.exec B.bytes (by decide +kernel) rfl rfl ?_
  refine lv_if_lt (tgt := 9) B.exec B.bytes (off := 8) (by decide +kernel) (by decide) (fun z => absurd z h0) (fun _ => ?_)
  refine lv_iload_n (k := 0) (i := 0) (x := i) B.exec B.bytes (by decide +kernel) rfl rfl ?_
  refine lv_iload_n (k := 1) (i := 1) (x := n) B.exec B.bytes (by decide +kernel) rfl rfl ?_
  refine lv_icmp_lt (tgt := 16) B.exec B.bytes (off := 10) (by decide +kernel) (by decide) (fun _ => ?_) (fun z => absurd hn z)
  refine lv_iload_n (k := 0) (i := 0) (x := i) B.exec B.bytes (by decide +kernel) rfl rfl ?_
  exact W.iret B.exec B.bytes B.returns (fun t ht _ => ⟨⟨_, rfl, rfl⟩, ht⟩) (fun q hq => by cases hq) (by decide +kernel) (hlocks := B.notSynchronized)
def sm_PS (N0 : Nat) : Array Value → State → Prop := fun v U => ∃ (i n : Int32), v = [.int i, .int n].toArray ∧ ¬ i < 0 ∧ i < n ∧ sm_Zs N0 U
def sm_QS : Array Value → State → Outcome → State → Prop := fun _ s o t => o = .returned none ∧ t.heap = s.heap
theorem sm_PPb : FrameBlind sm_PP := fun _ _ _ _ q => q
theorem sm_goodP : GoodIn sm_wS sm_wP := fun w hw => by
  rw [List.mem_singleton.mp hw]
  exact ⟨by simp [sm_wS], good_of_word (by decide +kernel)⟩
theorem sm_metS {N0 : Nat} : Met l sm_yS sm_wS sm_rS (sm_PS N0) sm_QS 0 0 (fun _ => False) := by
  refine Met.ofW (cc := sm_cS) (maxL := 2) (ret := none) (by decide +kernel) rfl ?_
  intro p e s m args below meth c s₁ B hml hv
  obtain ⟨i, n, rfl, h0, hn, hZ⟩ := hv
  have hts := atoms_spec (ws := sm_wS) B.pre
  have hown := findClass_of_methodNamed B.named
  rw [lg_entry_eq]
  refine lv_iload_n (k := 0) (i := 0) (x := i) B.exec B.bytes (by decide +kernel) rfl rfl ?_
  refine lv_iload_n (k := 1) (i := 1) (x := n) B.exec B.bytes (by decide +kernel) rfl rfl ?_
  have hSS : va_S (fun a => N0 ≤ a) s.heap s.heap [] := ⟨Nat.le_refl _, fun _ _ _ => rfl, fun x hx => by cases hx⟩
  have key : ∀ v : Value, W p l e (headSpec sm_wS sm_rS).room s m [Value.int i, Value.int n].toArray below meth c s.heap [] 0 0 (MQ below sm_QS [Value.int i, Value.int n].toArray s 0 0 (fun _ => False)) (F0 m 5 ((lg_sl [Value.int i, Value.int n] ++ List.replicate (2 - (lg_sl [Value.int i, Value.int n]).length) Slot.unset).toArray) [v, .int n, .int i]) := by
    intro v
    have hrun := va_runS (l := l) (p := p) (e := e) (R := (headSpec sm_wS sm_rS).room) (below := below) (meth := meth) (H := s.heap) (locs := []) (cells := 0) (slots := 0) (As := [.int i, .int n, v]) (rest := []) (index := 1059) (g := F0 m 5 ((lg_sl [Value.int i, Value.int n] ++ List.replicate (2 - (lg_sl [Value.int i, Value.int n]).length) Slot.unset).toArray) [v, .int n, .int i]) (own := "java/lang/String") (cc := sm_cS) (nL := 2) (Ts := sm_wS) ⟨B.exec, B.bytes, hml, hown, hts⟩ (sm_metP (l := l)) ⟨callB_of 3 hts sm_goodP rfl rfl rfl (hts _ (by simp [sm_wS])) (hts _ (by simp [sm_wS])) ⟨by decide, by decide, by decide +kernel⟩ ⟨by decide, by decide⟩, hts _ (by simp [sm_wS])⟩ ⟨sm_PPb, fun U _ _ => ⟨i, n, v, rfl, h0, hn⟩⟩ rfl rfl rfl rfl (show 2 * 0 + 0 ≤ 8 by decide) (show decode sm_cS 5 = .ok (.invokestatic 1059, 3) by decide +kernel) ⟨Nat.le_refl _, Nat.le_refl _⟩
    intro T hT X
    obtain ⟨v', st₀, t, T', L, e0, X', hL, e1, e2, ⟨⟨x, hx, hv⟩, hh⟩, st⟩ := hrun T hT X
    cases hv
    cases hx
    have hLn : L = [] := List.eq_nil_iff_forall_not_mem.mpr fun q hq => hL q hq
    subst hLn
    have hheap : T'.heap = s.heap := by rw [e1, hh, e0]
    have kk : W p l e (headSpec sm_wS sm_rS).room s m [Value.int i, Value.int n].toArray below meth c s.heap [] 0 0 (MQ below sm_QS [Value.int i, Value.int n].toArray s 0 0 (fun _ => False)) (F0 m 8 ((lg_sl [Value.int i, Value.int n] ++ List.replicate (2 - (lg_sl [Value.int i, Value.int n]).length) Slot.unset).toArray) [.int i]) := by
      refine lv_pop B.exec B.bytes (by decide +kernel) rfl ?_
      exact W.vret B.exec B.bytes B.returns (fun t ht _ => ⟨rfl, ht⟩) (fun q hq => by cases hq) (by decide +kernel) (hlocks := B.notSynchronized)
    obtain ⟨t2, a1, b1⟩ := kk T' hheap X'
    exact ⟨t2, st t2 a1, b1⟩
  rcases hZ with hZ | ⟨t, hZ⟩
  · exact va_gets B.exec B.bytes hZ hSS hown (hts (.fieldLink "java/lang/String" 1053 "jdk/internal/util/Preconditions" "SIOOBE_FORMATTER" "Ljava/util/function/BiFunction;") (by simp [sm_wS])) (fun x hx => hx) (by decide +kernel) (key _)
  · exact va_gets B.exec B.bytes hZ hSS hown (hts (.fieldLink "java/lang/String" 1053 "jdk/internal/util/Preconditions" "SIOOBE_FORMATTER" "Ljava/util/function/BiFunction;") (by simp [sm_wS])) (fun x hx => hx) (by decide +kernel) (key _)
variable {p : Program} {e : Env} {R : Room} {s : State} {m : MethodId} {args : Array Value} {below : List Frame} {meth : Method} {c : Code} {H : Heap} {locs : List Loc} {cells slots : Nat} {Q : State → Prop} {cc : ByteArray} {pc N0 : Nat} {LS : Array Slot} {rest : List Value} {Ts : List Cond} {own : String} {index : Nat}
theorem sm_PSb : FrameBlind (sm_PS N0) := fun a U g mk q => by
  obtain ⟨i, n, h1, h2, h3, h4⟩ := q
  exact ⟨i, n, h1, h2, h3, va_Zq.moved (u := U) (U := U.calling g mk a) (Vm.Alike.refl U.vm) h4⟩
theorem sm_goodS (hin : ∀ w ∈ sm_wS, w ∈ Ts) : GoodIn Ts sm_wS := fun w hw => ⟨hin w hw, good_of_word (by
  have h : sm_wS.all goodWord = true := by decide +kernel
  exact List.all_eq_true.mp h w hw)⟩
/-- the step -/
theorem sm_chk (hexec : p.tables.exec = Jvm.exec) (hb : c.code = cc) (hml : c.maxLocals = LS.size) (hown : s.vm.findClass own = some m.cls) (hts : ∀ w ∈ Ts, w.before args s = true) (hin : ∀ w ∈ sm_wS, w ∈ Ts) (hlink : Cond.methodLink own index sm_yS ∈ Ts) (hstat : Cond.static sm_yS ∈ Ts) (hini : Cond.initialized "java/lang/String" ∈ Ts) (hZ : sm_Zs N0 s) (hF : ∀ q, q < N0 → H[q]? = s.heap[q]?)
    (hR : 2 ≤ R.frames ∧ 43 ≤ R.locals) (hc : cells ≤ R.cells) (hsl : slots ≤ R.slots) {i n : Int32} (h0 : ¬ i < 0) (hn : i < n) (hW : (rest.map fun v => v.category).sum ≤ 8) (hdg : decode cc pc = .ok (.invokestatic index, 3))
    (kk : W p l e R s m args below meth c H locs cells slots Q (F0 m (pc + 3) LS rest)) : W p l e R s m args below meth c H locs cells slots Q (F0 m pc LS (.int n :: .int i :: rest)) := by
  have hrun := va_runS (l := l) (p := p) (e := e) (R := R) (below := below) (meth := meth) (H := H) (locs := locs) (cells := cells) (slots := slots) (As := [.int i, .int n]) (rest := rest) (index := index) (g := F0 m pc LS (.int n :: .int i :: rest)) (own := own) (cc := cc) (nL := LS.size) (Ts := Ts) ⟨hexec, hb, hml, hown, hts⟩ (sm_metS (l := l) (N0 := N0)) ⟨callB_of 2 hts (sm_goodS hin) rfl rfl rfl (hts _ hini) (hts _ hlink) ⟨by decide, by decide, by decide +kernel⟩ ⟨hR.1, hR.2⟩, hts _ hstat⟩ ⟨sm_PSb, fun U hU hW => ⟨i, n, rfl, h0, hn, va_Zq.moved hW.alike (va_Zq.kept hZ (fun a _ h2 => by rw [hU]; exact hF a (Nat.not_le.mp h2)))⟩⟩ rfl rfl rfl rfl (by show 2 * 0 + _ ≤ 8; omega) hdg ⟨hc, hsl⟩
  intro T hT X
  obtain ⟨v', st₀, t, T', L, e0, X', hL, e1, e2, ⟨hv, hh⟩, st⟩ := hrun T hT X
  cases hv
  have hLn : L = [] := List.eq_nil_iff_forall_not_mem.mpr fun q hq => hL q hq
  subst hLn
  rw [List.append_nil] at X'
  obtain ⟨t2, a1, b1⟩ := kk T' (by rw [e1, hh, e0]) X'
  exact ⟨t2, st t2 a1, b1⟩
end SMCHK
