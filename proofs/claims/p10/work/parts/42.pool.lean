def sp_12_1 : List ((Nat × Nat) × List Nat) := [((1, 162), [0, 0, 2]), ((1, 282), [18, 0, 2]), ((4, 104), [1000, 12]), ((6, 106), [1, 9]), ((11, 111), [0, 1, 0, 96]), ((11, 115), [0, 1, 1, 91]), ((11, 123), [0, 0, 1, 90]), ((4, 126), [1000, 13]), ((6, 128), [1, 10]), ((6, 131), [1, 11]), ((6, 133), [1, 12]), ((6, 135), [1, 13]), ((11, 137), [0, 1, 1, 99]), ((4, 157), [1000, 14]), ((6, 159), [1, 14]), ((6, 166), [1, 15]), ((1, 168), [2, 0, 5]), ((9, 172), [0, 72, 2]), ((1, 176), [3, 0, 5]), ((1, 179), [1, 0, 5])]
set_option maxRecDepth 20000 in
theorem sp_ok_12_1 {K : sm_H} (hK : sc_KOk K) (mn : String) : sm_poolOk sc_Ts sc_sx sc_zx sc_oc K sc_cl sc_Y "TwoWayGrammar" mn sp_12_1 :=
  List.forall_mem_cons.mpr ⟨fun pc i hi => by rw [sm_k1 hi]; exact ⟨sm_al1 (⟨"TwoWayGrammar$Grammar", sc_T2, 20, "TwoWayGrammar$Grammar", rfl, by decide, sc_in2, sm_mem 161 (by decide +kernel), Or.inl rfl⟩), trivial⟩,
  List.forall_mem_cons.mpr ⟨fun pc i hi => by rw [sm_k1 hi]; exact ⟨sm_al1 (⟨"TwoWayGrammar$Grammar", sc_T2, 20, "TwoWayGrammar$Grammar", rfl, by decide, sc_in2, sm_mem 222 (by decide +kernel), Or.inl rfl⟩), trivial⟩,
  List.forall_mem_cons.mpr ⟨fun pc i hi => by rw [sm_k4 hi]; exact ⟨trivial, trivial⟩,
  List.forall_mem_cons.mpr ⟨fun pc i hi => by rw [sm_k6 hi]; exact ⟨⟨"no such text", sc_sx_mem 8 (by decide +kernel)⟩, trivial⟩,
  List.forall_mem_cons.mpr ⟨fun pc i hi => by rw [sm_k11 hi]; exact ⟨trivial, sm_pk1 (⟨"TwoWayGrammar", rfl, sm_mem 1087 (by decide +kernel), sm_mem 99 (by decide +kernel), Or.inl ⟨sm_mem 1085 (by decide +kernel), sm_mem 31 (by decide +kernel), by decide +kernel⟩⟩)⟩,
  List.forall_mem_cons.mpr ⟨fun pc i hi => by rw [sm_k11 hi]; exact ⟨trivial, sm_pk1 (⟨"TwoWayGrammar$Text", rfl, sm_mem 990 (by decide +kernel), sm_mem 100 (by decide +kernel), Or.inl ⟨sm_mem 1089 (by decide +kernel), sm_mem 991 (by decide +kernel), by decide +kernel⟩⟩)⟩,
  List.forall_mem_cons.mpr ⟨fun pc i hi => by rw [sm_k11 hi]; exact ⟨trivial, sm_pk1 (⟨"TwoWayGrammar$Text", rfl, sm_mem 985 (by decide +kernel), sm_mem 100 (by decide +kernel), Or.inl ⟨sm_mem 1097 (by decide +kernel), sm_mem 986 (by decide +kernel), by decide +kernel⟩⟩)⟩,
  List.forall_mem_cons.mpr ⟨fun pc i hi => by rw [sm_k4 hi]; exact ⟨trivial, trivial⟩,
  List.forall_mem_cons.mpr ⟨fun pc i hi => by rw [sm_k6 hi]; exact ⟨⟨"no such sample", sc_sx_mem 9 (by decide +kernel)⟩, trivial⟩,
  List.forall_mem_cons.mpr ⟨fun pc i hi => by rw [sm_k6 hi]; exact ⟨⟨"E = T ( ( '+ | '- ) T )* ;\nT = F ( ( '* | '/ ) F )* ;\nF = number | name | '( E ') ;\n", sc_sx_mem 10 (by decide +kernel)⟩, trivial⟩,
  List.forall_mem_cons.mpr ⟨fun pc i hi => by rw [sm_k6 hi]; exact ⟨⟨"P = '{ deeper ( line S )* back line '} ;\nS = \"let\" name blank '= blank V '; | \"do\" P | \"put\" V '; ;\nV = name | number + 1 | '- V ;\n", sc_sx_mem 11 (by decide +kernel)⟩, trivial⟩,
  List.forall_mem_cons.mpr ⟨fun pc i hi => by rw [sm_k6 hi]; exact ⟨⟨"D = '[ ( R ( ', blank R )* )? '] ;\nR = name ': ( number ~ U ) ;\nU = '# name? | '$ | empty ;\n", sc_sx_mem 12 (by decide +kernel)⟩, trivial⟩,
  List.forall_mem_cons.mpr ⟨fun pc i hi => by rw [sm_k11 hi]; exact ⟨trivial, sm_pk1 (⟨"TwoWayGrammar$Text", rfl, sm_mem 1126 (by decide +kernel), sm_mem 100 (by decide +kernel), Or.inl ⟨sm_mem 1125 (by decide +kernel), sm_mem 1127 (by decide +kernel), by decide +kernel⟩⟩)⟩,
  List.forall_mem_cons.mpr ⟨fun pc i hi => by rw [sm_k4 hi]; exact ⟨trivial, trivial⟩,
  List.forall_mem_cons.mpr ⟨fun pc i hi => by rw [sm_k6 hi]; exact ⟨⟨"no description that can be read", sc_sx_mem 13 (by decide +kernel)⟩, trivial⟩,
  List.forall_mem_cons.mpr ⟨fun pc i hi => by rw [sm_k6 hi]; exact ⟨⟨"no such rule", sc_sx_mem 14 (by decide +kernel)⟩, trivial⟩,
  List.forall_mem_cons.mpr ⟨fun pc i hi => by rw [sm_k1 hi]; exact ⟨sm_al1 (⟨"TwoWayGrammar$Sets", sc_T5, 16, "TwoWayGrammar$Sets", rfl, by decide, sc_in5, sm_mem 321 (by decide +kernel), Or.inl rfl⟩), trivial⟩,
  List.forall_mem_cons.mpr ⟨fun pc i hi => by rw [sm_k9 hi]; exact ⟨trivial, ⟨sm_mem 906 (by decide +kernel), sm_mem 99 (by decide +kernel), by decide +kernel, Or.inl (sm_mem 1154 (by decide +kernel))⟩⟩,
  List.forall_mem_cons.mpr ⟨fun pc i hi => by rw [sm_k1 hi]; exact ⟨sm_al1 (⟨"TwoWayGrammar$Sets", sc_T5, 16, "TwoWayGrammar$Sets", rfl, by decide, sc_in5, sm_mem 323 (by decide +kernel), Or.inl rfl⟩), trivial⟩,
  List.forall_mem_cons.mpr ⟨fun pc i hi => by rw [sm_k1 hi]; exact ⟨sm_al1 (⟨"TwoWayGrammar$Sets", sc_T5, 16, "TwoWayGrammar$Sets", rfl, by decide, sc_in5, sm_mem 319 (by decide +kernel), Or.inl rfl⟩), trivial⟩,
  fun _ h => absurd h List.not_mem_nil⟩⟩⟩⟩⟩⟩⟩⟩⟩⟩⟩⟩⟩⟩⟩⟩⟩⟩⟩⟩
def sp_12_2 : List ((Nat × Nat) × List Nat) := [((9, 183), [0, 49, 2]), ((11, 186), [0, 1, 5, 85]), ((11, 190), [0, 1, 5, 101]), ((8, 194), [18446744073709551615]), ((6, 196), [1, 16]), ((1, 154), [15, 0, 0]), ((6, 198), [1, 17]), ((1, 84), [11, 0, 0]), ((11, 200), [0, 0, 8, 103]), ((1, 203), [4, 0, 8, 9, 10]), ((4, 206), [1000, 15]), ((6, 208), [1, 18]), ((1, 211), [11, 0, 8]), ((1, 76), [10, 0, 0]), ((6, 221), [1, 19]), ((1, 93), [12, 0, 0]), ((11, 223), [0, 2, 9, 159]), ((11, 227), [0, 0, 9, 103]), ((1, 228), [4, 0, 8, 9, 10]), ((4, 229), [1000, 16])]
set_option maxRecDepth 20000 in
theorem sp_ok_12_2 {K : sm_H} (hK : sc_KOk K) (mn : String) : sm_poolOk sc_Ts sc_sx sc_zx sc_oc K sc_cl sc_Y "TwoWayGrammar" mn sp_12_2 :=
  List.forall_mem_cons.mpr ⟨fun pc i hi => by rw [sm_k9 hi]; exact ⟨trivial, ⟨sm_mem 809 (by decide +kernel), sm_mem 99 (by decide +kernel), by decide +kernel, Or.inl (sm_mem 1155 (by decide +kernel))⟩⟩,
  List.forall_mem_cons.mpr ⟨fun pc i hi => by rw [sm_k11 hi]; exact ⟨trivial, sm_pk1 (⟨"TwoWayGrammar$Sets", rfl, sm_mem 963 (by decide +kernel), sm_mem 105 (by decide +kernel), Or.inl ⟨sm_mem 1156 (by decide +kernel), sm_mem 964 (by decide +kernel), by decide +kernel⟩⟩)⟩,
  List.forall_mem_cons.mpr ⟨fun pc i hi => by rw [sm_k11 hi]; exact ⟨trivial, sm_pk1 (⟨"TwoWayGrammar$Sets", rfl, sm_mem 1158 (by decide +kernel), sm_mem 105 (by decide +kernel), Or.inl ⟨sm_mem 1157 (by decide +kernel), sm_mem 1159 (by decide +kernel), by decide +kernel⟩⟩)⟩,
  List.forall_mem_cons.mpr ⟨fun pc i hi => by rw [sm_k8 hi]; exact ⟨sm_mem 1161 (by decide +kernel), trivial⟩,
  List.forall_mem_cons.mpr ⟨fun pc i hi => by rw [sm_k6 hi]; exact ⟨⟨"nothing that a rule has", sc_sx_mem 15 (by decide +kernel)⟩, trivial⟩,
  List.forall_mem_cons.mpr ⟨fun pc i hi => by rw [sm_k1 hi]; exact ⟨sm_al1 (⟨"TwoWayGrammar", sc_T0, 16, "TwoWayGrammar", rfl, by decide, sc_in0, sm_mem 564 (by decide +kernel), Or.inl rfl⟩), trivial⟩,
  List.forall_mem_cons.mpr ⟨fun pc i hi => by rw [sm_k6 hi]; exact ⟨⟨"no good description", sc_sx_mem 16 (by decide +kernel)⟩, trivial⟩,
  List.forall_mem_cons.mpr ⟨fun pc i hi => by rw [sm_k1 hi]; exact ⟨sm_al1 (⟨"TwoWayGrammar", sc_T0, 16, "TwoWayGrammar", rfl, by decide, sc_in0, sm_mem 560 (by decide +kernel), Or.inl rfl⟩), trivial⟩,
  List.forall_mem_cons.mpr ⟨fun pc i hi => by rw [sm_k11 hi]; exact ⟨trivial, sm_pk1 (⟨"TwoWayGrammar$Parsing", rfl, sm_mem 1176 (by decide +kernel), sm_mem 108 (by decide +kernel), Or.inr (Or.inr ⟨⟨"TwoWayGrammar$Parsing", "walk", "()V"⟩, "TwoWayGrammar$Walk", sm_mem 1172 (by decide +kernel), sm_mem 1173 (by decide +kernel), ⟨by decide, by decide⟩, sm_mem 1175 (by decide +kernel), by decide +kernel, Or.inr ⟨sm_mem 1176 (by decide +kernel), prog_12_method_14_code, 1, none, sm_mem 1177 (by decide +kernel)⟩⟩)⟩)⟩,
  List.forall_mem_cons.mpr ⟨fun pc i hi => by rw [sm_k1 hi]; exact ⟨sm_al3 (⟨"TwoWayGrammar$Parsing", sc_T8, 12, "TwoWayGrammar$Parsing", rfl, by decide, sc_in8, sm_mem 464 (by decide +kernel), Or.inr (sm_mem 465 (by decide +kernel))⟩) (⟨"TwoWayGrammar$Growing", sc_T9, 8, "TwoWayGrammar$Parsing", rfl, by decide, sc_in9, sm_mem 464 (by decide +kernel), Or.inr (sm_mem 465 (by decide +kernel))⟩) (⟨"TwoWayGrammar$Printing", sc_T10, 13, "TwoWayGrammar$Parsing", rfl, by decide, sc_in10, sm_mem 464 (by decide +kernel), Or.inr (sm_mem 465 (by decide +kernel))⟩), trivial⟩,
  List.forall_mem_cons.mpr ⟨fun pc i hi => by rw [sm_k4 hi]; exact ⟨trivial, trivial⟩,
  List.forall_mem_cons.mpr ⟨fun pc i hi => by rw [sm_k6 hi]; exact ⟨⟨"too many nodes or uses", sc_sx_mem 17 (by decide +kernel)⟩, trivial⟩,
  List.forall_mem_cons.mpr ⟨fun pc i hi => by rw [sm_k1 hi]; exact ⟨sm_al1 (⟨"TwoWayGrammar$Parsing", sc_T8, 12, "TwoWayGrammar$Parsing", rfl, by decide, sc_in8, sm_mem 437 (by decide +kernel), Or.inl rfl⟩), trivial⟩,
  List.forall_mem_cons.mpr ⟨fun pc i hi => by rw [sm_k1 hi]; exact ⟨sm_al1 (⟨"TwoWayGrammar", sc_T0, 16, "TwoWayGrammar", rfl, by decide, sc_in0, sm_mem 559 (by decide +kernel), Or.inl rfl⟩), trivial⟩,
  List.forall_mem_cons.mpr ⟨fun pc i hi => by rw [sm_k6 hi]; exact ⟨⟨"no such fuel", sc_sx_mem 18 (by decide +kernel)⟩, trivial⟩,
  List.forall_mem_cons.mpr ⟨fun pc i hi => by rw [sm_k1 hi]; exact ⟨sm_al1 (⟨"TwoWayGrammar", sc_T0, 16, "TwoWayGrammar", rfl, by decide, sc_in0, sm_mem 561 (by decide +kernel), Or.inl rfl⟩), trivial⟩,
  List.forall_mem_cons.mpr ⟨fun pc i hi => by rw [sm_k11 hi]; exact ⟨trivial, sm_pk1 (⟨"TwoWayGrammar$Growing", rfl, sm_mem 1462 (by decide +kernel), sm_mem 110 (by decide +kernel), Or.inl ⟨sm_mem 1461 (by decide +kernel), sm_mem 1463 (by decide +kernel), by decide +kernel⟩⟩)⟩,
  List.forall_mem_cons.mpr ⟨fun pc i hi => by rw [sm_k11 hi]; exact ⟨trivial, sm_pk1 (⟨"TwoWayGrammar$Growing", rfl, sm_mem 1176 (by decide +kernel), sm_mem 108 (by decide +kernel), Or.inr (Or.inr ⟨⟨"TwoWayGrammar$Growing", "walk", "()V"⟩, "TwoWayGrammar$Walk", sm_mem 1465 (by decide +kernel), sm_mem 1466 (by decide +kernel), ⟨by decide, by decide⟩, sm_mem 1467 (by decide +kernel), by decide +kernel, Or.inr ⟨sm_mem 1176 (by decide +kernel), prog_12_method_14_code, 1, none, sm_mem 1177 (by decide +kernel)⟩⟩)⟩)⟩,
  List.forall_mem_cons.mpr ⟨fun pc i hi => by rw [sm_k1 hi]; exact ⟨sm_al3 (⟨"TwoWayGrammar$Parsing", sc_T8, 12, "TwoWayGrammar$Growing", rfl, by decide, sc_in8, sm_mem 466 (by decide +kernel), Or.inr (sm_mem 467 (by decide +kernel))⟩) (⟨"TwoWayGrammar$Growing", sc_T9, 8, "TwoWayGrammar$Growing", rfl, by decide, sc_in9, sm_mem 466 (by decide +kernel), Or.inr (sm_mem 467 (by decide +kernel))⟩) (⟨"TwoWayGrammar$Printing", sc_T10, 13, "TwoWayGrammar$Growing", rfl, by decide, sc_in10, sm_mem 466 (by decide +kernel), Or.inr (sm_mem 467 (by decide +kernel))⟩), trivial⟩,
  List.forall_mem_cons.mpr ⟨fun pc i hi => by rw [sm_k4 hi]; exact ⟨trivial, trivial⟩,
  fun _ h => absurd h List.not_mem_nil⟩⟩⟩⟩⟩⟩⟩⟩⟩⟩⟩⟩⟩⟩⟩⟩⟩⟩⟩⟩
def sp_12_3 : List ((Nat × Nat) × List Nat) := [((6, 231), [1, 20]), ((1, 234), [1, 0, 7]), ((1, 237), [2, 0, 7]), ((11, 240), [0, 1, 7, 161]), ((1, 243), [3, 0, 7]), ((6, 246), [1, 21]), ((8, 248), [10000]), ((9, 250), [0, 163, 1]), ((11, 254), [0, 1, 2, 58]), ((9, 257), [0, 16, 3]), ((8, 285), [1073741824]), ((8, 287), [31]), ((8, 289), [26]), ((1, 100), [13, 0, 0]), ((11, 263), [0, 0, 10, 103]), ((1, 264), [12, 0, 10]), ((1, 24), [3, 0, 0]), ((11, 273), [0, 1, 1, 20]), ((11, 278), [0, 1, 7, 167])]
set_option maxRecDepth 20000 in
theorem sp_ok_12_3 {K : sm_H} (hK : sc_KOk K) (mn : String) : sm_poolOk sc_Ts sc_sx sc_zx sc_oc K sc_cl sc_Y "TwoWayGrammar" mn sp_12_3 :=
  List.forall_mem_cons.mpr ⟨fun pc i hi => by rw [sm_k6 hi]; exact ⟨⟨"no such node", sc_sx_mem 19 (by decide +kernel)⟩, trivial⟩,
  List.forall_mem_cons.mpr ⟨fun pc i hi => by rw [sm_k1 hi]; exact ⟨sm_al1 (⟨"TwoWayGrammar$Tree", sc_T7, 4, "TwoWayGrammar$Tree", rfl, by decide, sc_in7, sm_mem 405 (by decide +kernel), Or.inl rfl⟩), trivial⟩,
  List.forall_mem_cons.mpr ⟨fun pc i hi => by rw [sm_k1 hi]; exact ⟨sm_al1 (⟨"TwoWayGrammar$Tree", sc_T7, 4, "TwoWayGrammar$Tree", rfl, by decide, sc_in7, sm_mem 409 (by decide +kernel), Or.inl rfl⟩), trivial⟩,
  List.forall_mem_cons.mpr ⟨fun pc i hi => by rw [sm_k11 hi]; exact ⟨trivial, sm_pk1 (⟨"TwoWayGrammar$Tree", rfl, sm_mem 1493 (by decide +kernel), sm_mem 107 (by decide +kernel), Or.inl ⟨sm_mem 1492 (by decide +kernel), sm_mem 1494 (by decide +kernel), by decide +kernel⟩⟩)⟩,
  List.forall_mem_cons.mpr ⟨fun pc i hi => by rw [sm_k1 hi]; exact ⟨sm_al1 (⟨"TwoWayGrammar$Tree", sc_T7, 4, "TwoWayGrammar$Tree", rfl, by decide, sc_in7, sm_mem 412 (by decide +kernel), Or.inl rfl⟩), trivial⟩,
  List.forall_mem_cons.mpr ⟨fun pc i hi => by rw [sm_k6 hi]; exact ⟨⟨"nothing that a node has", sc_sx_mem 20 (by decide +kernel)⟩, trivial⟩,
  List.forall_mem_cons.mpr ⟨fun pc i hi => by rw [sm_k8 hi]; exact ⟨sm_mem 1504 (by decide +kernel), trivial⟩,
  List.forall_mem_cons.mpr ⟨fun pc i hi => by rw [sm_k9 hi]; exact ⟨trivial, ⟨sm_mem 1506 (by decide +kernel), sm_mem 99 (by decide +kernel), by decide +kernel, Or.inl (sm_mem 1505 (by decide +kernel))⟩⟩,
  List.forall_mem_cons.mpr ⟨fun pc i hi => by rw [sm_k11 hi]; exact ⟨trivial, sm_pk1 (⟨"TwoWayGrammar$Grammar", rfl, sm_mem 845 (by decide +kernel), sm_mem 102 (by decide +kernel), Or.inl ⟨sm_mem 1511 (by decide +kernel), sm_mem 846 (by decide +kernel), by decide +kernel⟩⟩)⟩,
  List.forall_mem_cons.mpr ⟨fun pc i hi => by rw [sm_k9 hi]; exact ⟨trivial, ⟨sm_mem 615 (by decide +kernel), sm_mem 99 (by decide +kernel), by decide +kernel, Or.inl (sm_mem 1512 (by decide +kernel))⟩⟩,
  List.forall_mem_cons.mpr ⟨fun pc i hi => by rw [sm_k8 hi]; exact ⟨sm_mem 1508 (by decide +kernel), trivial⟩,
  List.forall_mem_cons.mpr ⟨fun pc i hi => by rw [sm_k8 hi]; exact ⟨sm_mem 1509 (by decide +kernel), trivial⟩,
  List.forall_mem_cons.mpr ⟨fun pc i hi => by rw [sm_k8 hi]; exact ⟨sm_mem 1510 (by decide +kernel), trivial⟩,
  List.forall_mem_cons.mpr ⟨fun pc i hi => by rw [sm_k1 hi]; exact ⟨sm_al1 (⟨"TwoWayGrammar", sc_T0, 16, "TwoWayGrammar", rfl, by decide, sc_in0, sm_mem 562 (by decide +kernel), Or.inl rfl⟩), trivial⟩,
  List.forall_mem_cons.mpr ⟨fun pc i hi => by rw [sm_k11 hi]; exact ⟨trivial, sm_pk1 (⟨"TwoWayGrammar$Printing", rfl, sm_mem 1176 (by decide +kernel), sm_mem 108 (by decide +kernel), Or.inr (Or.inr ⟨⟨"TwoWayGrammar$Printing", "walk", "()V"⟩, "TwoWayGrammar$Walk", sm_mem 1521 (by decide +kernel), sm_mem 1522 (by decide +kernel), ⟨by decide, by decide⟩, sm_mem 1523 (by decide +kernel), by decide +kernel, Or.inr ⟨sm_mem 1176 (by decide +kernel), prog_12_method_14_code, 1, none, sm_mem 1177 (by decide +kernel)⟩⟩)⟩)⟩,
  List.forall_mem_cons.mpr ⟨fun pc i hi => by rw [sm_k1 hi]; exact ⟨sm_al1 (⟨"TwoWayGrammar$Printing", sc_T10, 13, "TwoWayGrammar$Printing", rfl, by decide, sc_in10, sm_mem 527 (by decide +kernel), Or.inl rfl⟩), trivial⟩,
  List.forall_mem_cons.mpr ⟨fun pc i hi => by rw [sm_k1 hi]; exact ⟨sm_al1 (⟨"TwoWayGrammar", sc_T0, 16, "TwoWayGrammar", rfl, by decide, sc_in0, sm_mem 552 (by decide +kernel), Or.inl rfl⟩), trivial⟩,
  List.forall_mem_cons.mpr ⟨fun pc i hi => by rw [sm_k11 hi]; exact ⟨trivial, sm_pk1 (⟨"TwoWayGrammar$Text", rfl, sm_mem 630 (by decide +kernel), sm_mem 100 (by decide +kernel), Or.inl ⟨sm_mem 1533 (by decide +kernel), sm_mem 631 (by decide +kernel), by decide +kernel⟩⟩)⟩,
  List.forall_mem_cons.mpr ⟨fun pc i hi => by rw [sm_k11 hi]; exact ⟨trivial, sm_pk1 (⟨"TwoWayGrammar$Tree", rfl, sm_mem 1543 (by decide +kernel), sm_mem 107 (by decide +kernel), Or.inl ⟨sm_mem 1542 (by decide +kernel), sm_mem 1544 (by decide +kernel), by decide +kernel⟩⟩)⟩,
  fun _ h => absurd h List.not_mem_nil⟩⟩⟩⟩⟩⟩⟩⟩⟩⟩⟩⟩⟩⟩⟩⟩⟩⟩⟩
def sp_12 : List ((Nat × Nat) × List Nat) := sp_12_0 ++ sp_12_1 ++ sp_12_2 ++ sp_12_3
theorem sp_ok_12 {K : sm_H} (hK : sc_KOk K) (mn : String) : sm_poolOk sc_Ts sc_sx sc_zx sc_oc K sc_cl sc_Y "TwoWayGrammar" mn sp_12 := by
  intro e he
  simp only [sp_12, List.mem_append] at he
  rcases he with he | he
  rotate_left
  · exact sp_ok_12_3 hK mn e he
  rcases he with he | he
  rotate_left
  · exact sp_ok_12_2 hK mn e he
  rcases he with he | he
  rotate_left
  · exact sp_ok_12_1 hK mn e he
  exact sp_ok_12_0 hK mn e he
def sp_13_0 : List ((Nat × Nat) × List Nat) := [((2, 21), [0, 0, 0, 7]), ((1, 21), [0, 0, 7]), ((1, 9), [1, 0, 7]), ((9, 29), [0, 49, 2]), ((9, 25), [0, 16, 3]), ((1, 15), [2, 0, 7]), ((1, 18), [3, 0, 7]), ((11, 33), [0, 2, 7, 154]), ((9, 37), [0, 155, 3]), ((9, 40), [0, 168, 2])]
set_option maxRecDepth 20000 in
theorem sp_ok_13_0 {K : sm_H} (hK : sc_KOk K) (mn : String) : sm_poolOk sc_Ts sc_sx sc_zx sc_oc K sc_cl sc_Y "TwoWayGrammar$Tree" mn sp_13_0 :=
  List.forall_mem_cons.mpr ⟨fun pc i hi => by rw [sm_k2 hi]; exact ⟨sm_al1 (⟨"TwoWayGrammar$Tree", sc_T7, 4, "TwoWayGrammar$Tree", sc_ty7, rfl, by decide, sc_in7, sm_mem 401 (by decide +kernel), Or.inl rfl, sc_tyok7, sc_nm7, Or.inl rfl, Or.inl ⟨rfl, rfl⟩⟩), trivial⟩,
  List.forall_mem_cons.mpr ⟨fun pc i hi => by rw [sm_k1 hi]; exact ⟨sm_al1 (⟨"TwoWayGrammar$Tree", sc_T7, 4, "TwoWayGrammar$Tree", rfl, by decide, sc_in7, sm_mem 401 (by decide +kernel), Or.inl rfl⟩), trivial⟩,
  List.forall_mem_cons.mpr ⟨fun pc i hi => by rw [sm_k1 hi]; exact ⟨sm_al1 (⟨"TwoWayGrammar$Tree", sc_T7, 4, "TwoWayGrammar$Tree", rfl, by decide, sc_in7, sm_mem 404 (by decide +kernel), Or.inl rfl⟩), trivial⟩,
  List.forall_mem_cons.mpr ⟨fun pc i hi => by rw [sm_k9 hi]; exact ⟨trivial, ⟨sm_mem 809 (by decide +kernel), sm_mem 99 (by decide +kernel), by decide +kernel, Or.inr ⟨"TwoWayGrammar", sc_nx_mem 19 (by decide +kernel)⟩⟩⟩,
  List.forall_mem_cons.mpr ⟨fun pc i hi => by rw [sm_k9 hi]; exact ⟨trivial, ⟨sm_mem 615 (by decide +kernel), sm_mem 99 (by decide +kernel), by decide +kernel, Or.inr ⟨"TwoWayGrammar", sc_nx_mem 20 (by decide +kernel)⟩⟩⟩,
  List.forall_mem_cons.mpr ⟨fun pc i hi => by rw [sm_k1 hi]; exact ⟨sm_al1 (⟨"TwoWayGrammar$Tree", sc_T7, 4, "TwoWayGrammar$Tree", rfl, by decide, sc_in7, sm_mem 406 (by decide +kernel), Or.inl rfl⟩), trivial⟩,
  List.forall_mem_cons.mpr ⟨fun pc i hi => by rw [sm_k1 hi]; exact ⟨sm_al1 (⟨"TwoWayGrammar$Tree", sc_T7, 4, "TwoWayGrammar$Tree", rfl, by decide, sc_in7, sm_mem 411 (by decide +kernel), Or.inl rfl⟩), trivial⟩,
  List.forall_mem_cons.mpr ⟨fun pc i hi => by rw [sm_k11 hi]; exact ⟨trivial, sm_pk1 (⟨"TwoWayGrammar$Tree", rfl, sm_mem 1423 (by decide +kernel), sm_mem 107 (by decide +kernel), Or.inl ⟨sm_mem 1421 (by decide +kernel), sm_mem 46 (by decide +kernel), by decide +kernel⟩⟩)⟩,
  List.forall_mem_cons.mpr ⟨fun pc i hi => by rw [sm_k9 hi]; exact ⟨trivial, ⟨sm_mem 1426 (by decide +kernel), sm_mem 107 (by decide +kernel), by decide +kernel, Or.inl (sm_mem 1425 (by decide +kernel))⟩⟩,
  List.forall_mem_cons.mpr ⟨fun pc i hi => by rw [sm_k9 hi]; exact ⟨trivial, ⟨sm_mem 1547 (by decide +kernel), sm_mem 126 (by decide +kernel), by decide +kernel, Or.inl (sm_mem 1546 (by decide +kernel))⟩⟩,
  fun _ h => absurd h List.not_mem_nil⟩⟩⟩⟩⟩⟩⟩⟩⟩⟩
def sp_13 : List ((Nat × Nat) × List Nat) := sp_13_0
theorem sp_ok_13 {K : sm_H} (hK : sc_KOk K) (mn : String) : sm_poolOk sc_Ts sc_sx sc_zx sc_oc K sc_cl sc_Y "TwoWayGrammar$Tree" mn sp_13 := by
  intro e he
  exact sp_ok_13_0 hK mn e he
def sp_14_0 : List ((Nat × Nat) × List Nat) := [((1, 15), [1, 0, 3]), ((11, 19), [0, 0, 2, 15]), ((2, 24), [2, 0, 0, 3]), ((2, 28), [3, 0, 0, 3]), ((1, 9), [0, 0, 3]), ((11, 31), [0, 0, 4, 17]), ((1, 24), [2, 0, 3]), ((1, 36), [3, 0, 4]), ((11, 39), [0, 0, 3, 46]), ((11, 43), [0, 1, 3, 51]), ((11, 47), [0, 2, 3, 52]), ((11, 51), [0, 0, 3, 64]), ((1, 28), [3, 0, 3]), ((1, 54), [2, 0, 4]), ((11, 57), [0, 2, 3, 47]), ((1, 63), [4, 0, 4]), ((11, 66), [0, 1, 2, 48]), ((1, 70), [0, 0, 2]), ((11, 73), [0, 2, 2, 50]), ((11, 60), [0, 0, 4, 18])]
set_option maxRecDepth 20000 in
theorem sp_ok_14_0 {K : sm_H} (hK : sc_KOk K) (mn : String) : sm_poolOk sc_Ts sc_sx sc_zx sc_oc K sc_cl sc_Y "TwoWayGrammar$Reader" mn sp_14_0 :=
  List.forall_mem_cons.mpr ⟨fun pc i hi => by rw [sm_k1 hi]; exact ⟨sm_al1 (⟨"TwoWayGrammar$Reader", sc_T3, 4, "TwoWayGrammar$Reader", rfl, by decide, sc_in3, sm_mem 299 (by decide +kernel), Or.inl rfl⟩), trivial⟩,
  List.forall_mem_cons.mpr ⟨fun pc i hi => by rw [sm_k11 hi]; exact ⟨trivial, sm_pk1 (⟨"TwoWayGrammar$Grammar", rfl, sm_mem 611 (by decide +kernel), sm_mem 102 (by decide +kernel), Or.inl ⟨sm_mem 610 (by decide +kernel), sm_mem 612 (by decide +kernel), by decide +kernel⟩⟩)⟩,
  List.forall_mem_cons.mpr ⟨fun pc i hi => by rw [sm_k2 hi]; exact ⟨sm_al1 (⟨"TwoWayGrammar$Reader", sc_T3, 4, "TwoWayGrammar$Reader", sc_ty3, rfl, by decide, sc_in3, sm_mem 300 (by decide +kernel), Or.inl rfl, sc_tyok3, sc_nm3, Or.inl rfl, Or.inl ⟨rfl, rfl⟩⟩), trivial⟩,
  List.forall_mem_cons.mpr ⟨fun pc i hi => by rw [sm_k2 hi]; exact ⟨sm_al1 (⟨"TwoWayGrammar$Reader", sc_T3, 4, "TwoWayGrammar$Reader", sc_ty3, rfl, by decide, sc_in3, sm_mem 301 (by decide +kernel), Or.inl rfl, sc_tyok3, sc_nm3, Or.inl rfl, Or.inl ⟨rfl, rfl⟩⟩), trivial⟩,
  List.forall_mem_cons.mpr ⟨fun pc i hi => by rw [sm_k1 hi]; exact ⟨sm_al1 (⟨"TwoWayGrammar$Reader", sc_T3, 4, "TwoWayGrammar$Reader", rfl, by decide, sc_in3, sm_mem 298 (by decide +kernel), Or.inl rfl⟩), trivial⟩,
  List.forall_mem_cons.mpr ⟨fun pc i hi => by rw [sm_k11 hi]; exact ⟨trivial, sm_pk1 (⟨"TwoWayGrammar$Tokens", rfl, sm_mem 618 (by decide +kernel), sm_mem 104 (by decide +kernel), Or.inl ⟨sm_mem 617 (by decide +kernel), sm_mem 619 (by decide +kernel), by decide +kernel⟩⟩)⟩,
  List.forall_mem_cons.mpr ⟨fun pc i hi => by rw [sm_k1 hi]; exact ⟨sm_al1 (⟨"TwoWayGrammar$Reader", sc_T3, 4, "TwoWayGrammar$Reader", rfl, by decide, sc_in3, sm_mem 300 (by decide +kernel), Or.inl rfl⟩), trivial⟩,
  List.forall_mem_cons.mpr ⟨fun pc i hi => by rw [sm_k1 hi]; exact ⟨sm_al1 (⟨"TwoWayGrammar$Tokens", sc_T4, 5, "TwoWayGrammar$Tokens", rfl, by decide, sc_in4, sm_mem 279 (by decide +kernel), Or.inl rfl⟩), trivial⟩,
  List.forall_mem_cons.mpr ⟨fun pc i hi => by rw [sm_k11 hi]; exact ⟨trivial, sm_pk1 (⟨"TwoWayGrammar$Reader", rfl, sm_mem 798 (by decide +kernel), sm_mem 103 (by decide +kernel), Or.inl ⟨sm_mem 796 (by decide +kernel), sm_mem 4 (by decide +kernel), by decide +kernel⟩⟩)⟩,
  List.forall_mem_cons.mpr ⟨fun pc i hi => by rw [sm_k11 hi]; exact ⟨trivial, sm_pk1 (⟨"TwoWayGrammar$Reader", rfl, sm_mem 818 (by decide +kernel), sm_mem 103 (by decide +kernel), Or.inl ⟨sm_mem 816 (by decide +kernel), sm_mem 6 (by decide +kernel), by decide +kernel⟩⟩)⟩,
  List.forall_mem_cons.mpr ⟨fun pc i hi => by rw [sm_k11 hi]; exact ⟨trivial, sm_pk1 (⟨"TwoWayGrammar$Reader", rfl, sm_mem 822 (by decide +kernel), sm_mem 103 (by decide +kernel), Or.inl ⟨sm_mem 820 (by decide +kernel), sm_mem 7 (by decide +kernel), by decide +kernel⟩⟩)⟩,
  List.forall_mem_cons.mpr ⟨fun pc i hi => by rw [sm_k11 hi]; exact ⟨trivial, sm_pk1 (⟨"TwoWayGrammar$Reader", rfl, sm_mem 872 (by decide +kernel), sm_mem 103 (by decide +kernel), Or.inl ⟨sm_mem 870 (by decide +kernel), sm_mem 12 (by decide +kernel), by decide +kernel⟩⟩)⟩,
  List.forall_mem_cons.mpr ⟨fun pc i hi => by rw [sm_k1 hi]; exact ⟨sm_al1 (⟨"TwoWayGrammar$Reader", sc_T3, 4, "TwoWayGrammar$Reader", rfl, by decide, sc_in3, sm_mem 301 (by decide +kernel), Or.inl rfl⟩), trivial⟩,
  List.forall_mem_cons.mpr ⟨fun pc i hi => by rw [sm_k1 hi]; exact ⟨sm_al1 (⟨"TwoWayGrammar$Tokens", sc_T4, 5, "TwoWayGrammar$Tokens", rfl, by decide, sc_in4, sm_mem 278 (by decide +kernel), Or.inl rfl⟩), trivial⟩,
  List.forall_mem_cons.mpr ⟨fun pc i hi => by rw [sm_k11 hi]; exact ⟨trivial, sm_pk1 (⟨"TwoWayGrammar$Reader", rfl, sm_mem 802 (by decide +kernel), sm_mem 103 (by decide +kernel), Or.inl ⟨sm_mem 800 (by decide +kernel), sm_mem 5 (by decide +kernel), by decide +kernel⟩⟩)⟩,
  List.forall_mem_cons.mpr ⟨fun pc i hi => by rw [sm_k1 hi]; exact ⟨sm_al1 (⟨"TwoWayGrammar$Tokens", sc_T4, 5, "TwoWayGrammar$Tokens", rfl, by decide, sc_in4, sm_mem 282 (by decide +kernel), Or.inl rfl⟩), trivial⟩,
  List.forall_mem_cons.mpr ⟨fun pc i hi => by rw [sm_k11 hi]; exact ⟨trivial, sm_pk1 (⟨"TwoWayGrammar$Grammar", rfl, sm_mem 805 (by decide +kernel), sm_mem 102 (by decide +kernel), Or.inl ⟨sm_mem 804 (by decide +kernel), sm_mem 806 (by decide +kernel), by decide +kernel⟩⟩)⟩,
  List.forall_mem_cons.mpr ⟨fun pc i hi => by rw [sm_k1 hi]; exact ⟨sm_al1 (⟨"TwoWayGrammar$Grammar", sc_T2, 20, "TwoWayGrammar$Grammar", rfl, by decide, sc_in2, sm_mem 160 (by decide +kernel), Or.inl rfl⟩), trivial⟩,
  List.forall_mem_cons.mpr ⟨fun pc i hi => by rw [sm_k11 hi]; exact ⟨trivial, sm_pk1 (⟨"TwoWayGrammar$Grammar", rfl, sm_mem 812 (by decide +kernel), sm_mem 102 (by decide +kernel), Or.inl ⟨sm_mem 811 (by decide +kernel), sm_mem 813 (by decide +kernel), by decide +kernel⟩⟩)⟩,
  List.forall_mem_cons.mpr ⟨fun pc i hi => by rw [sm_k11 hi]; exact ⟨trivial, sm_pk1 (⟨"TwoWayGrammar$Tokens", rfl, sm_mem 622 (by decide +kernel), sm_mem 104 (by decide +kernel), Or.inl ⟨sm_mem 815 (by decide +kernel), sm_mem 623 (by decide +kernel), by decide +kernel⟩⟩)⟩,
  fun _ h => absurd h List.not_mem_nil⟩⟩⟩⟩⟩⟩⟩⟩⟩⟩⟩⟩⟩⟩⟩⟩⟩⟩⟩⟩
def sp_14_1 : List ((Nat × Nat) × List Nat) := [((11, 77), [0, 3, 2, 53]), ((11, 81), [0, 2, 3, 54]), ((11, 84), [0, 3, 3, 55]), ((1, 87), [17, 0, 2]), ((9, 91), [0, 16, 3]), ((11, 95), [0, 0, 4, 56]), ((11, 99), [0, 1, 3, 57]), ((11, 103), [0, 1, 3, 59]), ((11, 106), [0, 3, 2, 63]), ((1, 110), [15, 0, 2]), ((1, 113), [16, 0, 2]), ((11, 116), [0, 1, 2, 58]), ((1, 119), [10, 0, 2]), ((1, 122), [18, 0, 2]), ((11, 125), [0, 3, 2, 60]), ((1, 128), [12, 0, 2]), ((11, 131), [0, 1, 2, 61]), ((11, 134), [0, 0, 2, 62]), ((1, 137), [11, 0, 2]), ((9, 140), [0, 49, 2])]
set_option maxRecDepth 20000 in
theorem sp_ok_14_1 {K : sm_H} (hK : sc_KOk K) (mn : String) : sm_poolOk sc_Ts sc_sx sc_zx sc_oc K sc_cl sc_Y "TwoWayGrammar$Reader" mn sp_14_1 :=
  List.forall_mem_cons.mpr ⟨fun pc i hi => by rw [sm_k11 hi]; exact ⟨trivial, sm_pk1 (⟨"TwoWayGrammar$Grammar", rfl, sm_mem 825 (by decide +kernel), sm_mem 102 (by decide +kernel), Or.inl ⟨sm_mem 824 (by decide +kernel), sm_mem 826 (by decide +kernel), by decide +kernel⟩⟩)⟩,
  List.forall_mem_cons.mpr ⟨fun pc i hi => by rw [sm_k11 hi]; exact ⟨trivial, sm_pk1 (⟨"TwoWayGrammar$Reader", rfl, sm_mem 830 (by decide +kernel), sm_mem 103 (by decide +kernel), Or.inl ⟨sm_mem 828 (by decide +kernel), sm_mem 8 (by decide +kernel), by decide +kernel⟩⟩)⟩,
  List.forall_mem_cons.mpr ⟨fun pc i hi => by rw [sm_k11 hi]; exact ⟨trivial, sm_pk1 (⟨"TwoWayGrammar$Reader", rfl, sm_mem 834 (by decide +kernel), sm_mem 103 (by decide +kernel), Or.inl ⟨sm_mem 832 (by decide +kernel), sm_mem 9 (by decide +kernel), by decide +kernel⟩⟩)⟩,
  List.forall_mem_cons.mpr ⟨fun pc i hi => by rw [sm_k1 hi]; exact ⟨sm_al1 (⟨"TwoWayGrammar$Grammar", sc_T2, 20, "TwoWayGrammar$Grammar", rfl, by decide, sc_in2, sm_mem 218 (by decide +kernel), Or.inl rfl⟩), trivial⟩,
  List.forall_mem_cons.mpr ⟨fun pc i hi => by rw [sm_k9 hi]; exact ⟨trivial, ⟨sm_mem 615 (by decide +kernel), sm_mem 99 (by decide +kernel), by decide +kernel, Or.inr ⟨"TwoWayGrammar", sc_nx_mem 11 (by decide +kernel)⟩⟩⟩,
  List.forall_mem_cons.mpr ⟨fun pc i hi => by rw [sm_k11 hi]; exact ⟨trivial, sm_pk1 (⟨"TwoWayGrammar$Tokens", rfl, sm_mem 837 (by decide +kernel), sm_mem 104 (by decide +kernel), Or.inl ⟨sm_mem 836 (by decide +kernel), sm_mem 838 (by decide +kernel), by decide +kernel⟩⟩)⟩,
  List.forall_mem_cons.mpr ⟨fun pc i hi => by rw [sm_k11 hi]; exact ⟨trivial, sm_pk1 (⟨"TwoWayGrammar$Reader", rfl, sm_mem 842 (by decide +kernel), sm_mem 103 (by decide +kernel), Or.inl ⟨sm_mem 840 (by decide +kernel), sm_mem 10 (by decide +kernel), by decide +kernel⟩⟩)⟩,
  List.forall_mem_cons.mpr ⟨fun pc i hi => by rw [sm_k11 hi]; exact ⟨trivial, sm_pk1 (⟨"TwoWayGrammar$Reader", rfl, sm_mem 850 (by decide +kernel), sm_mem 103 (by decide +kernel), Or.inl ⟨sm_mem 848 (by decide +kernel), sm_mem 11 (by decide +kernel), by decide +kernel⟩⟩)⟩,
  List.forall_mem_cons.mpr ⟨fun pc i hi => by rw [sm_k11 hi]; exact ⟨trivial, sm_pk1 (⟨"TwoWayGrammar$Grammar", rfl, sm_mem 867 (by decide +kernel), sm_mem 102 (by decide +kernel), Or.inl ⟨sm_mem 866 (by decide +kernel), sm_mem 868 (by decide +kernel), by decide +kernel⟩⟩)⟩,
  List.forall_mem_cons.mpr ⟨fun pc i hi => by rw [sm_k1 hi]; exact ⟨sm_al1 (⟨"TwoWayGrammar$Grammar", sc_T2, 20, "TwoWayGrammar$Grammar", rfl, by decide, sc_in2, sm_mem 212 (by decide +kernel), Or.inl rfl⟩), trivial⟩,
  List.forall_mem_cons.mpr ⟨fun pc i hi => by rw [sm_k1 hi]; exact ⟨sm_al1 (⟨"TwoWayGrammar$Grammar", sc_T2, 20, "TwoWayGrammar$Grammar", rfl, by decide, sc_in2, sm_mem 216 (by decide +kernel), Or.inl rfl⟩), trivial⟩,
  List.forall_mem_cons.mpr ⟨fun pc i hi => by rw [sm_k11 hi]; exact ⟨trivial, sm_pk1 (⟨"TwoWayGrammar$Grammar", rfl, sm_mem 845 (by decide +kernel), sm_mem 102 (by decide +kernel), Or.inl ⟨sm_mem 844 (by decide +kernel), sm_mem 846 (by decide +kernel), by decide +kernel⟩⟩)⟩,
  List.forall_mem_cons.mpr ⟨fun pc i hi => by rw [sm_k1 hi]; exact ⟨sm_al1 (⟨"TwoWayGrammar$Grammar", sc_T2, 20, "TwoWayGrammar$Grammar", rfl, by decide, sc_in2, sm_mem 190 (by decide +kernel), Or.inl rfl⟩), trivial⟩,
  List.forall_mem_cons.mpr ⟨fun pc i hi => by rw [sm_k1 hi]; exact ⟨sm_al1 (⟨"TwoWayGrammar$Grammar", sc_T2, 20, "TwoWayGrammar$Grammar", rfl, by decide, sc_in2, sm_mem 221 (by decide +kernel), Or.inl rfl⟩), trivial⟩,
  List.forall_mem_cons.mpr ⟨fun pc i hi => by rw [sm_k11 hi]; exact ⟨trivial, sm_pk1 (⟨"TwoWayGrammar$Grammar", rfl, sm_mem 853 (by decide +kernel), sm_mem 102 (by decide +kernel), Or.inl ⟨sm_mem 852 (by decide +kernel), sm_mem 854 (by decide +kernel), by decide +kernel⟩⟩)⟩,
  List.forall_mem_cons.mpr ⟨fun pc i hi => by rw [sm_k1 hi]; exact ⟨sm_al1 (⟨"TwoWayGrammar$Grammar", sc_T2, 20, "TwoWayGrammar$Grammar", rfl, by decide, sc_in2, sm_mem 201 (by decide +kernel), Or.inl rfl⟩), trivial⟩,
  List.forall_mem_cons.mpr ⟨fun pc i hi => by rw [sm_k11 hi]; exact ⟨trivial, sm_pk1 (⟨"TwoWayGrammar$Grammar", rfl, sm_mem 857 (by decide +kernel), sm_mem 102 (by decide +kernel), Or.inl ⟨sm_mem 856 (by decide +kernel), sm_mem 858 (by decide +kernel), by decide +kernel⟩⟩)⟩,
  List.forall_mem_cons.mpr ⟨fun pc i hi => by rw [sm_k11 hi]; exact ⟨trivial, sm_pk1 (⟨"TwoWayGrammar$Grammar", rfl, sm_mem 863 (by decide +kernel), sm_mem 102 (by decide +kernel), Or.inl ⟨sm_mem 862 (by decide +kernel), sm_mem 864 (by decide +kernel), by decide +kernel⟩⟩)⟩,
  List.forall_mem_cons.mpr ⟨fun pc i hi => by rw [sm_k1 hi]; exact ⟨sm_al1 (⟨"TwoWayGrammar$Grammar", sc_T2, 20, "TwoWayGrammar$Grammar", rfl, by decide, sc_in2, sm_mem 196 (by decide +kernel), Or.inl rfl⟩), trivial⟩,
  List.forall_mem_cons.mpr ⟨fun pc i hi => by rw [sm_k9 hi]; exact ⟨trivial, ⟨sm_mem 809 (by decide +kernel), sm_mem 99 (by decide +kernel), by decide +kernel, Or.inr ⟨"TwoWayGrammar", sc_nx_mem 12 (by decide +kernel)⟩⟩⟩,
  fun _ h => absurd h List.not_mem_nil⟩⟩⟩⟩⟩⟩⟩⟩⟩⟩⟩⟩⟩⟩⟩⟩⟩⟩⟩⟩
def sp_14_2 : List ((Nat × Nat) × List Nat) := [((1, 144), [13, 0, 2])]
set_option maxRecDepth 20000 in
theorem sp_ok_14_2 {K : sm_H} (hK : sc_KOk K) (mn : String) : sm_poolOk sc_Ts sc_sx sc_zx sc_oc K sc_cl sc_Y "TwoWayGrammar$Reader" mn sp_14_2 :=
  List.forall_mem_cons.mpr ⟨fun pc i hi => by rw [sm_k1 hi]; exact ⟨sm_al1 (⟨"TwoWayGrammar$Grammar", sc_T2, 20, "TwoWayGrammar$Grammar", rfl, by decide, sc_in2, sm_mem 205 (by decide +kernel), Or.inl rfl⟩), trivial⟩,
  fun _ h => absurd h List.not_mem_nil⟩
def sp_14 : List ((Nat × Nat) × List Nat) := sp_14_0 ++ sp_14_1 ++ sp_14_2
theorem sp_ok_14 {K : sm_H} (hK : sc_KOk K) (mn : String) : sm_poolOk sc_Ts sc_sx sc_zx sc_oc K sc_cl sc_Y "TwoWayGrammar$Reader" mn sp_14 := by
  intro e he
  simp only [sp_14, List.mem_append] at he
  rcases he with he | he
  rotate_left
  · exact sp_ok_14_2 hK mn e he
  rcases he with he | he
  rotate_left
  · exact sp_ok_14_1 hK mn e he
  exact sp_ok_14_0 hK mn e he
def sp_15_0 : List ((Nat × Nat) × List Nat) := [((2, 57), [0, 0, 0, 2]), ((2, 61), [5, 0, 0, 2]), ((2, 64), [6, 0, 0, 2]), ((2, 67), [10, 0, 0, 2]), ((2, 70), [18, 0, 0, 2]), ((1, 18), [3, 0, 2]), ((9, 73), [0, 16, 3]), ((1, 21), [4, 0, 2]), ((1, 57), [0, 0, 2]), ((1, 9), [1, 0, 2]), ((9, 77), [0, 49, 2]), ((1, 15), [2, 0, 2]), ((1, 64), [6, 0, 2]), ((1, 24), [7, 0, 2]), ((1, 27), [8, 0, 2]), ((1, 30), [9, 0, 2]), ((1, 70), [18, 0, 2]), ((1, 54), [19, 0, 2]), ((1, 67), [10, 0, 2]), ((1, 33), [11, 0, 2])]
set_option maxRecDepth 20000 in
theorem sp_ok_15_0 {K : sm_H} (hK : sc_KOk K) (mn : String) : sm_poolOk sc_Ts sc_sx sc_zx sc_oc K sc_cl sc_Y "TwoWayGrammar$Grammar" mn sp_15_0 :=
  List.forall_mem_cons.mpr ⟨fun pc i hi => by rw [sm_k2 hi]; exact ⟨sm_al1 (⟨"TwoWayGrammar$Grammar", sc_T2, 20, "TwoWayGrammar$Grammar", sc_ty2, rfl, by decide, sc_in2, sm_mem 158 (by decide +kernel), Or.inl rfl, sc_tyok2, sc_nm2, Or.inl rfl, Or.inl ⟨rfl, rfl⟩⟩), trivial⟩,
  List.forall_mem_cons.mpr ⟨fun pc i hi => by rw [sm_k2 hi]; exact ⟨sm_al1 (⟨"TwoWayGrammar$Grammar", sc_T2, 20, "TwoWayGrammar$Grammar", sc_ty2, rfl, by decide, sc_in2, sm_mem 176 (by decide +kernel), Or.inl rfl, sc_tyok2, sc_nm2, Or.inl rfl, Or.inl ⟨rfl, rfl⟩⟩), trivial⟩,
  List.forall_mem_cons.mpr ⟨fun pc i hi => by rw [sm_k2 hi]; exact ⟨sm_al1 (⟨"TwoWayGrammar$Grammar", sc_T2, 20, "TwoWayGrammar$Grammar", sc_ty2, rfl, by decide, sc_in2, sm_mem 177 (by decide +kernel), Or.inl rfl, sc_tyok2, sc_nm2, Or.inl rfl, Or.inl ⟨rfl, rfl⟩⟩), trivial⟩,
  List.forall_mem_cons.mpr ⟨fun pc i hi => by rw [sm_k2 hi]; exact ⟨sm_al1 (⟨"TwoWayGrammar$Grammar", sc_T2, 20, "TwoWayGrammar$Grammar", sc_ty2, rfl, by decide, sc_in2, sm_mem 188 (by decide +kernel), Or.inl rfl, sc_tyok2, sc_nm2, Or.inl rfl, Or.inl ⟨rfl, rfl⟩⟩), trivial⟩,
  List.forall_mem_cons.mpr ⟨fun pc i hi => by rw [sm_k2 hi]; exact ⟨sm_al1 (⟨"TwoWayGrammar$Grammar", sc_T2, 20, "TwoWayGrammar$Grammar", sc_ty2, rfl, by decide, sc_in2, sm_mem 220 (by decide +kernel), Or.inl rfl, sc_tyok2, sc_nm2, Or.inl rfl, Or.inl ⟨rfl, rfl⟩⟩), trivial⟩,
  List.forall_mem_cons.mpr ⟨fun pc i hi => by rw [sm_k1 hi]; exact ⟨sm_al1 (⟨"TwoWayGrammar$Grammar", sc_T2, 20, "TwoWayGrammar$Grammar", rfl, by decide, sc_in2, sm_mem 165 (by decide +kernel), Or.inl rfl⟩), trivial⟩,
  List.forall_mem_cons.mpr ⟨fun pc i hi => by rw [sm_k9 hi]; exact ⟨trivial, ⟨sm_mem 615 (by decide +kernel), sm_mem 99 (by decide +kernel), by decide +kernel, Or.inr ⟨"TwoWayGrammar", sc_nx_mem 2 (by decide +kernel)⟩⟩⟩,
  List.forall_mem_cons.mpr ⟨fun pc i hi => by rw [sm_k1 hi]; exact ⟨sm_al1 (⟨"TwoWayGrammar$Grammar", sc_T2, 20, "TwoWayGrammar$Grammar", rfl, by decide, sc_in2, sm_mem 170 (by decide +kernel), Or.inl rfl⟩), trivial⟩,
  List.forall_mem_cons.mpr ⟨fun pc i hi => by rw [sm_k1 hi]; exact ⟨sm_al1 (⟨"TwoWayGrammar$Grammar", sc_T2, 20, "TwoWayGrammar$Grammar", rfl, by decide, sc_in2, sm_mem 158 (by decide +kernel), Or.inl rfl⟩), trivial⟩,
  List.forall_mem_cons.mpr ⟨fun pc i hi => by rw [sm_k1 hi]; exact ⟨sm_al1 (⟨"TwoWayGrammar$Grammar", sc_T2, 20, "TwoWayGrammar$Grammar", rfl, by decide, sc_in2, sm_mem 162 (by decide +kernel), Or.inl rfl⟩), trivial⟩,
  List.forall_mem_cons.mpr ⟨fun pc i hi => by rw [sm_k9 hi]; exact ⟨trivial, ⟨sm_mem 809 (by decide +kernel), sm_mem 99 (by decide +kernel), by decide +kernel, Or.inr ⟨"TwoWayGrammar", sc_nx_mem 10 (by decide +kernel)⟩⟩⟩,
  List.forall_mem_cons.mpr ⟨fun pc i hi => by rw [sm_k1 hi]; exact ⟨sm_al1 (⟨"TwoWayGrammar$Grammar", sc_T2, 20, "TwoWayGrammar$Grammar", rfl, by decide, sc_in2, sm_mem 163 (by decide +kernel), Or.inl rfl⟩), trivial⟩,
  List.forall_mem_cons.mpr ⟨fun pc i hi => by rw [sm_k1 hi]; exact ⟨sm_al1 (⟨"TwoWayGrammar$Grammar", sc_T2, 20, "TwoWayGrammar$Grammar", rfl, by decide, sc_in2, sm_mem 177 (by decide +kernel), Or.inl rfl⟩), trivial⟩,
  List.forall_mem_cons.mpr ⟨fun pc i hi => by rw [sm_k1 hi]; exact ⟨sm_al1 (⟨"TwoWayGrammar$Grammar", sc_T2, 20, "TwoWayGrammar$Grammar", rfl, by decide, sc_in2, sm_mem 178 (by decide +kernel), Or.inl rfl⟩), trivial⟩,
  List.forall_mem_cons.mpr ⟨fun pc i hi => by rw [sm_k1 hi]; exact ⟨sm_al1 (⟨"TwoWayGrammar$Grammar", sc_T2, 20, "TwoWayGrammar$Grammar", rfl, by decide, sc_in2, sm_mem 181 (by decide +kernel), Or.inl rfl⟩), trivial⟩,
  List.forall_mem_cons.mpr ⟨fun pc i hi => by rw [sm_k1 hi]; exact ⟨sm_al1 (⟨"TwoWayGrammar$Grammar", sc_T2, 20, "TwoWayGrammar$Grammar", rfl, by decide, sc_in2, sm_mem 186 (by decide +kernel), Or.inl rfl⟩), trivial⟩,
  List.forall_mem_cons.mpr ⟨fun pc i hi => by rw [sm_k1 hi]; exact ⟨sm_al1 (⟨"TwoWayGrammar$Grammar", sc_T2, 20, "TwoWayGrammar$Grammar", rfl, by decide, sc_in2, sm_mem 220 (by decide +kernel), Or.inl rfl⟩), trivial⟩,
  List.forall_mem_cons.mpr ⟨fun pc i hi => by rw [sm_k1 hi]; exact ⟨sm_al1 (⟨"TwoWayGrammar$Grammar", sc_T2, 20, "TwoWayGrammar$Grammar", rfl, by decide, sc_in2, sm_mem 223 (by decide +kernel), Or.inl rfl⟩), trivial⟩,
  List.forall_mem_cons.mpr ⟨fun pc i hi => by rw [sm_k1 hi]; exact ⟨sm_al1 (⟨"TwoWayGrammar$Grammar", sc_T2, 20, "TwoWayGrammar$Grammar", rfl, by decide, sc_in2, sm_mem 188 (by decide +kernel), Or.inl rfl⟩), trivial⟩,
  List.forall_mem_cons.mpr ⟨fun pc i hi => by rw [sm_k1 hi]; exact ⟨sm_al1 (⟨"TwoWayGrammar$Grammar", sc_T2, 20, "TwoWayGrammar$Grammar", rfl, by decide, sc_in2, sm_mem 192 (by decide +kernel), Or.inl rfl⟩), trivial⟩,
  fun _ h => absurd h List.not_mem_nil⟩⟩⟩⟩⟩⟩⟩⟩⟩⟩⟩⟩⟩⟩⟩⟩⟩⟩⟩⟩
