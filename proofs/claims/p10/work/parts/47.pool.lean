def sp_27_9 : List ((Nat × Nat) × List Nat) := [((1, 183), [88, 0, 11]), ((1, 177), [86, 0, 11]), ((11, 494), [0, 2, 11, 210]), ((11, 498), [0, 1, 11, 223]), ((1, 189), [90, 0, 11]), ((1, 481), [78, 0, 11]), ((1, 472), [64, 0, 11]), ((11, 501), [0, 0, 11, 226]), ((11, 504), [0, 2, 11, 227]), ((1, 478), [79, 0, 11]), ((1, 475), [80, 0, 11]), ((1, 466), [76, 0, 11]), ((1, 138), [60, 0, 11]), ((1, 469), [81, 0, 11]), ((1, 141), [61, 0, 11]), ((1, 514), [83, 0, 11]), ((2, 514), [83, 0, 0, 11]), ((11, 517), [0, 2, 11, 208]), ((11, 521), [0, 3, 11, 209]), ((1, 156), [69, 0, 11])]
set_option maxRecDepth 20000 in
theorem sp_ok_27_9 {K : sm_H} (hK : sc_KOk K) (mn : String) : sm_poolOk sc_Ts sc_sx sc_zx sc_oc K sc_cl sc_Y "TwoWayGrammarModel" mn sp_27_9 :=
  List.forall_mem_cons.mpr ⟨fun pc i hi => by rw [sm_k1 hi]; exact ⟨sm_al1 (⟨"TwoWayGrammarModel", sc_T11, 96, "TwoWayGrammarModel", rfl, by decide, sc_in11, sm_mem 1643 (by decide +kernel), Or.inl rfl⟩), trivial⟩,
  List.forall_mem_cons.mpr ⟨fun pc i hi => by rw [sm_k1 hi]; exact ⟨sm_al1 (⟨"TwoWayGrammarModel", sc_T11, 96, "TwoWayGrammarModel", rfl, by decide, sc_in11, sm_mem 1641 (by decide +kernel), Or.inl rfl⟩), trivial⟩,
  List.forall_mem_cons.mpr ⟨fun pc i hi => by rw [sm_k11 hi]; exact ⟨trivial, sm_pk1 (⟨"TwoWayGrammarModel", rfl, sm_mem 2054 (by decide +kernel), sm_mem 112 (by decide +kernel), Or.inl ⟨sm_mem 2052 (by decide +kernel), sm_mem 76 (by decide +kernel), by decide +kernel⟩⟩)⟩,
  List.forall_mem_cons.mpr ⟨fun pc i hi => by rw [sm_k11 hi]; exact ⟨trivial, sm_pk1 (⟨"TwoWayGrammarModel", rfl, sm_mem 2110 (by decide +kernel), sm_mem 112 (by decide +kernel), Or.inl ⟨sm_mem 2108 (by decide +kernel), sm_mem 88 (by decide +kernel), by decide +kernel⟩⟩)⟩,
  List.forall_mem_cons.mpr ⟨fun pc i hi => by rw [sm_k1 hi]; exact ⟨sm_al1 (⟨"TwoWayGrammarModel", sc_T11, 96, "TwoWayGrammarModel", rfl, by decide, sc_in11, sm_mem 1645 (by decide +kernel), Or.inl rfl⟩), trivial⟩,
  List.forall_mem_cons.mpr ⟨fun pc i hi => by rw [sm_k1 hi]; exact ⟨sm_al1 (⟨"TwoWayGrammarModel", sc_T11, 96, "TwoWayGrammarModel", rfl, by decide, sc_in11, sm_mem 1633 (by decide +kernel), Or.inl rfl⟩), trivial⟩,
  List.forall_mem_cons.mpr ⟨fun pc i hi => by rw [sm_k1 hi]; exact ⟨sm_al1 (⟨"TwoWayGrammarModel", sc_T11, 96, "TwoWayGrammarModel", rfl, by decide, sc_in11, sm_mem 1619 (by decide +kernel), Or.inl rfl⟩), trivial⟩,
  List.forall_mem_cons.mpr ⟨fun pc i hi => by rw [sm_k11 hi]; exact ⟨trivial, sm_pk1 (⟨"TwoWayGrammarModel", rfl, sm_mem 2122 (by decide +kernel), sm_mem 112 (by decide +kernel), Or.inl ⟨sm_mem 2120 (by decide +kernel), sm_mem 91 (by decide +kernel), by decide +kernel⟩⟩)⟩,
  List.forall_mem_cons.mpr ⟨fun pc i hi => by rw [sm_k11 hi]; exact ⟨trivial, sm_pk1 (⟨"TwoWayGrammarModel", rfl, sm_mem 2126 (by decide +kernel), sm_mem 112 (by decide +kernel), Or.inl ⟨sm_mem 2124 (by decide +kernel), sm_mem 92 (by decide +kernel), by decide +kernel⟩⟩)⟩,
  List.forall_mem_cons.mpr ⟨fun pc i hi => by rw [sm_k1 hi]; exact ⟨sm_al1 (⟨"TwoWayGrammarModel", sc_T11, 96, "TwoWayGrammarModel", rfl, by decide, sc_in11, sm_mem 1634 (by decide +kernel), Or.inl rfl⟩), trivial⟩,
  List.forall_mem_cons.mpr ⟨fun pc i hi => by rw [sm_k1 hi]; exact ⟨sm_al1 (⟨"TwoWayGrammarModel", sc_T11, 96, "TwoWayGrammarModel", rfl, by decide, sc_in11, sm_mem 1635 (by decide +kernel), Or.inl rfl⟩), trivial⟩,
  List.forall_mem_cons.mpr ⟨fun pc i hi => by rw [sm_k1 hi]; exact ⟨sm_al1 (⟨"TwoWayGrammarModel", sc_T11, 96, "TwoWayGrammarModel", rfl, by decide, sc_in11, sm_mem 1631 (by decide +kernel), Or.inl rfl⟩), trivial⟩,
  List.forall_mem_cons.mpr ⟨fun pc i hi => by rw [sm_k1 hi]; exact ⟨sm_al1 (⟨"TwoWayGrammarModel", sc_T11, 96, "TwoWayGrammarModel", rfl, by decide, sc_in11, sm_mem 1615 (by decide +kernel), Or.inl rfl⟩), trivial⟩,
  List.forall_mem_cons.mpr ⟨fun pc i hi => by rw [sm_k1 hi]; exact ⟨sm_al1 (⟨"TwoWayGrammarModel", sc_T11, 96, "TwoWayGrammarModel", rfl, by decide, sc_in11, sm_mem 1636 (by decide +kernel), Or.inl rfl⟩), trivial⟩,
  List.forall_mem_cons.mpr ⟨fun pc i hi => by rw [sm_k1 hi]; exact ⟨sm_al1 (⟨"TwoWayGrammarModel", sc_T11, 96, "TwoWayGrammarModel", rfl, by decide, sc_in11, sm_mem 1616 (by decide +kernel), Or.inl rfl⟩), trivial⟩,
  List.forall_mem_cons.mpr ⟨fun pc i hi => by rw [sm_k1 hi]; exact ⟨sm_al1 (⟨"TwoWayGrammarModel", sc_T11, 96, "TwoWayGrammarModel", rfl, by decide, sc_in11, sm_mem 1638 (by decide +kernel), Or.inl rfl⟩), trivial⟩,
  List.forall_mem_cons.mpr ⟨fun pc i hi => by rw [sm_k2 hi]; exact ⟨sm_al1 (⟨"TwoWayGrammarModel", sc_T11, 96, "TwoWayGrammarModel", sc_ty11, rfl, by decide, sc_in11, sm_mem 1638 (by decide +kernel), Or.inl rfl, sc_tyok11, sc_nm11, Or.inl rfl, Or.inl ⟨rfl, rfl⟩⟩), trivial⟩,
  List.forall_mem_cons.mpr ⟨fun pc i hi => by rw [sm_k11 hi]; exact ⟨trivial, sm_pk1 (⟨"TwoWayGrammarModel", rfl, sm_mem 2045 (by decide +kernel), sm_mem 112 (by decide +kernel), Or.inl ⟨sm_mem 2043 (by decide +kernel), sm_mem 74 (by decide +kernel), by decide +kernel⟩⟩)⟩,
  List.forall_mem_cons.mpr ⟨fun pc i hi => by rw [sm_k11 hi]; exact ⟨trivial, sm_pk1 (⟨"TwoWayGrammarModel", rfl, sm_mem 2049 (by decide +kernel), sm_mem 112 (by decide +kernel), Or.inl ⟨sm_mem 2047 (by decide +kernel), sm_mem 75 (by decide +kernel), by decide +kernel⟩⟩)⟩,
  List.forall_mem_cons.mpr ⟨fun pc i hi => by rw [sm_k1 hi]; exact ⟨sm_al1 (⟨"TwoWayGrammarModel", sc_T11, 96, "TwoWayGrammarModel", rfl, by decide, sc_in11, sm_mem 1624 (by decide +kernel), Or.inl rfl⟩), trivial⟩,
  fun _ h => absurd h List.not_mem_nil⟩⟩⟩⟩⟩⟩⟩⟩⟩⟩⟩⟩⟩⟩⟩⟩⟩⟩⟩⟩
def sp_27_10 : List ((Nat × Nat) × List Nat) := [((1, 171), [74, 0, 11]), ((1, 159), [70, 0, 11]), ((1, 162), [71, 0, 11]), ((1, 186), [89, 0, 11]), ((11, 531), [0, 1, 11, 211]), ((1, 168), [73, 0, 11]), ((11, 534), [0, 1, 11, 212]), ((11, 538), [0, 1, 11, 213]), ((1, 507), [95, 0, 11]), ((8, 510), [6364136223846793005]), ((8, 512), [1442695040888963407]), ((2, 507), [95, 1, 0, 11]), ((11, 541), [0, 1, 11, 214]), ((11, 544), [0, 1, 11, 215]), ((11, 547), [0, 1, 11, 217]), ((11, 550), [0, 1, 11, 222]), ((1, 144), [62, 0, 11]), ((8, 553), [10000]), ((11, 457), [0, 1, 11, 216]), ((8, 555), [26])]
set_option maxRecDepth 20000 in
theorem sp_ok_27_10 {K : sm_H} (hK : sc_KOk K) (mn : String) : sm_poolOk sc_Ts sc_sx sc_zx sc_oc K sc_cl sc_Y "TwoWayGrammarModel" mn sp_27_10 :=
  List.forall_mem_cons.mpr ⟨fun pc i hi => by rw [sm_k1 hi]; exact ⟨sm_al1 (⟨"TwoWayGrammarModel", sc_T11, 96, "TwoWayGrammarModel", rfl, by decide, sc_in11, sm_mem 1629 (by decide +kernel), Or.inl rfl⟩), trivial⟩,
  List.forall_mem_cons.mpr ⟨fun pc i hi => by rw [sm_k1 hi]; exact ⟨sm_al1 (⟨"TwoWayGrammarModel", sc_T11, 96, "TwoWayGrammarModel", rfl, by decide, sc_in11, sm_mem 1625 (by decide +kernel), Or.inl rfl⟩), trivial⟩,
  List.forall_mem_cons.mpr ⟨fun pc i hi => by rw [sm_k1 hi]; exact ⟨sm_al1 (⟨"TwoWayGrammarModel", sc_T11, 96, "TwoWayGrammarModel", rfl, by decide, sc_in11, sm_mem 1626 (by decide +kernel), Or.inl rfl⟩), trivial⟩,
  List.forall_mem_cons.mpr ⟨fun pc i hi => by rw [sm_k1 hi]; exact ⟨sm_al1 (⟨"TwoWayGrammarModel", sc_T11, 96, "TwoWayGrammarModel", rfl, by decide, sc_in11, sm_mem 1644 (by decide +kernel), Or.inl rfl⟩), trivial⟩,
  List.forall_mem_cons.mpr ⟨fun pc i hi => by rw [sm_k11 hi]; exact ⟨trivial, sm_pk1 (⟨"TwoWayGrammarModel", rfl, sm_mem 2058 (by decide +kernel), sm_mem 112 (by decide +kernel), Or.inl ⟨sm_mem 2056 (by decide +kernel), sm_mem 77 (by decide +kernel), by decide +kernel⟩⟩)⟩,
  List.forall_mem_cons.mpr ⟨fun pc i hi => by rw [sm_k1 hi]; exact ⟨sm_al1 (⟨"TwoWayGrammarModel", sc_T11, 96, "TwoWayGrammarModel", rfl, by decide, sc_in11, sm_mem 1628 (by decide +kernel), Or.inl rfl⟩), trivial⟩,
  List.forall_mem_cons.mpr ⟨fun pc i hi => by rw [sm_k11 hi]; exact ⟨trivial, sm_pk1 (⟨"TwoWayGrammarModel", rfl, sm_mem 2064 (by decide +kernel), sm_mem 112 (by decide +kernel), Or.inl ⟨sm_mem 2062 (by decide +kernel), sm_mem 78 (by decide +kernel), by decide +kernel⟩⟩)⟩,
  List.forall_mem_cons.mpr ⟨fun pc i hi => by rw [sm_k11 hi]; exact ⟨trivial, sm_pk1 (⟨"TwoWayGrammarModel", rfl, sm_mem 2068 (by decide +kernel), sm_mem 112 (by decide +kernel), Or.inl ⟨sm_mem 2066 (by decide +kernel), sm_mem 79 (by decide +kernel), by decide +kernel⟩⟩)⟩,
  List.forall_mem_cons.mpr ⟨fun pc i hi => by rw [sm_k1 hi]; exact ⟨sm_al1 (⟨"TwoWayGrammarModel", sc_T11, 96, "TwoWayGrammarModel", rfl, by decide, sc_in11, sm_mem 1650 (by decide +kernel), Or.inl rfl⟩), trivial⟩,
  List.forall_mem_cons.mpr ⟨fun pc i hi => by rw [sm_k8 hi]; exact ⟨sm_mem 2060 (by decide +kernel), trivial⟩,
  List.forall_mem_cons.mpr ⟨fun pc i hi => by rw [sm_k8 hi]; exact ⟨sm_mem 2061 (by decide +kernel), trivial⟩,
  List.forall_mem_cons.mpr ⟨fun pc i hi => by rw [sm_k2 hi]; exact ⟨sm_al1 (⟨"TwoWayGrammarModel", sc_T11, 96, "TwoWayGrammarModel", sc_ty11, rfl, by decide, sc_in11, sm_mem 1650 (by decide +kernel), Or.inl rfl, sc_tyok11, sc_nm11, Or.inl rfl, Or.inr (Or.inl ⟨rfl, rfl⟩)⟩), trivial⟩,
  List.forall_mem_cons.mpr ⟨fun pc i hi => by rw [sm_k11 hi]; exact ⟨trivial, sm_pk1 (⟨"TwoWayGrammarModel", rfl, sm_mem 2072 (by decide +kernel), sm_mem 112 (by decide +kernel), Or.inl ⟨sm_mem 2070 (by decide +kernel), sm_mem 80 (by decide +kernel), by decide +kernel⟩⟩)⟩,
  List.forall_mem_cons.mpr ⟨fun pc i hi => by rw [sm_k11 hi]; exact ⟨trivial, sm_pk1 (⟨"TwoWayGrammarModel", rfl, sm_mem 2077 (by decide +kernel), sm_mem 112 (by decide +kernel), Or.inl ⟨sm_mem 2075 (by decide +kernel), sm_mem 81 (by decide +kernel), by decide +kernel⟩⟩)⟩,
  List.forall_mem_cons.mpr ⟨fun pc i hi => by rw [sm_k11 hi]; exact ⟨trivial, sm_pk1 (⟨"TwoWayGrammarModel", rfl, sm_mem 2086 (by decide +kernel), sm_mem 112 (by decide +kernel), Or.inl ⟨sm_mem 2084 (by decide +kernel), sm_mem 83 (by decide +kernel), by decide +kernel⟩⟩)⟩,
  List.forall_mem_cons.mpr ⟨fun pc i hi => by rw [sm_k11 hi]; exact ⟨trivial, sm_pk1 (⟨"TwoWayGrammarModel", rfl, sm_mem 2106 (by decide +kernel), sm_mem 112 (by decide +kernel), Or.inl ⟨sm_mem 2104 (by decide +kernel), sm_mem 87 (by decide +kernel), by decide +kernel⟩⟩)⟩,
  List.forall_mem_cons.mpr ⟨fun pc i hi => by rw [sm_k1 hi]; exact ⟨sm_al1 (⟨"TwoWayGrammarModel", sc_T11, 96, "TwoWayGrammarModel", rfl, by decide, sc_in11, sm_mem 1617 (by decide +kernel), Or.inl rfl⟩), trivial⟩,
  List.forall_mem_cons.mpr ⟨fun pc i hi => by rw [sm_k8 hi]; exact ⟨sm_mem 2074 (by decide +kernel), trivial⟩,
  List.forall_mem_cons.mpr ⟨fun pc i hi => by rw [sm_k11 hi]; exact ⟨trivial, sm_pk1 (⟨"TwoWayGrammarModel", rfl, sm_mem 2081 (by decide +kernel), sm_mem 112 (by decide +kernel), Or.inl ⟨sm_mem 2079 (by decide +kernel), sm_mem 82 (by decide +kernel), by decide +kernel⟩⟩)⟩,
  List.forall_mem_cons.mpr ⟨fun pc i hi => by rw [sm_k8 hi]; exact ⟨sm_mem 2083 (by decide +kernel), trivial⟩,
  fun _ h => absurd h List.not_mem_nil⟩⟩⟩⟩⟩⟩⟩⟩⟩⟩⟩⟩⟩⟩⟩⟩⟩⟩⟩⟩
def sp_27_11 : List ((Nat × Nat) × List Nat) := [((11, 580), [0, 1, 11, 218]), ((11, 577), [0, 1, 11, 219]), ((11, 569), [0, 1, 11, 220]), ((8, 575), [31]), ((1, 560), [94, 0, 11]), ((1, 563), [84, 0, 11]), ((1, 557), [93, 0, 11]), ((9, 572), [0, 221, 1]), ((11, 525), [0, 1, 11, 224]), ((11, 528), [0, 1, 11, 225]), ((11, 589), [0, 0, 11, 229]), ((11, 592), [0, 0, 11, 231]), ((2, 450), [59, 0, 0, 11]), ((1, 450), [59, 0, 11]), ((8, 453), [10]), ((8, 455), [48]), ((11, 460), [0, 1, 11, 230]), ((1, 147), [66, 0, 11]), ((1, 150), [67, 0, 11]), ((1, 153), [68, 0, 11])]
set_option maxRecDepth 20000 in
theorem sp_ok_27_11 {K : sm_H} (hK : sc_KOk K) (mn : String) : sm_poolOk sc_Ts sc_sx sc_zx sc_oc K sc_cl sc_Y "TwoWayGrammarModel" mn sp_27_11 :=
  List.forall_mem_cons.mpr ⟨fun pc i hi => by rw [sm_k11 hi]; exact ⟨trivial, sm_pk1 (⟨"TwoWayGrammarModel", rfl, sm_mem 2090 (by decide +kernel), sm_mem 112 (by decide +kernel), Or.inl ⟨sm_mem 2088 (by decide +kernel), sm_mem 84 (by decide +kernel), by decide +kernel⟩⟩)⟩,
  List.forall_mem_cons.mpr ⟨fun pc i hi => by rw [sm_k11 hi]; exact ⟨trivial, sm_pk1 (⟨"TwoWayGrammarModel", rfl, sm_mem 2095 (by decide +kernel), sm_mem 112 (by decide +kernel), Or.inl ⟨sm_mem 2093 (by decide +kernel), sm_mem 85 (by decide +kernel), by decide +kernel⟩⟩)⟩,
  List.forall_mem_cons.mpr ⟨fun pc i hi => by rw [sm_k11 hi]; exact ⟨trivial, sm_pk1 (⟨"TwoWayGrammarModel", rfl, sm_mem 2099 (by decide +kernel), sm_mem 112 (by decide +kernel), Or.inl ⟨sm_mem 2097 (by decide +kernel), sm_mem 86 (by decide +kernel), by decide +kernel⟩⟩)⟩,
  List.forall_mem_cons.mpr ⟨fun pc i hi => by rw [sm_k8 hi]; exact ⟨sm_mem 2092 (by decide +kernel), trivial⟩,
  List.forall_mem_cons.mpr ⟨fun pc i hi => by rw [sm_k1 hi]; exact ⟨sm_al1 (⟨"TwoWayGrammarModel", sc_T11, 96, "TwoWayGrammarModel", rfl, by decide, sc_in11, sm_mem 1649 (by decide +kernel), Or.inl rfl⟩), trivial⟩,
  List.forall_mem_cons.mpr ⟨fun pc i hi => by rw [sm_k1 hi]; exact ⟨sm_al1 (⟨"TwoWayGrammarModel", sc_T11, 96, "TwoWayGrammarModel", rfl, by decide, sc_in11, sm_mem 1639 (by decide +kernel), Or.inl rfl⟩), trivial⟩,
  List.forall_mem_cons.mpr ⟨fun pc i hi => by rw [sm_k1 hi]; exact ⟨sm_al1 (⟨"TwoWayGrammarModel", sc_T11, 96, "TwoWayGrammarModel", rfl, by decide, sc_in11, sm_mem 1648 (by decide +kernel), Or.inl rfl⟩), trivial⟩,
  List.forall_mem_cons.mpr ⟨fun pc i hi => by rw [sm_k9 hi]; exact ⟨trivial, ⟨sm_mem 2102 (by decide +kernel), sm_mem 112 (by decide +kernel), by decide +kernel, Or.inl (sm_mem 2101 (by decide +kernel))⟩⟩,
  List.forall_mem_cons.mpr ⟨fun pc i hi => by rw [sm_k11 hi]; exact ⟨trivial, sm_pk1 (⟨"TwoWayGrammarModel", rfl, sm_mem 2114 (by decide +kernel), sm_mem 112 (by decide +kernel), Or.inl ⟨sm_mem 2112 (by decide +kernel), sm_mem 89 (by decide +kernel), by decide +kernel⟩⟩)⟩,
  List.forall_mem_cons.mpr ⟨fun pc i hi => by rw [sm_k11 hi]; exact ⟨trivial, sm_pk1 (⟨"TwoWayGrammarModel", rfl, sm_mem 2118 (by decide +kernel), sm_mem 112 (by decide +kernel), Or.inl ⟨sm_mem 2116 (by decide +kernel), sm_mem 90 (by decide +kernel), by decide +kernel⟩⟩)⟩,
  List.forall_mem_cons.mpr ⟨fun pc i hi => by rw [sm_k11 hi]; exact ⟨trivial, sm_pk1 (⟨"TwoWayGrammarModel", rfl, sm_mem 2134 (by decide +kernel), sm_mem 112 (by decide +kernel), Or.inl ⟨sm_mem 2132 (by decide +kernel), sm_mem 93 (by decide +kernel), by decide +kernel⟩⟩)⟩,
  List.forall_mem_cons.mpr ⟨fun pc i hi => by rw [sm_k11 hi]; exact ⟨trivial, sm_pk1 (⟨"TwoWayGrammarModel", rfl, sm_mem 2144 (by decide +kernel), sm_mem 112 (by decide +kernel), Or.inl ⟨sm_mem 2142 (by decide +kernel), sm_mem 95 (by decide +kernel), by decide +kernel⟩⟩)⟩,
  List.forall_mem_cons.mpr ⟨fun pc i hi => by rw [sm_k2 hi]; exact ⟨sm_al1 (⟨"TwoWayGrammarModel", sc_T11, 96, "TwoWayGrammarModel", sc_ty11, rfl, by decide, sc_in11, sm_mem 1614 (by decide +kernel), Or.inl rfl, sc_tyok11, sc_nm11, Or.inl rfl, Or.inl ⟨rfl, rfl⟩⟩), trivial⟩,
  List.forall_mem_cons.mpr ⟨fun pc i hi => by rw [sm_k1 hi]; exact ⟨sm_al1 (⟨"TwoWayGrammarModel", sc_T11, 96, "TwoWayGrammarModel", rfl, by decide, sc_in11, sm_mem 1614 (by decide +kernel), Or.inl rfl⟩), trivial⟩,
  List.forall_mem_cons.mpr ⟨fun pc i hi => by rw [sm_k8 hi]; exact ⟨sm_mem 2136 (by decide +kernel), trivial⟩,
  List.forall_mem_cons.mpr ⟨fun pc i hi => by rw [sm_k8 hi]; exact ⟨sm_mem 2137 (by decide +kernel), trivial⟩,
  List.forall_mem_cons.mpr ⟨fun pc i hi => by rw [sm_k11 hi]; exact ⟨trivial, sm_pk1 (⟨"TwoWayGrammarModel", rfl, sm_mem 2140 (by decide +kernel), sm_mem 112 (by decide +kernel), Or.inl ⟨sm_mem 2138 (by decide +kernel), sm_mem 94 (by decide +kernel), by decide +kernel⟩⟩)⟩,
  List.forall_mem_cons.mpr ⟨fun pc i hi => by rw [sm_k1 hi]; exact ⟨sm_al1 (⟨"TwoWayGrammarModel", sc_T11, 96, "TwoWayGrammarModel", rfl, by decide, sc_in11, sm_mem 1621 (by decide +kernel), Or.inl rfl⟩), trivial⟩,
  List.forall_mem_cons.mpr ⟨fun pc i hi => by rw [sm_k1 hi]; exact ⟨sm_al1 (⟨"TwoWayGrammarModel", sc_T11, 96, "TwoWayGrammarModel", rfl, by decide, sc_in11, sm_mem 1622 (by decide +kernel), Or.inl rfl⟩), trivial⟩,
  List.forall_mem_cons.mpr ⟨fun pc i hi => by rw [sm_k1 hi]; exact ⟨sm_al1 (⟨"TwoWayGrammarModel", sc_T11, 96, "TwoWayGrammarModel", rfl, by decide, sc_in11, sm_mem 1623 (by decide +kernel), Or.inl rfl⟩), trivial⟩,
  fun _ h => absurd h List.not_mem_nil⟩⟩⟩⟩⟩⟩⟩⟩⟩⟩⟩⟩⟩⟩⟩⟩⟩⟩⟩⟩
def sp_27_12 : List ((Nat × Nat) × List Nat) := [((11, 595), [0, 1, 11, 234]), ((8, 598), [9999]), ((11, 600), [0, 1, 11, 236]), ((8, 603), [1073741824]), ((1, 165), [72, 0, 11]), ((1, 174), [75, 0, 11]), ((1, 438), [65, 0, 11])]
set_option maxRecDepth 20000 in
theorem sp_ok_27_12 {K : sm_H} (hK : sc_KOk K) (mn : String) : sm_poolOk sc_Ts sc_sx sc_zx sc_oc K sc_cl sc_Y "TwoWayGrammarModel" mn sp_27_12 :=
  List.forall_mem_cons.mpr ⟨fun pc i hi => by rw [sm_k11 hi]; exact ⟨trivial, sm_pk1 (⟨"TwoWayGrammarModel", rfl, sm_mem 2156 (by decide +kernel), sm_mem 112 (by decide +kernel), Or.inl ⟨sm_mem 2154 (by decide +kernel), sm_mem 96 (by decide +kernel), by decide +kernel⟩⟩)⟩,
  List.forall_mem_cons.mpr ⟨fun pc i hi => by rw [sm_k8 hi]; exact ⟨sm_mem 2162 (by decide +kernel), trivial⟩,
  List.forall_mem_cons.mpr ⟨fun pc i hi => by rw [sm_k11 hi]; exact ⟨trivial, sm_pk1 (⟨"TwoWayGrammarModel", rfl, sm_mem 2165 (by decide +kernel), sm_mem 112 (by decide +kernel), Or.inl ⟨sm_mem 2163 (by decide +kernel), sm_mem 97 (by decide +kernel), by decide +kernel⟩⟩)⟩,
  List.forall_mem_cons.mpr ⟨fun pc i hi => by rw [sm_k8 hi]; exact ⟨sm_mem 2167 (by decide +kernel), trivial⟩,
  List.forall_mem_cons.mpr ⟨fun pc i hi => by rw [sm_k1 hi]; exact ⟨sm_al1 (⟨"TwoWayGrammarModel", sc_T11, 96, "TwoWayGrammarModel", rfl, by decide, sc_in11, sm_mem 1627 (by decide +kernel), Or.inl rfl⟩), trivial⟩,
  List.forall_mem_cons.mpr ⟨fun pc i hi => by rw [sm_k1 hi]; exact ⟨sm_al1 (⟨"TwoWayGrammarModel", sc_T11, 96, "TwoWayGrammarModel", rfl, by decide, sc_in11, sm_mem 1630 (by decide +kernel), Or.inl rfl⟩), trivial⟩,
  List.forall_mem_cons.mpr ⟨fun pc i hi => by rw [sm_k1 hi]; exact ⟨sm_al1 (⟨"TwoWayGrammarModel", sc_T11, 96, "TwoWayGrammarModel", rfl, by decide, sc_in11, sm_mem 1620 (by decide +kernel), Or.inl rfl⟩), trivial⟩,
  fun _ h => absurd h List.not_mem_nil⟩⟩⟩⟩⟩⟩⟩
def sp_27 : List ((Nat × Nat) × List Nat) := sp_27_0 ++ sp_27_1 ++ sp_27_2 ++ sp_27_3 ++ sp_27_4 ++ sp_27_5 ++ sp_27_6 ++ sp_27_7 ++ sp_27_8 ++ sp_27_9 ++ sp_27_10 ++ sp_27_11 ++ sp_27_12
theorem sp_ok_27 {K : sm_H} (hK : sc_KOk K) (mn : String) : sm_poolOk sc_Ts sc_sx sc_zx sc_oc K sc_cl sc_Y "TwoWayGrammarModel" mn sp_27 := by
  intro e he
  simp only [sp_27, List.mem_append] at he
  rcases he with he | he
  rotate_left
  · exact sp_ok_27_12 hK mn e he
  rcases he with he | he
  rotate_left
  · exact sp_ok_27_11 hK mn e he
  rcases he with he | he
  rotate_left
  · exact sp_ok_27_10 hK mn e he
  rcases he with he | he
  rotate_left
  · exact sp_ok_27_9 hK mn e he
  rcases he with he | he
  rotate_left
  · exact sp_ok_27_8 hK mn e he
  rcases he with he | he
  rotate_left
  · exact sp_ok_27_7 hK mn e he
  rcases he with he | he
  rotate_left
  · exact sp_ok_27_6 hK mn e he
  rcases he with he | he
  rotate_left
  · exact sp_ok_27_5 hK mn e he
  rcases he with he | he
  rotate_left
  · exact sp_ok_27_4 hK mn e he
  rcases he with he | he
  rotate_left
  · exact sp_ok_27_3 hK mn e he
  rcases he with he | he
  rotate_left
  · exact sp_ok_27_2 hK mn e he
  rcases he with he | he
  rotate_left
  · exact sp_ok_27_1 hK mn e he
  exact sp_ok_27_0 hK mn e he
