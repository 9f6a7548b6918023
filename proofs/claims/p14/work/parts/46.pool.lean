def sp_27_3 : List ((Nat × Nat) × List Nat) := [((2, 345), [12, 0, 0, 11]), ((2, 358), [11, 0, 0, 11]), ((2, 325), [8, 0, 0, 11]), ((2, 291), [48, 0, 0, 11]), ((1, 25), [16, 0, 11]), ((11, 379), [0, 0, 11, 177]), ((1, 309), [49, 0, 11]), ((1, 392), [9, 0, 11]), ((11, 395), [0, 0, 11, 183]), ((1, 358), [11, 0, 11]), ((1, 38), [20, 0, 11]), ((1, 41), [21, 0, 11]), ((1, 44), [22, 0, 11]), ((11, 361), [0, 2, 11, 184]), ((1, 291), [48, 0, 11]), ((9, 294), [0, 178, 1]), ((2, 298), [50, 0, 0, 11]), ((2, 301), [52, 1, 0, 11]), ((11, 305), [0, 1, 11, 179]), ((1, 298), [50, 0, 11])]
set_option maxRecDepth 20000 in
theorem sp_ok_27_3 {K : sm_H} (hK : sc_KOk K) (mn : String) : sm_poolOk sc_Ts sc_sx sc_zx sc_oc K sc_cl sc_Y "TwoWayGrammarModel" mn sp_27_3 :=
  List.forall_mem_cons.mpr ⟨fun pc i hi => by rw [sm_k2 hi]; exact ⟨sm_al1 (⟨"TwoWayGrammarModel", sc_T11, 96, "TwoWayGrammarModel", sc_ty11, rfl, by decide, sc_in11, sm_memf 1567 rfl rfl, Or.inl rfl, sc_tyok11, sc_nm11, Or.inl rfl, Or.inl ⟨rfl, rfl⟩⟩), trivial⟩,
  List.forall_mem_cons.mpr ⟨fun pc i hi => by rw [sm_k2 hi]; exact ⟨sm_al1 (⟨"TwoWayGrammarModel", sc_T11, 96, "TwoWayGrammarModel", sc_ty11, rfl, by decide, sc_in11, sm_memf 1566 rfl rfl, Or.inl rfl, sc_tyok11, sc_nm11, Or.inl rfl, Or.inl ⟨rfl, rfl⟩⟩), trivial⟩,
  List.forall_mem_cons.mpr ⟨fun pc i hi => by rw [sm_k2 hi]; exact ⟨sm_al1 (⟨"TwoWayGrammarModel", sc_T11, 96, "TwoWayGrammarModel", sc_ty11, rfl, by decide, sc_in11, sm_memf 1563 rfl rfl, Or.inl rfl, sc_tyok11, sc_nm11, Or.inl rfl, Or.inl ⟨rfl, rfl⟩⟩), trivial⟩,
  List.forall_mem_cons.mpr ⟨fun pc i hi => by rw [sm_k2 hi]; exact ⟨sm_al1 (⟨"TwoWayGrammarModel", sc_T11, 96, "TwoWayGrammarModel", sc_ty11, rfl, by decide, sc_in11, sm_memf 1603 rfl rfl, Or.inl rfl, sc_tyok11, sc_nm11, Or.inl rfl, Or.inl ⟨rfl, rfl⟩⟩), trivial⟩,
  List.forall_mem_cons.mpr ⟨fun pc i hi => by rw [sm_k1 hi]; exact ⟨sm_al1 (⟨"TwoWayGrammarModel", sc_T11, 96, "TwoWayGrammarModel", rfl, by decide, sc_in11, sm_memf 1571 rfl rfl, Or.inl rfl⟩), trivial⟩,
  List.forall_mem_cons.mpr ⟨fun pc i hi => by rw [sm_k11 hi]; exact ⟨trivial, sm_pk1 (⟨"TwoWayGrammarModel", rfl, sm_memf 1912 rfl rfl, sm_memf 112 rfl rfl, Or.inl ⟨sm_memf 1910 rfl rfl, sm_memf 49 rfl rfl, by decide +kernel⟩⟩)⟩,
  List.forall_mem_cons.mpr ⟨fun pc i hi => by rw [sm_k1 hi]; exact ⟨sm_al1 (⟨"TwoWayGrammarModel", sc_T11, 96, "TwoWayGrammarModel", rfl, by decide, sc_in11, sm_memf 1604 rfl rfl, Or.inl rfl⟩), trivial⟩,
  List.forall_mem_cons.mpr ⟨fun pc i hi => by rw [sm_k1 hi]; exact ⟨sm_al1 (⟨"TwoWayGrammarModel", sc_T11, 96, "TwoWayGrammarModel", rfl, by decide, sc_in11, sm_memf 1564 rfl rfl, Or.inl rfl⟩), trivial⟩,
  List.forall_mem_cons.mpr ⟨fun pc i hi => by rw [sm_k11 hi]; exact ⟨trivial, sm_pk1 (⟨"TwoWayGrammarModel", rfl, sm_memf 1935 rfl rfl, sm_memf 112 rfl rfl, Or.inl ⟨sm_memf 1933 rfl rfl, sm_memf 52 rfl rfl, by decide +kernel⟩⟩)⟩,
  List.forall_mem_cons.mpr ⟨fun pc i hi => by rw [sm_k1 hi]; exact ⟨sm_al1 (⟨"TwoWayGrammarModel", sc_T11, 96, "TwoWayGrammarModel", rfl, by decide, sc_in11, sm_memf 1566 rfl rfl, Or.inl rfl⟩), trivial⟩,
  List.forall_mem_cons.mpr ⟨fun pc i hi => by rw [sm_k1 hi]; exact ⟨sm_al1 (⟨"TwoWayGrammarModel", sc_T11, 96, "TwoWayGrammarModel", rfl, by decide, sc_in11, sm_memf 1575 rfl rfl, Or.inl rfl⟩), trivial⟩,
  List.forall_mem_cons.mpr ⟨fun pc i hi => by rw [sm_k1 hi]; exact ⟨sm_al1 (⟨"TwoWayGrammarModel", sc_T11, 96, "TwoWayGrammarModel", rfl, by decide, sc_in11, sm_memf 1576 rfl rfl, Or.inl rfl⟩), trivial⟩,
  List.forall_mem_cons.mpr ⟨fun pc i hi => by rw [sm_k1 hi]; exact ⟨sm_al1 (⟨"TwoWayGrammarModel", sc_T11, 96, "TwoWayGrammarModel", rfl, by decide, sc_in11, sm_memf 1577 rfl rfl, Or.inl rfl⟩), trivial⟩,
  List.forall_mem_cons.mpr ⟨fun pc i hi => by rw [sm_k11 hi]; exact ⟨trivial, sm_pk1 (⟨"TwoWayGrammarModel", rfl, sm_memf 1939 rfl rfl, sm_memf 112 rfl rfl, Or.inl ⟨sm_memf 1937 rfl rfl, sm_memf 53 rfl rfl, by decide +kernel⟩⟩)⟩,
  List.forall_mem_cons.mpr ⟨fun pc i hi => by rw [sm_k1 hi]; exact ⟨sm_al1 (⟨"TwoWayGrammarModel", sc_T11, 96, "TwoWayGrammarModel", rfl, by decide, sc_in11, sm_memf 1603 rfl rfl, Or.inl rfl⟩), trivial⟩,
  List.forall_mem_cons.mpr ⟨fun pc i hi => by rw [sm_k9 hi]; exact ⟨trivial, ⟨sm_memf 1915 rfl rfl, sm_memf 112 rfl rfl, by decide +kernel, Or.inl (sm_memf 1914 rfl rfl)⟩⟩,
  List.forall_mem_cons.mpr ⟨fun pc i hi => by rw [sm_k2 hi]; exact ⟨sm_al1 (⟨"TwoWayGrammarModel", sc_T11, 96, "TwoWayGrammarModel", sc_ty11, rfl, by decide, sc_in11, sm_memf 1605 rfl rfl, Or.inl rfl, sc_tyok11, sc_nm11, Or.inl rfl, Or.inl ⟨rfl, rfl⟩⟩), trivial⟩,
  List.forall_mem_cons.mpr ⟨fun pc i hi => by rw [sm_k2 hi]; exact ⟨sm_al1 (⟨"TwoWayGrammarModel", sc_T11, 96, "TwoWayGrammarModel", sc_ty11, rfl, by decide, sc_in11, sm_memf 1607 rfl rfl, Or.inl rfl, sc_tyok11, sc_nm11, Or.inl rfl, Or.inr (Or.inl ⟨rfl, rfl⟩)⟩), trivial⟩,
  List.forall_mem_cons.mpr ⟨fun pc i hi => by rw [sm_k11 hi]; exact ⟨trivial, sm_pk1 (⟨"TwoWayGrammarModel", rfl, sm_memf 1919 rfl rfl, sm_memf 112 rfl rfl, Or.inl ⟨sm_memf 1917 rfl rfl, sm_memf 50 rfl rfl, by decide +kernel⟩⟩)⟩,
  List.forall_mem_cons.mpr ⟨fun pc i hi => by rw [sm_k1 hi]; exact ⟨sm_al1 (⟨"TwoWayGrammarModel", sc_T11, 96, "TwoWayGrammarModel", rfl, by decide, sc_in11, sm_memf 1605 rfl rfl, Or.inl rfl⟩), trivial⟩,
  fun _ h => absurd h List.not_mem_nil⟩⟩⟩⟩⟩⟩⟩⟩⟩⟩⟩⟩⟩⟩⟩⟩⟩⟩⟩⟩
def sp_27_4 : List ((Nat × Nat) × List Nat) := [((2, 309), [49, 0, 0, 11]), ((9, 312), [0, 180, 1]), ((11, 315), [0, 1, 11, 181]), ((9, 318), [0, 182, 1]), ((8, 321), [18446744073709551615]), ((1, 301), [52, 0, 11]), ((8, 323), [96]), ((1, 19), [14, 0, 11]), ((2, 348), [51, 0, 0, 11]), ((1, 120), [53, 0, 11]), ((11, 373), [0, 0, 11, 185]), ((1, 22), [15, 0, 11]), ((11, 398), [0, 0, 11, 186]), ((1, 68), [30, 0, 11]), ((1, 342), [13, 0, 11]), ((1, 71), [31, 0, 11]), ((11, 376), [0, 1, 11, 187]), ((1, 135), [58, 0, 11]), ((1, 348), [51, 0, 11]), ((11, 382), [0, 0, 11, 188])]
set_option maxRecDepth 20000 in
theorem sp_ok_27_4 {K : sm_H} (hK : sc_KOk K) (mn : String) : sm_poolOk sc_Ts sc_sx sc_zx sc_oc K sc_cl sc_Y "TwoWayGrammarModel" mn sp_27_4 :=
  List.forall_mem_cons.mpr ⟨fun pc i hi => by rw [sm_k2 hi]; exact ⟨sm_al1 (⟨"TwoWayGrammarModel", sc_T11, 96, "TwoWayGrammarModel", sc_ty11, rfl, by decide, sc_in11, sm_memf 1604 rfl rfl, Or.inl rfl, sc_tyok11, sc_nm11, Or.inl rfl, Or.inl ⟨rfl, rfl⟩⟩), trivial⟩,
  List.forall_mem_cons.mpr ⟨fun pc i hi => by rw [sm_k9 hi]; exact ⟨trivial, ⟨sm_memf 1922 rfl rfl, sm_memf 112 rfl rfl, by decide +kernel, Or.inl (sm_memf 1921 rfl rfl)⟩⟩,
  List.forall_mem_cons.mpr ⟨fun pc i hi => by rw [sm_k11 hi]; exact ⟨trivial, sm_pk1 (⟨"TwoWayGrammarModel", rfl, sm_memf 1926 rfl rfl, sm_memf 112 rfl rfl, Or.inl ⟨sm_memf 1924 rfl rfl, sm_memf 51 rfl rfl, by decide +kernel⟩⟩)⟩,
  List.forall_mem_cons.mpr ⟨fun pc i hi => by rw [sm_k9 hi]; exact ⟨trivial, ⟨sm_memf 1931 rfl rfl, sm_memf 112 rfl rfl, by decide +kernel, Or.inl (sm_memf 1930 rfl rfl)⟩⟩,
  List.forall_mem_cons.mpr ⟨fun pc i hi => by rw [sm_k8 hi]; exact ⟨sm_memf 1928 rfl rfl, trivial⟩,
  List.forall_mem_cons.mpr ⟨fun pc i hi => by rw [sm_k1 hi]; exact ⟨sm_al1 (⟨"TwoWayGrammarModel", sc_T11, 96, "TwoWayGrammarModel", rfl, by decide, sc_in11, sm_memf 1607 rfl rfl, Or.inl rfl⟩), trivial⟩,
  List.forall_mem_cons.mpr ⟨fun pc i hi => by rw [sm_k8 hi]; exact ⟨sm_memf 1929 rfl rfl, trivial⟩,
  List.forall_mem_cons.mpr ⟨fun pc i hi => by rw [sm_k1 hi]; exact ⟨sm_al1 (⟨"TwoWayGrammarModel", sc_T11, 96, "TwoWayGrammarModel", rfl, by decide, sc_in11, sm_memf 1569 rfl rfl, Or.inl rfl⟩), trivial⟩,
  List.forall_mem_cons.mpr ⟨fun pc i hi => by rw [sm_k2 hi]; exact ⟨sm_al1 (⟨"TwoWayGrammarModel", sc_T11, 96, "TwoWayGrammarModel", sc_ty11, rfl, by decide, sc_in11, sm_memf 1606 rfl rfl, Or.inl rfl, sc_tyok11, sc_nm11, Or.inl rfl, Or.inl ⟨rfl, rfl⟩⟩), trivial⟩,
  List.forall_mem_cons.mpr ⟨fun pc i hi => by rw [sm_k1 hi]; exact ⟨sm_al1 (⟨"TwoWayGrammarModel", sc_T11, 96, "TwoWayGrammarModel", rfl, by decide, sc_in11, sm_memf 1608 rfl rfl, Or.inl rfl⟩), trivial⟩,
  List.forall_mem_cons.mpr ⟨fun pc i hi => by rw [sm_k11 hi]; exact ⟨trivial, sm_pk1 (⟨"TwoWayGrammarModel", rfl, sm_memf 1943 rfl rfl, sm_memf 112 rfl rfl, Or.inl ⟨sm_memf 1941 rfl rfl, sm_memf 54 rfl rfl, by decide +kernel⟩⟩)⟩,
  List.forall_mem_cons.mpr ⟨fun pc i hi => by rw [sm_k1 hi]; exact ⟨sm_al1 (⟨"TwoWayGrammarModel", sc_T11, 96, "TwoWayGrammarModel", rfl, by decide, sc_in11, sm_memf 1570 rfl rfl, Or.inl rfl⟩), trivial⟩,
  List.forall_mem_cons.mpr ⟨fun pc i hi => by rw [sm_k11 hi]; exact ⟨trivial, sm_pk1 (⟨"TwoWayGrammarModel", rfl, sm_memf 1947 rfl rfl, sm_memf 112 rfl rfl, Or.inl ⟨sm_memf 1945 rfl rfl, sm_memf 55 rfl rfl, by decide +kernel⟩⟩)⟩,
  List.forall_mem_cons.mpr ⟨fun pc i hi => by rw [sm_k1 hi]; exact ⟨sm_al1 (⟨"TwoWayGrammarModel", sc_T11, 96, "TwoWayGrammarModel", rfl, by decide, sc_in11, sm_memf 1585 rfl rfl, Or.inl rfl⟩), trivial⟩,
  List.forall_mem_cons.mpr ⟨fun pc i hi => by rw [sm_k1 hi]; exact ⟨sm_al1 (⟨"TwoWayGrammarModel", sc_T11, 96, "TwoWayGrammarModel", rfl, by decide, sc_in11, sm_memf 1568 rfl rfl, Or.inl rfl⟩), trivial⟩,
  List.forall_mem_cons.mpr ⟨fun pc i hi => by rw [sm_k1 hi]; exact ⟨sm_al1 (⟨"TwoWayGrammarModel", sc_T11, 96, "TwoWayGrammarModel", rfl, by decide, sc_in11, sm_memf 1586 rfl rfl, Or.inl rfl⟩), trivial⟩,
  List.forall_mem_cons.mpr ⟨fun pc i hi => by rw [sm_k11 hi]; exact ⟨trivial, sm_pk1 (⟨"TwoWayGrammarModel", rfl, sm_memf 1951 rfl rfl, sm_memf 112 rfl rfl, Or.inl ⟨sm_memf 1949 rfl rfl, sm_memf 56 rfl rfl, by decide +kernel⟩⟩)⟩,
  List.forall_mem_cons.mpr ⟨fun pc i hi => by rw [sm_k1 hi]; exact ⟨sm_al1 (⟨"TwoWayGrammarModel", sc_T11, 96, "TwoWayGrammarModel", rfl, by decide, sc_in11, sm_memf 1613 rfl rfl, Or.inl rfl⟩), trivial⟩,
  List.forall_mem_cons.mpr ⟨fun pc i hi => by rw [sm_k1 hi]; exact ⟨sm_al1 (⟨"TwoWayGrammarModel", sc_T11, 96, "TwoWayGrammarModel", rfl, by decide, sc_in11, sm_memf 1606 rfl rfl, Or.inl rfl⟩), trivial⟩,
  List.forall_mem_cons.mpr ⟨fun pc i hi => by rw [sm_k11 hi]; exact ⟨trivial, sm_pk1 (⟨"TwoWayGrammarModel", rfl, sm_memf 1955 rfl rfl, sm_memf 112 rfl rfl, Or.inl ⟨sm_memf 1953 rfl rfl, sm_memf 57 rfl rfl, by decide +kernel⟩⟩)⟩,
  fun _ h => absurd h List.not_mem_nil⟩⟩⟩⟩⟩⟩⟩⟩⟩⟩⟩⟩⟩⟩⟩⟩⟩⟩⟩⟩
def sp_27_5 : List ((Nat × Nat) × List Nat) := [((9, 354), [0, 189, 1]), ((11, 386), [0, 0, 11, 190]), ((11, 389), [0, 0, 11, 193]), ((1, 132), [57, 0, 11]), ((1, 47), [23, 0, 11]), ((1, 50), [24, 0, 11]), ((1, 126), [55, 0, 11]), ((11, 369), [0, 1, 11, 192]), ((1, 345), [12, 0, 11]), ((1, 59), [27, 0, 11]), ((1, 65), [29, 0, 11]), ((1, 62), [28, 0, 11]), ((1, 123), [54, 0, 11]), ((1, 129), [56, 0, 11]), ((8, 328), [609302190]), ((8, 330), [177198]), ((8, 332), [26886565]), ((8, 334), [11994498]), ((8, 336), [178476]), ((8, 338), [609752228])]
set_option maxRecDepth 20000 in
theorem sp_ok_27_5 {K : sm_H} (hK : sc_KOk K) (mn : String) : sm_poolOk sc_Ts sc_sx sc_zx sc_oc K sc_cl sc_Y "TwoWayGrammarModel" mn sp_27_5 :=
  List.forall_mem_cons.mpr ⟨fun pc i hi => by rw [sm_k9 hi]; exact ⟨trivial, ⟨sm_memf 1958 rfl rfl, sm_memf 112 rfl rfl, by decide +kernel, Or.inl (sm_memf 1957 rfl rfl)⟩⟩,
  List.forall_mem_cons.mpr ⟨fun pc i hi => by rw [sm_k11 hi]; exact ⟨trivial, sm_pk1 (⟨"TwoWayGrammarModel", rfl, sm_memf 1969 rfl rfl, sm_memf 112 rfl rfl, Or.inl ⟨sm_memf 1967 rfl rfl, sm_memf 58 rfl rfl, by decide +kernel⟩⟩)⟩,
  List.forall_mem_cons.mpr ⟨fun pc i hi => by rw [sm_k11 hi]; exact ⟨trivial, sm_pk1 (⟨"TwoWayGrammarModel", rfl, sm_memf 1981 rfl rfl, sm_memf 112 rfl rfl, Or.inl ⟨sm_memf 1979 rfl rfl, sm_memf 61 rfl rfl, by decide +kernel⟩⟩)⟩,
  List.forall_mem_cons.mpr ⟨fun pc i hi => by rw [sm_k1 hi]; exact ⟨sm_al1 (⟨"TwoWayGrammarModel", sc_T11, 96, "TwoWayGrammarModel", rfl, by decide, sc_in11, sm_memf 1612 rfl rfl, Or.inl rfl⟩), trivial⟩,
  List.forall_mem_cons.mpr ⟨fun pc i hi => by rw [sm_k1 hi]; exact ⟨sm_al1 (⟨"TwoWayGrammarModel", sc_T11, 96, "TwoWayGrammarModel", rfl, by decide, sc_in11, sm_memf 1578 rfl rfl, Or.inl rfl⟩), trivial⟩,
  List.forall_mem_cons.mpr ⟨fun pc i hi => by rw [sm_k1 hi]; exact ⟨sm_al1 (⟨"TwoWayGrammarModel", sc_T11, 96, "TwoWayGrammarModel", rfl, by decide, sc_in11, sm_memf 1579 rfl rfl, Or.inl rfl⟩), trivial⟩,
  List.forall_mem_cons.mpr ⟨fun pc i hi => by rw [sm_k1 hi]; exact ⟨sm_al1 (⟨"TwoWayGrammarModel", sc_T11, 96, "TwoWayGrammarModel", rfl, by decide, sc_in11, sm_memf 1610 rfl rfl, Or.inl rfl⟩), trivial⟩,
  List.forall_mem_cons.mpr ⟨fun pc i hi => by rw [sm_k11 hi]; exact ⟨trivial, sm_pk1 (⟨"TwoWayGrammarModel", rfl, sm_memf 1977 rfl rfl, sm_memf 112 rfl rfl, Or.inl ⟨sm_memf 1975 rfl rfl, sm_memf 60 rfl rfl, by decide +kernel⟩⟩)⟩,
  List.forall_mem_cons.mpr ⟨fun pc i hi => by rw [sm_k1 hi]; exact ⟨sm_al1 (⟨"TwoWayGrammarModel", sc_T11, 96, "TwoWayGrammarModel", rfl, by decide, sc_in11, sm_memf 1567 rfl rfl, Or.inl rfl⟩), trivial⟩,
  List.forall_mem_cons.mpr ⟨fun pc i hi => by rw [sm_k1 hi]; exact ⟨sm_al1 (⟨"TwoWayGrammarModel", sc_T11, 96, "TwoWayGrammarModel", rfl, by decide, sc_in11, sm_memf 1582 rfl rfl, Or.inl rfl⟩), trivial⟩,
  List.forall_mem_cons.mpr ⟨fun pc i hi => by rw [sm_k1 hi]; exact ⟨sm_al1 (⟨"TwoWayGrammarModel", sc_T11, 96, "TwoWayGrammarModel", rfl, by decide, sc_in11, sm_memf 1584 rfl rfl, Or.inl rfl⟩), trivial⟩,
  List.forall_mem_cons.mpr ⟨fun pc i hi => by rw [sm_k1 hi]; exact ⟨sm_al1 (⟨"TwoWayGrammarModel", sc_T11, 96, "TwoWayGrammarModel", rfl, by decide, sc_in11, sm_memf 1583 rfl rfl, Or.inl rfl⟩), trivial⟩,
  List.forall_mem_cons.mpr ⟨fun pc i hi => by rw [sm_k1 hi]; exact ⟨sm_al1 (⟨"TwoWayGrammarModel", sc_T11, 96, "TwoWayGrammarModel", rfl, by decide, sc_in11, sm_memf 1609 rfl rfl, Or.inl rfl⟩), trivial⟩,
  List.forall_mem_cons.mpr ⟨fun pc i hi => by rw [sm_k1 hi]; exact ⟨sm_al1 (⟨"TwoWayGrammarModel", sc_T11, 96, "TwoWayGrammarModel", rfl, by decide, sc_in11, sm_memf 1611 rfl rfl, Or.inl rfl⟩), trivial⟩,
  List.forall_mem_cons.mpr ⟨fun pc i hi => by rw [sm_k8 hi]; exact ⟨sm_memf 1960 rfl rfl, trivial⟩,
  List.forall_mem_cons.mpr ⟨fun pc i hi => by rw [sm_k8 hi]; exact ⟨sm_memf 1961 rfl rfl, trivial⟩,
  List.forall_mem_cons.mpr ⟨fun pc i hi => by rw [sm_k8 hi]; exact ⟨sm_memf 1962 rfl rfl, trivial⟩,
  List.forall_mem_cons.mpr ⟨fun pc i hi => by rw [sm_k8 hi]; exact ⟨sm_memf 1963 rfl rfl, trivial⟩,
  List.forall_mem_cons.mpr ⟨fun pc i hi => by rw [sm_k8 hi]; exact ⟨sm_memf 1964 rfl rfl, trivial⟩,
  List.forall_mem_cons.mpr ⟨fun pc i hi => by rw [sm_k8 hi]; exact ⟨sm_memf 1965 rfl rfl, trivial⟩,
  fun _ h => absurd h List.not_mem_nil⟩⟩⟩⟩⟩⟩⟩⟩⟩⟩⟩⟩⟩⟩⟩⟩⟩⟩⟩⟩
def sp_27_6 : List ((Nat × Nat) × List Nat) := [((8, 340), [363554]), ((1, 53), [25, 0, 11]), ((1, 56), [26, 0, 11]), ((11, 365), [0, 0, 11, 191]), ((1, 351), [10, 0, 11]), ((1, 34), [19, 0, 11]), ((1, 31), [18, 0, 11]), ((1, 81), [34, 0, 11]), ((1, 90), [37, 0, 11]), ((1, 105), [42, 0, 11]), ((1, 114), [45, 0, 11]), ((1, 96), [39, 0, 11]), ((2, 407), [47, 3, 0, 11]), ((1, 407), [47, 0, 11]), ((11, 411), [0, 1, 11, 195]), ((11, 414), [0, 1, 11, 196]), ((11, 417), [0, 1, 11, 199]), ((11, 420), [0, 2, 11, 200]), ((1, 28), [17, 0, 11]), ((1, 74), [32, 0, 11])]
set_option maxRecDepth 20000 in
theorem sp_ok_27_6 {K : sm_H} (hK : sc_KOk K) (mn : String) : sm_poolOk sc_Ts sc_sx sc_zx sc_oc K sc_cl sc_Y "TwoWayGrammarModel" mn sp_27_6 :=
  List.forall_mem_cons.mpr ⟨fun pc i hi => by rw [sm_k8 hi]; exact ⟨sm_memf 1966 rfl rfl, trivial⟩,
  List.forall_mem_cons.mpr ⟨fun pc i hi => by rw [sm_k1 hi]; exact ⟨sm_al1 (⟨"TwoWayGrammarModel", sc_T11, 96, "TwoWayGrammarModel", rfl, by decide, sc_in11, sm_memf 1580 rfl rfl, Or.inl rfl⟩), trivial⟩,
  List.forall_mem_cons.mpr ⟨fun pc i hi => by rw [sm_k1 hi]; exact ⟨sm_al1 (⟨"TwoWayGrammarModel", sc_T11, 96, "TwoWayGrammarModel", rfl, by decide, sc_in11, sm_memf 1581 rfl rfl, Or.inl rfl⟩), trivial⟩,
  List.forall_mem_cons.mpr ⟨fun pc i hi => by rw [sm_k11 hi]; exact ⟨trivial, sm_pk1 (⟨"TwoWayGrammarModel", rfl, sm_memf 1973 rfl rfl, sm_memf 112 rfl rfl, Or.inl ⟨sm_memf 1971 rfl rfl, sm_memf 59 rfl rfl, by decide +kernel⟩⟩)⟩,
  List.forall_mem_cons.mpr ⟨fun pc i hi => by rw [sm_k1 hi]; exact ⟨sm_al1 (⟨"TwoWayGrammarModel", sc_T11, 96, "TwoWayGrammarModel", rfl, by decide, sc_in11, sm_memf 1565 rfl rfl, Or.inl rfl⟩), trivial⟩,
  List.forall_mem_cons.mpr ⟨fun pc i hi => by rw [sm_k1 hi]; exact ⟨sm_al1 (⟨"TwoWayGrammarModel", sc_T11, 96, "TwoWayGrammarModel", rfl, by decide, sc_in11, sm_memf 1574 rfl rfl, Or.inl rfl⟩), trivial⟩,
  List.forall_mem_cons.mpr ⟨fun pc i hi => by rw [sm_k1 hi]; exact ⟨sm_al1 (⟨"TwoWayGrammarModel", sc_T11, 96, "TwoWayGrammarModel", rfl, by decide, sc_in11, sm_memf 1573 rfl rfl, Or.inl rfl⟩), trivial⟩,
  List.forall_mem_cons.mpr ⟨fun pc i hi => by rw [sm_k1 hi]; exact ⟨sm_al1 (⟨"TwoWayGrammarModel", sc_T11, 96, "TwoWayGrammarModel", rfl, by decide, sc_in11, sm_memf 1589 rfl rfl, Or.inl rfl⟩), trivial⟩,
  List.forall_mem_cons.mpr ⟨fun pc i hi => by rw [sm_k1 hi]; exact ⟨sm_al1 (⟨"TwoWayGrammarModel", sc_T11, 96, "TwoWayGrammarModel", rfl, by decide, sc_in11, sm_memf 1592 rfl rfl, Or.inl rfl⟩), trivial⟩,
  List.forall_mem_cons.mpr ⟨fun pc i hi => by rw [sm_k1 hi]; exact ⟨sm_al1 (⟨"TwoWayGrammarModel", sc_T11, 96, "TwoWayGrammarModel", rfl, by decide, sc_in11, sm_memf 1597 rfl rfl, Or.inl rfl⟩), trivial⟩,
  List.forall_mem_cons.mpr ⟨fun pc i hi => by rw [sm_k1 hi]; exact ⟨sm_al1 (⟨"TwoWayGrammarModel", sc_T11, 96, "TwoWayGrammarModel", rfl, by decide, sc_in11, sm_memf 1600 rfl rfl, Or.inl rfl⟩), trivial⟩,
  List.forall_mem_cons.mpr ⟨fun pc i hi => by rw [sm_k1 hi]; exact ⟨sm_al1 (⟨"TwoWayGrammarModel", sc_T11, 96, "TwoWayGrammarModel", rfl, by decide, sc_in11, sm_memf 1594 rfl rfl, Or.inl rfl⟩), trivial⟩,
  List.forall_mem_cons.mpr ⟨fun pc i hi => by rw [sm_k2 hi]; exact ⟨sm_al1 (⟨"TwoWayGrammarModel", sc_T11, 96, "TwoWayGrammarModel", sc_ty11, rfl, by decide, sc_in11, sm_memf 1602 rfl rfl, Or.inl rfl, sc_tyok11, sc_nm11, Or.inl rfl, Or.inr (Or.inr (Or.inr (Or.inl ⟨rfl, rfl⟩)))⟩), trivial⟩,
  List.forall_mem_cons.mpr ⟨fun pc i hi => by rw [sm_k1 hi]; exact ⟨sm_al1 (⟨"TwoWayGrammarModel", sc_T11, 96, "TwoWayGrammarModel", rfl, by decide, sc_in11, sm_memf 1602 rfl rfl, Or.inl rfl⟩), trivial⟩,
  List.forall_mem_cons.mpr ⟨fun pc i hi => by rw [sm_k11 hi]; exact ⟨trivial, sm_pk1 (⟨"TwoWayGrammarModel", rfl, sm_memf 1989 rfl rfl, sm_memf 112 rfl rfl, Or.inl ⟨sm_memf 1987 rfl rfl, sm_memf 63 rfl rfl, by decide +kernel⟩⟩)⟩,
  List.forall_mem_cons.mpr ⟨fun pc i hi => by rw [sm_k11 hi]; exact ⟨trivial, sm_pk1 (⟨"TwoWayGrammarModel", rfl, sm_memf 1993 rfl rfl, sm_memf 112 rfl rfl, Or.inl ⟨sm_memf 1991 rfl rfl, sm_memf 64 rfl rfl, by decide +kernel⟩⟩)⟩,
  List.forall_mem_cons.mpr ⟨fun pc i hi => by rw [sm_k11 hi]; exact ⟨trivial, sm_pk1 (⟨"TwoWayGrammarModel", rfl, sm_memf 2005 rfl rfl, sm_memf 112 rfl rfl, Or.inl ⟨sm_memf 2003 rfl rfl, sm_memf 67 rfl rfl, by decide +kernel⟩⟩)⟩,
  List.forall_mem_cons.mpr ⟨fun pc i hi => by rw [sm_k11 hi]; exact ⟨trivial, sm_pk1 (⟨"TwoWayGrammarModel", rfl, sm_memf 2009 rfl rfl, sm_memf 112 rfl rfl, Or.inl ⟨sm_memf 2007 rfl rfl, sm_memf 68 rfl rfl, by decide +kernel⟩⟩)⟩,
  List.forall_mem_cons.mpr ⟨fun pc i hi => by rw [sm_k1 hi]; exact ⟨sm_al1 (⟨"TwoWayGrammarModel", sc_T11, 96, "TwoWayGrammarModel", rfl, by decide, sc_in11, sm_memf 1572 rfl rfl, Or.inl rfl⟩), trivial⟩,
  List.forall_mem_cons.mpr ⟨fun pc i hi => by rw [sm_k1 hi]; exact ⟨sm_al1 (⟨"TwoWayGrammarModel", sc_T11, 96, "TwoWayGrammarModel", rfl, by decide, sc_in11, sm_memf 1587 rfl rfl, Or.inl rfl⟩), trivial⟩,
  fun _ h => absurd h List.not_mem_nil⟩⟩⟩⟩⟩⟩⟩⟩⟩⟩⟩⟩⟩⟩⟩⟩⟩⟩⟩⟩
def sp_27_7 : List ((Nat × Nat) × List Nat) := [((1, 84), [35, 0, 11]), ((1, 99), [40, 0, 11]), ((1, 108), [43, 0, 11]), ((11, 401), [0, 1, 11, 197]), ((1, 117), [46, 0, 11]), ((11, 404), [0, 1, 11, 198]), ((1, 78), [33, 0, 11]), ((1, 87), [36, 0, 11]), ((1, 102), [41, 0, 11]), ((1, 111), [44, 0, 11]), ((1, 93), [38, 0, 11]), ((11, 424), [0, 3, 11, 202]), ((11, 428), [0, 2, 11, 203]), ((1, 435), [7, 0, 11]), ((1, 441), [63, 0, 11]), ((2, 563), [84, 0, 0, 11]), ((2, 566), [85, 0, 0, 11]), ((2, 560), [94, 3, 0, 11]), ((2, 557), [93, 3, 0, 11]), ((11, 583), [0, 1, 11, 206])]
set_option maxRecDepth 20000 in
theorem sp_ok_27_7 {K : sm_H} (hK : sc_KOk K) (mn : String) : sm_poolOk sc_Ts sc_sx sc_zx sc_oc K sc_cl sc_Y "TwoWayGrammarModel" mn sp_27_7 :=
  List.forall_mem_cons.mpr ⟨fun pc i hi => by rw [sm_k1 hi]; exact ⟨sm_al1 (⟨"TwoWayGrammarModel", sc_T11, 96, "TwoWayGrammarModel", rfl, by decide, sc_in11, sm_memf 1590 rfl rfl, Or.inl rfl⟩), trivial⟩,
  List.forall_mem_cons.mpr ⟨fun pc i hi => by rw [sm_k1 hi]; exact ⟨sm_al1 (⟨"TwoWayGrammarModel", sc_T11, 96, "TwoWayGrammarModel", rfl, by decide, sc_in11, sm_memf 1595 rfl rfl, Or.inl rfl⟩), trivial⟩,
  List.forall_mem_cons.mpr ⟨fun pc i hi => by rw [sm_k1 hi]; exact ⟨sm_al1 (⟨"TwoWayGrammarModel", sc_T11, 96, "TwoWayGrammarModel", rfl, by decide, sc_in11, sm_memf 1598 rfl rfl, Or.inl rfl⟩), trivial⟩,
  List.forall_mem_cons.mpr ⟨fun pc i hi => by rw [sm_k11 hi]; exact ⟨trivial, sm_pk1 (⟨"TwoWayGrammarModel", rfl, sm_memf 1997 rfl rfl, sm_memf 112 rfl rfl, Or.inl ⟨sm_memf 1995 rfl rfl, sm_memf 65 rfl rfl, by decide +kernel⟩⟩)⟩,
  List.forall_mem_cons.mpr ⟨fun pc i hi => by rw [sm_k1 hi]; exact ⟨sm_al1 (⟨"TwoWayGrammarModel", sc_T11, 96, "TwoWayGrammarModel", rfl, by decide, sc_in11, sm_memf 1601 rfl rfl, Or.inl rfl⟩), trivial⟩,
  List.forall_mem_cons.mpr ⟨fun pc i hi => by rw [sm_k11 hi]; exact ⟨trivial, sm_pk1 (⟨"TwoWayGrammarModel", rfl, sm_memf 2001 rfl rfl, sm_memf 112 rfl rfl, Or.inl ⟨sm_memf 1999 rfl rfl, sm_memf 66 rfl rfl, by decide +kernel⟩⟩)⟩,
  List.forall_mem_cons.mpr ⟨fun pc i hi => by rw [sm_k1 hi]; exact ⟨sm_al1 (⟨"TwoWayGrammarModel", sc_T11, 96, "TwoWayGrammarModel", rfl, by decide, sc_in11, sm_memf 1588 rfl rfl, Or.inl rfl⟩), trivial⟩,
  List.forall_mem_cons.mpr ⟨fun pc i hi => by rw [sm_k1 hi]; exact ⟨sm_al1 (⟨"TwoWayGrammarModel", sc_T11, 96, "TwoWayGrammarModel", rfl, by decide, sc_in11, sm_memf 1591 rfl rfl, Or.inl rfl⟩), trivial⟩,
  List.forall_mem_cons.mpr ⟨fun pc i hi => by rw [sm_k1 hi]; exact ⟨sm_al1 (⟨"TwoWayGrammarModel", sc_T11, 96, "TwoWayGrammarModel", rfl, by decide, sc_in11, sm_memf 1596 rfl rfl, Or.inl rfl⟩), trivial⟩,
  List.forall_mem_cons.mpr ⟨fun pc i hi => by rw [sm_k1 hi]; exact ⟨sm_al1 (⟨"TwoWayGrammarModel", sc_T11, 96, "TwoWayGrammarModel", rfl, by decide, sc_in11, sm_memf 1599 rfl rfl, Or.inl rfl⟩), trivial⟩,
  List.forall_mem_cons.mpr ⟨fun pc i hi => by rw [sm_k1 hi]; exact ⟨sm_al1 (⟨"TwoWayGrammarModel", sc_T11, 96, "TwoWayGrammarModel", rfl, by decide, sc_in11, sm_memf 1593 rfl rfl, Or.inl rfl⟩), trivial⟩,
  List.forall_mem_cons.mpr ⟨fun pc i hi => by rw [sm_k11 hi]; exact ⟨trivial, sm_pk1 (⟨"TwoWayGrammarModel", rfl, sm_memf 2017 rfl rfl, sm_memf 112 rfl rfl, Or.inl ⟨sm_memf 2015 rfl rfl, sm_memf 70 rfl rfl, by decide +kernel⟩⟩)⟩,
  List.forall_mem_cons.mpr ⟨fun pc i hi => by rw [sm_k11 hi]; exact ⟨trivial, sm_pk1 (⟨"TwoWayGrammarModel", rfl, sm_memf 2021 rfl rfl, sm_memf 112 rfl rfl, Or.inl ⟨sm_memf 2019 rfl rfl, sm_memf 71 rfl rfl, by decide +kernel⟩⟩)⟩,
  List.forall_mem_cons.mpr ⟨fun pc i hi => by rw [sm_k1 hi]; exact ⟨sm_al1 (⟨"TwoWayGrammarModel", sc_T11, 96, "TwoWayGrammarModel", rfl, by decide, sc_in11, sm_memf 1562 rfl rfl, Or.inl rfl⟩), trivial⟩,
  List.forall_mem_cons.mpr ⟨fun pc i hi => by rw [sm_k1 hi]; exact ⟨sm_al1 (⟨"TwoWayGrammarModel", sc_T11, 96, "TwoWayGrammarModel", rfl, by decide, sc_in11, sm_memf 1618 rfl rfl, Or.inl rfl⟩), trivial⟩,
  List.forall_mem_cons.mpr ⟨fun pc i hi => by rw [sm_k2 hi]; exact ⟨sm_al1 (⟨"TwoWayGrammarModel", sc_T11, 96, "TwoWayGrammarModel", sc_ty11, rfl, by decide, sc_in11, sm_memf 1639 rfl rfl, Or.inl rfl, sc_tyok11, sc_nm11, Or.inl rfl, Or.inl ⟨rfl, rfl⟩⟩), trivial⟩,
  List.forall_mem_cons.mpr ⟨fun pc i hi => by rw [sm_k2 hi]; exact ⟨sm_al1 (⟨"TwoWayGrammarModel", sc_T11, 96, "TwoWayGrammarModel", sc_ty11, rfl, by decide, sc_in11, sm_memf 1640 rfl rfl, Or.inl rfl, sc_tyok11, sc_nm11, Or.inl rfl, Or.inl ⟨rfl, rfl⟩⟩), trivial⟩,
  List.forall_mem_cons.mpr ⟨fun pc i hi => by rw [sm_k2 hi]; exact ⟨sm_al1 (⟨"TwoWayGrammarModel", sc_T11, 96, "TwoWayGrammarModel", sc_ty11, rfl, by decide, sc_in11, sm_memf 1649 rfl rfl, Or.inl rfl, sc_tyok11, sc_nm11, Or.inl rfl, Or.inr (Or.inr (Or.inr (Or.inl ⟨rfl, rfl⟩)))⟩), trivial⟩,
  List.forall_mem_cons.mpr ⟨fun pc i hi => by rw [sm_k2 hi]; exact ⟨sm_al1 (⟨"TwoWayGrammarModel", sc_T11, 96, "TwoWayGrammarModel", sc_ty11, rfl, by decide, sc_in11, sm_memf 1648 rfl rfl, Or.inl rfl, sc_tyok11, sc_nm11, Or.inl rfl, Or.inr (Or.inr (Or.inr (Or.inl ⟨rfl, rfl⟩)))⟩), trivial⟩,
  List.forall_mem_cons.mpr ⟨fun pc i hi => by rw [sm_k11 hi]; exact ⟨trivial, sm_pk1 (⟨"TwoWayGrammarModel", rfl, sm_memf 2033 rfl rfl, sm_memf 112 rfl rfl, Or.inl ⟨sm_memf 2031 rfl rfl, sm_memf 72 rfl rfl, by decide +kernel⟩⟩)⟩,
  fun _ h => absurd h List.not_mem_nil⟩⟩⟩⟩⟩⟩⟩⟩⟩⟩⟩⟩⟩⟩⟩⟩⟩⟩⟩⟩
def sp_27_8 : List ((Nat × Nat) × List Nat) := [((1, 487), [92, 0, 11]), ((1, 566), [85, 0, 11]), ((1, 16), [6, 0, 11]), ((1, 192), [91, 0, 11]), ((2, 586), [3, 0, 0, 11]), ((1, 586), [3, 0, 11]), ((2, 466), [76, 0, 0, 11]), ((2, 469), [81, 0, 0, 11]), ((2, 472), [64, 0, 0, 11]), ((2, 475), [80, 0, 0, 11]), ((2, 478), [79, 0, 0, 11]), ((2, 481), [78, 0, 0, 11]), ((2, 463), [77, 0, 0, 11]), ((2, 484), [82, 0, 0, 11]), ((2, 487), [92, 3, 0, 11]), ((11, 490), [0, 1, 11, 207]), ((7, 493), [0, 40000]), ((1, 463), [77, 0, 11]), ((1, 484), [82, 0, 11]), ((1, 180), [87, 0, 11])]
set_option maxRecDepth 20000 in
theorem sp_ok_27_8 {K : sm_H} (hK : sc_KOk K) (mn : String) : sm_poolOk sc_Ts sc_sx sc_zx sc_oc K sc_cl sc_Y "TwoWayGrammarModel" mn sp_27_8 :=
  List.forall_mem_cons.mpr ⟨fun pc i hi => by rw [sm_k1 hi]; exact ⟨sm_al1 (⟨"TwoWayGrammarModel", sc_T11, 96, "TwoWayGrammarModel", rfl, by decide, sc_in11, sm_memf 1647 rfl rfl, Or.inl rfl⟩), trivial⟩,
  List.forall_mem_cons.mpr ⟨fun pc i hi => by rw [sm_k1 hi]; exact ⟨sm_al1 (⟨"TwoWayGrammarModel", sc_T11, 96, "TwoWayGrammarModel", rfl, by decide, sc_in11, sm_memf 1640 rfl rfl, Or.inl rfl⟩), trivial⟩,
  List.forall_mem_cons.mpr ⟨fun pc i hi => by rw [sm_k1 hi]; exact ⟨sm_al1 (⟨"TwoWayGrammarModel", sc_T11, 96, "TwoWayGrammarModel", rfl, by decide, sc_in11, sm_memf 1561 rfl rfl, Or.inl rfl⟩), trivial⟩,
  List.forall_mem_cons.mpr ⟨fun pc i hi => by rw [sm_k1 hi]; exact ⟨sm_al1 (⟨"TwoWayGrammarModel", sc_T11, 96, "TwoWayGrammarModel", rfl, by decide, sc_in11, sm_memf 1646 rfl rfl, Or.inl rfl⟩), trivial⟩,
  List.forall_mem_cons.mpr ⟨fun pc i hi => by rw [sm_k2 hi]; exact ⟨sm_al1 (⟨"TwoWayGrammarModel", sc_T11, 96, "TwoWayGrammarModel", sc_ty11, rfl, by decide, sc_in11, sm_memf 1558 rfl rfl, Or.inl rfl, sc_tyok11, sc_nm11, Or.inl rfl, Or.inl ⟨rfl, rfl⟩⟩), trivial⟩,
  List.forall_mem_cons.mpr ⟨fun pc i hi => by rw [sm_k1 hi]; exact ⟨sm_al1 (⟨"TwoWayGrammarModel", sc_T11, 96, "TwoWayGrammarModel", rfl, by decide, sc_in11, sm_memf 1558 rfl rfl, Or.inl rfl⟩), trivial⟩,
  List.forall_mem_cons.mpr ⟨fun pc i hi => by rw [sm_k2 hi]; exact ⟨sm_al1 (⟨"TwoWayGrammarModel", sc_T11, 96, "TwoWayGrammarModel", sc_ty11, rfl, by decide, sc_in11, sm_memf 1631 rfl rfl, Or.inl rfl, sc_tyok11, sc_nm11, Or.inl rfl, Or.inl ⟨rfl, rfl⟩⟩), trivial⟩,
  List.forall_mem_cons.mpr ⟨fun pc i hi => by rw [sm_k2 hi]; exact ⟨sm_al1 (⟨"TwoWayGrammarModel", sc_T11, 96, "TwoWayGrammarModel", sc_ty11, rfl, by decide, sc_in11, sm_memf 1636 rfl rfl, Or.inl rfl, sc_tyok11, sc_nm11, Or.inl rfl, Or.inl ⟨rfl, rfl⟩⟩), trivial⟩,
  List.forall_mem_cons.mpr ⟨fun pc i hi => by rw [sm_k2 hi]; exact ⟨sm_al1 (⟨"TwoWayGrammarModel", sc_T11, 96, "TwoWayGrammarModel", sc_ty11, rfl, by decide, sc_in11, sm_memf 1619 rfl rfl, Or.inl rfl, sc_tyok11, sc_nm11, Or.inl rfl, Or.inl ⟨rfl, rfl⟩⟩), trivial⟩,
  List.forall_mem_cons.mpr ⟨fun pc i hi => by rw [sm_k2 hi]; exact ⟨sm_al1 (⟨"TwoWayGrammarModel", sc_T11, 96, "TwoWayGrammarModel", sc_ty11, rfl, by decide, sc_in11, sm_memf 1635 rfl rfl, Or.inl rfl, sc_tyok11, sc_nm11, Or.inl rfl, Or.inl ⟨rfl, rfl⟩⟩), trivial⟩,
  List.forall_mem_cons.mpr ⟨fun pc i hi => by rw [sm_k2 hi]; exact ⟨sm_al1 (⟨"TwoWayGrammarModel", sc_T11, 96, "TwoWayGrammarModel", sc_ty11, rfl, by decide, sc_in11, sm_memf 1634 rfl rfl, Or.inl rfl, sc_tyok11, sc_nm11, Or.inl rfl, Or.inl ⟨rfl, rfl⟩⟩), trivial⟩,
  List.forall_mem_cons.mpr ⟨fun pc i hi => by rw [sm_k2 hi]; exact ⟨sm_al1 (⟨"TwoWayGrammarModel", sc_T11, 96, "TwoWayGrammarModel", sc_ty11, rfl, by decide, sc_in11, sm_memf 1633 rfl rfl, Or.inl rfl, sc_tyok11, sc_nm11, Or.inl rfl, Or.inl ⟨rfl, rfl⟩⟩), trivial⟩,
  List.forall_mem_cons.mpr ⟨fun pc i hi => by rw [sm_k2 hi]; exact ⟨sm_al1 (⟨"TwoWayGrammarModel", sc_T11, 96, "TwoWayGrammarModel", sc_ty11, rfl, by decide, sc_in11, sm_memf 1632 rfl rfl, Or.inl rfl, sc_tyok11, sc_nm11, Or.inl rfl, Or.inl ⟨rfl, rfl⟩⟩), trivial⟩,
  List.forall_mem_cons.mpr ⟨fun pc i hi => by rw [sm_k2 hi]; exact ⟨sm_al1 (⟨"TwoWayGrammarModel", sc_T11, 96, "TwoWayGrammarModel", sc_ty11, rfl, by decide, sc_in11, sm_memf 1637 rfl rfl, Or.inl rfl, sc_tyok11, sc_nm11, Or.inl rfl, Or.inl ⟨rfl, rfl⟩⟩), trivial⟩,
  List.forall_mem_cons.mpr ⟨fun pc i hi => by rw [sm_k2 hi]; exact ⟨sm_al1 (⟨"TwoWayGrammarModel", sc_T11, 96, "TwoWayGrammarModel", sc_ty11, rfl, by decide, sc_in11, sm_memf 1647 rfl rfl, Or.inl rfl, sc_tyok11, sc_nm11, Or.inl rfl, Or.inr (Or.inr (Or.inr (Or.inl ⟨rfl, rfl⟩)))⟩), trivial⟩,
  List.forall_mem_cons.mpr ⟨fun pc i hi => by rw [sm_k11 hi]; exact ⟨trivial, sm_pk1 (⟨"TwoWayGrammarModel", rfl, sm_memf 2037 rfl rfl, sm_memf 112 rfl rfl, Or.inl ⟨sm_memf 2035 rfl rfl, sm_memf 73 rfl rfl, by decide +kernel⟩⟩)⟩,
  List.forall_mem_cons.mpr ⟨fun pc i hi => by rw [sm_k7 hi]; exact ⟨sm_memf 2047 rfl rfl, trivial⟩,
  List.forall_mem_cons.mpr ⟨fun pc i hi => by rw [sm_k1 hi]; exact ⟨sm_al1 (⟨"TwoWayGrammarModel", sc_T11, 96, "TwoWayGrammarModel", rfl, by decide, sc_in11, sm_memf 1632 rfl rfl, Or.inl rfl⟩), trivial⟩,
  List.forall_mem_cons.mpr ⟨fun pc i hi => by rw [sm_k1 hi]; exact ⟨sm_al1 (⟨"TwoWayGrammarModel", sc_T11, 96, "TwoWayGrammarModel", rfl, by decide, sc_in11, sm_memf 1637 rfl rfl, Or.inl rfl⟩), trivial⟩,
  List.forall_mem_cons.mpr ⟨fun pc i hi => by rw [sm_k1 hi]; exact ⟨sm_al1 (⟨"TwoWayGrammarModel", sc_T11, 96, "TwoWayGrammarModel", rfl, by decide, sc_in11, sm_memf 1642 rfl rfl, Or.inl rfl⟩), trivial⟩,
  fun _ h => absurd h List.not_mem_nil⟩⟩⟩⟩⟩⟩⟩⟩⟩⟩⟩⟩⟩⟩⟩⟩⟩⟩⟩⟩
def sp_27_9 : List ((Nat × Nat) × List Nat) := [((1, 183), [88, 0, 11]), ((1, 177), [86, 0, 11]), ((11, 494), [0, 2, 11, 210]), ((11, 498), [0, 1, 11, 223]), ((1, 189), [90, 0, 11]), ((1, 481), [78, 0, 11]), ((1, 472), [64, 0, 11]), ((11, 501), [0, 0, 11, 226]), ((11, 504), [0, 2, 11, 227]), ((1, 478), [79, 0, 11]), ((1, 475), [80, 0, 11]), ((1, 466), [76, 0, 11]), ((1, 138), [60, 0, 11]), ((1, 469), [81, 0, 11]), ((1, 141), [61, 0, 11]), ((1, 514), [83, 0, 11]), ((2, 514), [83, 0, 0, 11]), ((11, 517), [0, 2, 11, 208]), ((11, 521), [0, 3, 11, 209]), ((1, 156), [69, 0, 11])]
set_option maxRecDepth 20000 in
theorem sp_ok_27_9 {K : sm_H} (hK : sc_KOk K) (mn : String) : sm_poolOk sc_Ts sc_sx sc_zx sc_oc K sc_cl sc_Y "TwoWayGrammarModel" mn sp_27_9 :=
  List.forall_mem_cons.mpr ⟨fun pc i hi => by rw [sm_k1 hi]; exact ⟨sm_al1 (⟨"TwoWayGrammarModel", sc_T11, 96, "TwoWayGrammarModel", rfl, by decide, sc_in11, sm_memf 1643 rfl rfl, Or.inl rfl⟩), trivial⟩,
  List.forall_mem_cons.mpr ⟨fun pc i hi => by rw [sm_k1 hi]; exact ⟨sm_al1 (⟨"TwoWayGrammarModel", sc_T11, 96, "TwoWayGrammarModel", rfl, by decide, sc_in11, sm_memf 1641 rfl rfl, Or.inl rfl⟩), trivial⟩,
  List.forall_mem_cons.mpr ⟨fun pc i hi => by rw [sm_k11 hi]; exact ⟨trivial, sm_pk1 (⟨"TwoWayGrammarModel", rfl, sm_memf 2050 rfl rfl, sm_memf 112 rfl rfl, Or.inl ⟨sm_memf 2048 rfl rfl, sm_memf 76 rfl rfl, by decide +kernel⟩⟩)⟩,
  List.forall_mem_cons.mpr ⟨fun pc i hi => by rw [sm_k11 hi]; exact ⟨trivial, sm_pk1 (⟨"TwoWayGrammarModel", rfl, sm_memf 2106 rfl rfl, sm_memf 112 rfl rfl, Or.inl ⟨sm_memf 2104 rfl rfl, sm_memf 88 rfl rfl, by decide +kernel⟩⟩)⟩,
  List.forall_mem_cons.mpr ⟨fun pc i hi => by rw [sm_k1 hi]; exact ⟨sm_al1 (⟨"TwoWayGrammarModel", sc_T11, 96, "TwoWayGrammarModel", rfl, by decide, sc_in11, sm_memf 1645 rfl rfl, Or.inl rfl⟩), trivial⟩,
  List.forall_mem_cons.mpr ⟨fun pc i hi => by rw [sm_k1 hi]; exact ⟨sm_al1 (⟨"TwoWayGrammarModel", sc_T11, 96, "TwoWayGrammarModel", rfl, by decide, sc_in11, sm_memf 1633 rfl rfl, Or.inl rfl⟩), trivial⟩,
  List.forall_mem_cons.mpr ⟨fun pc i hi => by rw [sm_k1 hi]; exact ⟨sm_al1 (⟨"TwoWayGrammarModel", sc_T11, 96, "TwoWayGrammarModel", rfl, by decide, sc_in11, sm_memf 1619 rfl rfl, Or.inl rfl⟩), trivial⟩,
  List.forall_mem_cons.mpr ⟨fun pc i hi => by rw [sm_k11 hi]; exact ⟨trivial, sm_pk1 (⟨"TwoWayGrammarModel", rfl, sm_memf 2118 rfl rfl, sm_memf 112 rfl rfl, Or.inl ⟨sm_memf 2116 rfl rfl, sm_memf 91 rfl rfl, by decide +kernel⟩⟩)⟩,
  List.forall_mem_cons.mpr ⟨fun pc i hi => by rw [sm_k11 hi]; exact ⟨trivial, sm_pk1 (⟨"TwoWayGrammarModel", rfl, sm_memf 2122 rfl rfl, sm_memf 112 rfl rfl, Or.inl ⟨sm_memf 2120 rfl rfl, sm_memf 92 rfl rfl, by decide +kernel⟩⟩)⟩,
  List.forall_mem_cons.mpr ⟨fun pc i hi => by rw [sm_k1 hi]; exact ⟨sm_al1 (⟨"TwoWayGrammarModel", sc_T11, 96, "TwoWayGrammarModel", rfl, by decide, sc_in11, sm_memf 1634 rfl rfl, Or.inl rfl⟩), trivial⟩,
  List.forall_mem_cons.mpr ⟨fun pc i hi => by rw [sm_k1 hi]; exact ⟨sm_al1 (⟨"TwoWayGrammarModel", sc_T11, 96, "TwoWayGrammarModel", rfl, by decide, sc_in11, sm_memf 1635 rfl rfl, Or.inl rfl⟩), trivial⟩,
  List.forall_mem_cons.mpr ⟨fun pc i hi => by rw [sm_k1 hi]; exact ⟨sm_al1 (⟨"TwoWayGrammarModel", sc_T11, 96, "TwoWayGrammarModel", rfl, by decide, sc_in11, sm_memf 1631 rfl rfl, Or.inl rfl⟩), trivial⟩,
  List.forall_mem_cons.mpr ⟨fun pc i hi => by rw [sm_k1 hi]; exact ⟨sm_al1 (⟨"TwoWayGrammarModel", sc_T11, 96, "TwoWayGrammarModel", rfl, by decide, sc_in11, sm_memf 1615 rfl rfl, Or.inl rfl⟩), trivial⟩,
  List.forall_mem_cons.mpr ⟨fun pc i hi => by rw [sm_k1 hi]; exact ⟨sm_al1 (⟨"TwoWayGrammarModel", sc_T11, 96, "TwoWayGrammarModel", rfl, by decide, sc_in11, sm_memf 1636 rfl rfl, Or.inl rfl⟩), trivial⟩,
  List.forall_mem_cons.mpr ⟨fun pc i hi => by rw [sm_k1 hi]; exact ⟨sm_al1 (⟨"TwoWayGrammarModel", sc_T11, 96, "TwoWayGrammarModel", rfl, by decide, sc_in11, sm_memf 1616 rfl rfl, Or.inl rfl⟩), trivial⟩,
  List.forall_mem_cons.mpr ⟨fun pc i hi => by rw [sm_k1 hi]; exact ⟨sm_al1 (⟨"TwoWayGrammarModel", sc_T11, 96, "TwoWayGrammarModel", rfl, by decide, sc_in11, sm_memf 1638 rfl rfl, Or.inl rfl⟩), trivial⟩,
  List.forall_mem_cons.mpr ⟨fun pc i hi => by rw [sm_k2 hi]; exact ⟨sm_al1 (⟨"TwoWayGrammarModel", sc_T11, 96, "TwoWayGrammarModel", sc_ty11, rfl, by decide, sc_in11, sm_memf 1638 rfl rfl, Or.inl rfl, sc_tyok11, sc_nm11, Or.inl rfl, Or.inl ⟨rfl, rfl⟩⟩), trivial⟩,
  List.forall_mem_cons.mpr ⟨fun pc i hi => by rw [sm_k11 hi]; exact ⟨trivial, sm_pk1 (⟨"TwoWayGrammarModel", rfl, sm_memf 2041 rfl rfl, sm_memf 112 rfl rfl, Or.inl ⟨sm_memf 2039 rfl rfl, sm_memf 74 rfl rfl, by decide +kernel⟩⟩)⟩,
  List.forall_mem_cons.mpr ⟨fun pc i hi => by rw [sm_k11 hi]; exact ⟨trivial, sm_pk1 (⟨"TwoWayGrammarModel", rfl, sm_memf 2045 rfl rfl, sm_memf 112 rfl rfl, Or.inl ⟨sm_memf 2043 rfl rfl, sm_memf 75 rfl rfl, by decide +kernel⟩⟩)⟩,
  List.forall_mem_cons.mpr ⟨fun pc i hi => by rw [sm_k1 hi]; exact ⟨sm_al1 (⟨"TwoWayGrammarModel", sc_T11, 96, "TwoWayGrammarModel", rfl, by decide, sc_in11, sm_memf 1624 rfl rfl, Or.inl rfl⟩), trivial⟩,
  fun _ h => absurd h List.not_mem_nil⟩⟩⟩⟩⟩⟩⟩⟩⟩⟩⟩⟩⟩⟩⟩⟩⟩⟩⟩⟩
def sp_27_10 : List ((Nat × Nat) × List Nat) := [((1, 171), [74, 0, 11]), ((1, 159), [70, 0, 11]), ((1, 162), [71, 0, 11]), ((1, 186), [89, 0, 11]), ((11, 531), [0, 1, 11, 211]), ((1, 168), [73, 0, 11]), ((11, 534), [0, 1, 11, 212]), ((11, 538), [0, 1, 11, 213]), ((1, 507), [95, 0, 11]), ((8, 510), [6364136223846793005]), ((8, 512), [1442695040888963407]), ((2, 507), [95, 1, 0, 11]), ((11, 541), [0, 1, 11, 214]), ((11, 544), [0, 1, 11, 215]), ((11, 547), [0, 1, 11, 217]), ((11, 550), [0, 1, 11, 222]), ((1, 144), [62, 0, 11]), ((8, 553), [10000]), ((11, 457), [0, 1, 11, 216]), ((8, 555), [26])]
set_option maxRecDepth 20000 in
theorem sp_ok_27_10 {K : sm_H} (hK : sc_KOk K) (mn : String) : sm_poolOk sc_Ts sc_sx sc_zx sc_oc K sc_cl sc_Y "TwoWayGrammarModel" mn sp_27_10 :=
  List.forall_mem_cons.mpr ⟨fun pc i hi => by rw [sm_k1 hi]; exact ⟨sm_al1 (⟨"TwoWayGrammarModel", sc_T11, 96, "TwoWayGrammarModel", rfl, by decide, sc_in11, sm_memf 1629 rfl rfl, Or.inl rfl⟩), trivial⟩,
  List.forall_mem_cons.mpr ⟨fun pc i hi => by rw [sm_k1 hi]; exact ⟨sm_al1 (⟨"TwoWayGrammarModel", sc_T11, 96, "TwoWayGrammarModel", rfl, by decide, sc_in11, sm_memf 1625 rfl rfl, Or.inl rfl⟩), trivial⟩,
  List.forall_mem_cons.mpr ⟨fun pc i hi => by rw [sm_k1 hi]; exact ⟨sm_al1 (⟨"TwoWayGrammarModel", sc_T11, 96, "TwoWayGrammarModel", rfl, by decide, sc_in11, sm_memf 1626 rfl rfl, Or.inl rfl⟩), trivial⟩,
  List.forall_mem_cons.mpr ⟨fun pc i hi => by rw [sm_k1 hi]; exact ⟨sm_al1 (⟨"TwoWayGrammarModel", sc_T11, 96, "TwoWayGrammarModel", rfl, by decide, sc_in11, sm_memf 1644 rfl rfl, Or.inl rfl⟩), trivial⟩,
  List.forall_mem_cons.mpr ⟨fun pc i hi => by rw [sm_k11 hi]; exact ⟨trivial, sm_pk1 (⟨"TwoWayGrammarModel", rfl, sm_memf 2054 rfl rfl, sm_memf 112 rfl rfl, Or.inl ⟨sm_memf 2052 rfl rfl, sm_memf 77 rfl rfl, by decide +kernel⟩⟩)⟩,
  List.forall_mem_cons.mpr ⟨fun pc i hi => by rw [sm_k1 hi]; exact ⟨sm_al1 (⟨"TwoWayGrammarModel", sc_T11, 96, "TwoWayGrammarModel", rfl, by decide, sc_in11, sm_memf 1628 rfl rfl, Or.inl rfl⟩), trivial⟩,
  List.forall_mem_cons.mpr ⟨fun pc i hi => by rw [sm_k11 hi]; exact ⟨trivial, sm_pk1 (⟨"TwoWayGrammarModel", rfl, sm_memf 2060 rfl rfl, sm_memf 112 rfl rfl, Or.inl ⟨sm_memf 2058 rfl rfl, sm_memf 78 rfl rfl, by decide +kernel⟩⟩)⟩,
  List.forall_mem_cons.mpr ⟨fun pc i hi => by rw [sm_k11 hi]; exact ⟨trivial, sm_pk1 (⟨"TwoWayGrammarModel", rfl, sm_memf 2064 rfl rfl, sm_memf 112 rfl rfl, Or.inl ⟨sm_memf 2062 rfl rfl, sm_memf 79 rfl rfl, by decide +kernel⟩⟩)⟩,
  List.forall_mem_cons.mpr ⟨fun pc i hi => by rw [sm_k1 hi]; exact ⟨sm_al1 (⟨"TwoWayGrammarModel", sc_T11, 96, "TwoWayGrammarModel", rfl, by decide, sc_in11, sm_memf 1650 rfl rfl, Or.inl rfl⟩), trivial⟩,
  List.forall_mem_cons.mpr ⟨fun pc i hi => by rw [sm_k8 hi]; exact ⟨sm_memf 2056 rfl rfl, trivial⟩,
  List.forall_mem_cons.mpr ⟨fun pc i hi => by rw [sm_k8 hi]; exact ⟨sm_memf 2057 rfl rfl, trivial⟩,
  List.forall_mem_cons.mpr ⟨fun pc i hi => by rw [sm_k2 hi]; exact ⟨sm_al1 (⟨"TwoWayGrammarModel", sc_T11, 96, "TwoWayGrammarModel", sc_ty11, rfl, by decide, sc_in11, sm_memf 1650 rfl rfl, Or.inl rfl, sc_tyok11, sc_nm11, Or.inl rfl, Or.inr (Or.inl ⟨rfl, rfl⟩)⟩), trivial⟩,
  List.forall_mem_cons.mpr ⟨fun pc i hi => by rw [sm_k11 hi]; exact ⟨trivial, sm_pk1 (⟨"TwoWayGrammarModel", rfl, sm_memf 2068 rfl rfl, sm_memf 112 rfl rfl, Or.inl ⟨sm_memf 2066 rfl rfl, sm_memf 80 rfl rfl, by decide +kernel⟩⟩)⟩,
  List.forall_mem_cons.mpr ⟨fun pc i hi => by rw [sm_k11 hi]; exact ⟨trivial, sm_pk1 (⟨"TwoWayGrammarModel", rfl, sm_memf 2073 rfl rfl, sm_memf 112 rfl rfl, Or.inl ⟨sm_memf 2071 rfl rfl, sm_memf 81 rfl rfl, by decide +kernel⟩⟩)⟩,
  List.forall_mem_cons.mpr ⟨fun pc i hi => by rw [sm_k11 hi]; exact ⟨trivial, sm_pk1 (⟨"TwoWayGrammarModel", rfl, sm_memf 2082 rfl rfl, sm_memf 112 rfl rfl, Or.inl ⟨sm_memf 2080 rfl rfl, sm_memf 83 rfl rfl, by decide +kernel⟩⟩)⟩,
  List.forall_mem_cons.mpr ⟨fun pc i hi => by rw [sm_k11 hi]; exact ⟨trivial, sm_pk1 (⟨"TwoWayGrammarModel", rfl, sm_memf 2102 rfl rfl, sm_memf 112 rfl rfl, Or.inl ⟨sm_memf 2100 rfl rfl, sm_memf 87 rfl rfl, by decide +kernel⟩⟩)⟩,
  List.forall_mem_cons.mpr ⟨fun pc i hi => by rw [sm_k1 hi]; exact ⟨sm_al1 (⟨"TwoWayGrammarModel", sc_T11, 96, "TwoWayGrammarModel", rfl, by decide, sc_in11, sm_memf 1617 rfl rfl, Or.inl rfl⟩), trivial⟩,
  List.forall_mem_cons.mpr ⟨fun pc i hi => by rw [sm_k8 hi]; exact ⟨sm_memf 2070 rfl rfl, trivial⟩,
  List.forall_mem_cons.mpr ⟨fun pc i hi => by rw [sm_k11 hi]; exact ⟨trivial, sm_pk1 (⟨"TwoWayGrammarModel", rfl, sm_memf 2077 rfl rfl, sm_memf 112 rfl rfl, Or.inl ⟨sm_memf 2075 rfl rfl, sm_memf 82 rfl rfl, by decide +kernel⟩⟩)⟩,
  List.forall_mem_cons.mpr ⟨fun pc i hi => by rw [sm_k8 hi]; exact ⟨sm_memf 2079 rfl rfl, trivial⟩,
  fun _ h => absurd h List.not_mem_nil⟩⟩⟩⟩⟩⟩⟩⟩⟩⟩⟩⟩⟩⟩⟩⟩⟩⟩⟩⟩
def sp_27_11 : List ((Nat × Nat) × List Nat) := [((11, 580), [0, 1, 11, 218]), ((11, 577), [0, 1, 11, 219]), ((11, 569), [0, 1, 11, 220]), ((8, 575), [31]), ((1, 560), [94, 0, 11]), ((1, 563), [84, 0, 11]), ((1, 557), [93, 0, 11]), ((9, 572), [0, 221, 1]), ((11, 525), [0, 1, 11, 224]), ((11, 528), [0, 1, 11, 225]), ((11, 589), [0, 0, 11, 229]), ((11, 592), [0, 0, 11, 231]), ((2, 450), [59, 0, 0, 11]), ((1, 450), [59, 0, 11]), ((8, 453), [10]), ((8, 455), [48]), ((11, 460), [0, 1, 11, 230]), ((1, 147), [66, 0, 11]), ((1, 150), [67, 0, 11]), ((1, 153), [68, 0, 11])]
set_option maxRecDepth 20000 in
theorem sp_ok_27_11 {K : sm_H} (hK : sc_KOk K) (mn : String) : sm_poolOk sc_Ts sc_sx sc_zx sc_oc K sc_cl sc_Y "TwoWayGrammarModel" mn sp_27_11 :=
  List.forall_mem_cons.mpr ⟨fun pc i hi => by rw [sm_k11 hi]; exact ⟨trivial, sm_pk1 (⟨"TwoWayGrammarModel", rfl, sm_memf 2086 rfl rfl, sm_memf 112 rfl rfl, Or.inl ⟨sm_memf 2084 rfl rfl, sm_memf 84 rfl rfl, by decide +kernel⟩⟩)⟩,
  List.forall_mem_cons.mpr ⟨fun pc i hi => by rw [sm_k11 hi]; exact ⟨trivial, sm_pk1 (⟨"TwoWayGrammarModel", rfl, sm_memf 2091 rfl rfl, sm_memf 112 rfl rfl, Or.inl ⟨sm_memf 2089 rfl rfl, sm_memf 85 rfl rfl, by decide +kernel⟩⟩)⟩,
  List.forall_mem_cons.mpr ⟨fun pc i hi => by rw [sm_k11 hi]; exact ⟨trivial, sm_pk1 (⟨"TwoWayGrammarModel", rfl, sm_memf 2095 rfl rfl, sm_memf 112 rfl rfl, Or.inl ⟨sm_memf 2093 rfl rfl, sm_memf 86 rfl rfl, by decide +kernel⟩⟩)⟩,
  List.forall_mem_cons.mpr ⟨fun pc i hi => by rw [sm_k8 hi]; exact ⟨sm_memf 2088 rfl rfl, trivial⟩,
  List.forall_mem_cons.mpr ⟨fun pc i hi => by rw [sm_k1 hi]; exact ⟨sm_al1 (⟨"TwoWayGrammarModel", sc_T11, 96, "TwoWayGrammarModel", rfl, by decide, sc_in11, sm_memf 1649 rfl rfl, Or.inl rfl⟩), trivial⟩,
  List.forall_mem_cons.mpr ⟨fun pc i hi => by rw [sm_k1 hi]; exact ⟨sm_al1 (⟨"TwoWayGrammarModel", sc_T11, 96, "TwoWayGrammarModel", rfl, by decide, sc_in11, sm_memf 1639 rfl rfl, Or.inl rfl⟩), trivial⟩,
  List.forall_mem_cons.mpr ⟨fun pc i hi => by rw [sm_k1 hi]; exact ⟨sm_al1 (⟨"TwoWayGrammarModel", sc_T11, 96, "TwoWayGrammarModel", rfl, by decide, sc_in11, sm_memf 1648 rfl rfl, Or.inl rfl⟩), trivial⟩,
  List.forall_mem_cons.mpr ⟨fun pc i hi => by rw [sm_k9 hi]; exact ⟨trivial, ⟨sm_memf 2098 rfl rfl, sm_memf 112 rfl rfl, by decide +kernel, Or.inl (sm_memf 2097 rfl rfl)⟩⟩,
  List.forall_mem_cons.mpr ⟨fun pc i hi => by rw [sm_k11 hi]; exact ⟨trivial, sm_pk1 (⟨"TwoWayGrammarModel", rfl, sm_memf 2110 rfl rfl, sm_memf 112 rfl rfl, Or.inl ⟨sm_memf 2108 rfl rfl, sm_memf 89 rfl rfl, by decide +kernel⟩⟩)⟩,
  List.forall_mem_cons.mpr ⟨fun pc i hi => by rw [sm_k11 hi]; exact ⟨trivial, sm_pk1 (⟨"TwoWayGrammarModel", rfl, sm_memf 2114 rfl rfl, sm_memf 112 rfl rfl, Or.inl ⟨sm_memf 2112 rfl rfl, sm_memf 90 rfl rfl, by decide +kernel⟩⟩)⟩,
  List.forall_mem_cons.mpr ⟨fun pc i hi => by rw [sm_k11 hi]; exact ⟨trivial, sm_pk1 (⟨"TwoWayGrammarModel", rfl, sm_memf 2130 rfl rfl, sm_memf 112 rfl rfl, Or.inl ⟨sm_memf 2128 rfl rfl, sm_memf 93 rfl rfl, by decide +kernel⟩⟩)⟩,
  List.forall_mem_cons.mpr ⟨fun pc i hi => by rw [sm_k11 hi]; exact ⟨trivial, sm_pk1 (⟨"TwoWayGrammarModel", rfl, sm_memf 2140 rfl rfl, sm_memf 112 rfl rfl, Or.inl ⟨sm_memf 2138 rfl rfl, sm_memf 95 rfl rfl, by decide +kernel⟩⟩)⟩,
  List.forall_mem_cons.mpr ⟨fun pc i hi => by rw [sm_k2 hi]; exact ⟨sm_al1 (⟨"TwoWayGrammarModel", sc_T11, 96, "TwoWayGrammarModel", sc_ty11, rfl, by decide, sc_in11, sm_memf 1614 rfl rfl, Or.inl rfl, sc_tyok11, sc_nm11, Or.inl rfl, Or.inl ⟨rfl, rfl⟩⟩), trivial⟩,
  List.forall_mem_cons.mpr ⟨fun pc i hi => by rw [sm_k1 hi]; exact ⟨sm_al1 (⟨"TwoWayGrammarModel", sc_T11, 96, "TwoWayGrammarModel", rfl, by decide, sc_in11, sm_memf 1614 rfl rfl, Or.inl rfl⟩), trivial⟩,
  List.forall_mem_cons.mpr ⟨fun pc i hi => by rw [sm_k8 hi]; exact ⟨sm_memf 2132 rfl rfl, trivial⟩,
  List.forall_mem_cons.mpr ⟨fun pc i hi => by rw [sm_k8 hi]; exact ⟨sm_memf 2133 rfl rfl, trivial⟩,
  List.forall_mem_cons.mpr ⟨fun pc i hi => by rw [sm_k11 hi]; exact ⟨trivial, sm_pk1 (⟨"TwoWayGrammarModel", rfl, sm_memf 2136 rfl rfl, sm_memf 112 rfl rfl, Or.inl ⟨sm_memf 2134 rfl rfl, sm_memf 94 rfl rfl, by decide +kernel⟩⟩)⟩,
  List.forall_mem_cons.mpr ⟨fun pc i hi => by rw [sm_k1 hi]; exact ⟨sm_al1 (⟨"TwoWayGrammarModel", sc_T11, 96, "TwoWayGrammarModel", rfl, by decide, sc_in11, sm_memf 1621 rfl rfl, Or.inl rfl⟩), trivial⟩,
  List.forall_mem_cons.mpr ⟨fun pc i hi => by rw [sm_k1 hi]; exact ⟨sm_al1 (⟨"TwoWayGrammarModel", sc_T11, 96, "TwoWayGrammarModel", rfl, by decide, sc_in11, sm_memf 1622 rfl rfl, Or.inl rfl⟩), trivial⟩,
  List.forall_mem_cons.mpr ⟨fun pc i hi => by rw [sm_k1 hi]; exact ⟨sm_al1 (⟨"TwoWayGrammarModel", sc_T11, 96, "TwoWayGrammarModel", rfl, by decide, sc_in11, sm_memf 1623 rfl rfl, Or.inl rfl⟩), trivial⟩,
  fun _ h => absurd h List.not_mem_nil⟩⟩⟩⟩⟩⟩⟩⟩⟩⟩⟩⟩⟩⟩⟩⟩⟩⟩⟩⟩
def sp_27_12 : List ((Nat × Nat) × List Nat) := [((11, 595), [0, 1, 11, 234]), ((8, 598), [9999]), ((11, 600), [0, 1, 11, 236]), ((8, 603), [1073741824]), ((1, 165), [72, 0, 11]), ((1, 174), [75, 0, 11]), ((1, 438), [65, 0, 11])]
set_option maxRecDepth 20000 in
theorem sp_ok_27_12 {K : sm_H} (hK : sc_KOk K) (mn : String) : sm_poolOk sc_Ts sc_sx sc_zx sc_oc K sc_cl sc_Y "TwoWayGrammarModel" mn sp_27_12 :=
  List.forall_mem_cons.mpr ⟨fun pc i hi => by rw [sm_k11 hi]; exact ⟨trivial, sm_pk1 (⟨"TwoWayGrammarModel", rfl, sm_memf 2152 rfl rfl, sm_memf 112 rfl rfl, Or.inl ⟨sm_memf 2150 rfl rfl, sm_memf 96 rfl rfl, by decide +kernel⟩⟩)⟩,
  List.forall_mem_cons.mpr ⟨fun pc i hi => by rw [sm_k8 hi]; exact ⟨sm_memf 2158 rfl rfl, trivial⟩,
  List.forall_mem_cons.mpr ⟨fun pc i hi => by rw [sm_k11 hi]; exact ⟨trivial, sm_pk1 (⟨"TwoWayGrammarModel", rfl, sm_memf 2161 rfl rfl, sm_memf 112 rfl rfl, Or.inl ⟨sm_memf 2159 rfl rfl, sm_memf 97 rfl rfl, by decide +kernel⟩⟩)⟩,
  List.forall_mem_cons.mpr ⟨fun pc i hi => by rw [sm_k8 hi]; exact ⟨sm_memf 2163 rfl rfl, trivial⟩,
  List.forall_mem_cons.mpr ⟨fun pc i hi => by rw [sm_k1 hi]; exact ⟨sm_al1 (⟨"TwoWayGrammarModel", sc_T11, 96, "TwoWayGrammarModel", rfl, by decide, sc_in11, sm_memf 1627 rfl rfl, Or.inl rfl⟩), trivial⟩,
  List.forall_mem_cons.mpr ⟨fun pc i hi => by rw [sm_k1 hi]; exact ⟨sm_al1 (⟨"TwoWayGrammarModel", sc_T11, 96, "TwoWayGrammarModel", rfl, by decide, sc_in11, sm_memf 1630 rfl rfl, Or.inl rfl⟩), trivial⟩,
  List.forall_mem_cons.mpr ⟨fun pc i hi => by rw [sm_k1 hi]; exact ⟨sm_al1 (⟨"TwoWayGrammarModel", sc_T11, 96, "TwoWayGrammarModel", rfl, by decide, sc_in11, sm_memf 1620 rfl rfl, Or.inl rfl⟩), trivial⟩,
  fun _ h => absurd h List.not_mem_nil⟩⟩⟩⟩⟩⟩⟩
def sp_27 : List ((Nat × Nat) × List Nat) := sp_27_0 ++ sp_27_1 ++ sp_27_2 ++ sp_27_3 ++ sp_27_4 ++ sp_27_5 ++ sp_27_6 ++ sp_27_7 ++ sp_27_8 ++ sp_27_9 ++ sp_27_10 ++ sp_27_11 ++ sp_27_12
theorem sp_ok_27 {K : sm_H} (hK : sc_KOk K) (mn : String) : sm_poolOk sc_Ts sc_sx sc_zx sc_oc K sc_cl sc_Y "TwoWayGrammarModel" mn sp_27 := by
  intro e he
  simp only [sp_27, List.mem_append] at he
  rcases he with he | he
  rotate_left
  · exact sp_ok_27_12 hK mn e he
  rcases he with he | he
  rotate_left
  · exact sp_ok_27_11 hK mn e he
  rcases he with he | he
  rotate_left
  · exact sp_ok_27_10 hK mn e he
  rcases he with he | he
  rotate_left
  · exact sp_ok_27_9 hK mn e he
  rcases he with he | he
  rotate_left
  · exact sp_ok_27_8 hK mn e he
  rcases he with he | he
  rotate_left
  · exact sp_ok_27_7 hK mn e he
  rcases he with he | he
  rotate_left
  · exact sp_ok_27_6 hK mn e he
  rcases he with he | he
  rotate_left
  · exact sp_ok_27_5 hK mn e he
  rcases he with he | he
  rotate_left
  · exact sp_ok_27_4 hK mn e he
  rcases he with he | he
  rotate_left
  · exact sp_ok_27_3 hK mn e he
  rcases he with he | he
  rotate_left
  · exact sp_ok_27_2 hK mn e he
  rcases he with he | he
  rotate_left
  · exact sp_ok_27_1 hK mn e he
  exact sp_ok_27_0 hK mn e he
/-! A THROW whose constructor passes the text on by another pool entry than the library's chains have (NoSuchElementException): the first link is given by its own bytes, the rest is the library's chain -/
def sm_tail (own : String) (ic : Nat) (X : String) : List Cond := (Bundle.ownAtoms own ic X []).drop 33
def sm_odd (own : String) (ic : Nat) (X Y : String) (ix : Nat) (bytes : ByteArray) (names : List String) : List Cond :=
  (Bundle.throwableAtoms ++ Bundle.throwableSAtoms) ++ (Bundle.passSAtoms X Y ix bytes ++ (Bundle.chainSAtoms Y names ++ sm_tail own ic X))
section SMODD
variable {p : Program} {l : Launch} {e : Env} {R : Room} {s : State} {m₀ : MethodId} {args : Array Value} {below : List Frame} {meth : Method} {c : Code} {V : State} {locs : List Loc} {cells slots : Nat}
set_option maxHeartbeats 4000000 in
theorem sm_oddCtor (X : Stand p l e R s m₀ args below meth c V locs cells slots) (hexec : p.tables.exec = Jvm.exec) (htr : e.platform.stackTraces = false) {own cls Y : String} {names : List String} {ic ix : Nat} {bytes : ByteArray}
    (hown : s.vm.findClass own = some m₀.cls) (hcls : Bundle.fit cls = true) (hY : Bundle.fit Y = true) (hnames : ∀ n ∈ names, Bundle.fit n = true) (h : ∀ a ∈ sm_odd own ic cls Y ix bytes names, a.before args s = true)
    (b0 : decode bytes 0 = .ok (.aload_n 0, 1)) (b1 : decode bytes 1 = .ok (.aload_n 1, 1)) (b2 : decode bytes 2 = .ok (.invokespecial ix, 3)) (b5 : decode bytes 5 = .ok (.return_, 1))
    (hlocs : ∀ x ∈ locs, ∀ cell, s.heap[x.base]? = some cell → cell.vm.isStatics = false)
    {a : Addr} {cX : ClassId} {kX : Class} (hfX : s.vm.findClass cls = some cX) (hkX : s.vm.classes[cX]? = some kX) (hcell : V.heap[a]? = some (freshCell cX kX)) (hnew : s.heap.size ≤ a)
    {msg : Value} (hmsg : msg.isRef = true) {g : JFrame} (hg : g.method = m₀) (hsize : g.locals.size = c.maxLocals) (hlocked : g.locked = none) (hentered : g.entered = []) {rest : List Value} (hstack : g.stack = msg :: .ref a :: .ref a :: rest)
    (hd6 : decode c.code g.pc = .ok (.invokespecial ic, 3)) (hd9 : decode c.code (g.pc + 3) = .ok (.athrow, 1)) (hout : ∀ x ∈ c.exceptionTable.toList, covers x (g.pc + 3) = false)
    (hfr : names.length + 1 + 3 < R.frames) (hlo : 2 * g.monitorRoom + ((Value.ref a :: rest).map fun v => v.category).sum + (13 * (names.length + 1 + 1) + 42) ≤ R.locals) (hlocks : meth.locks = false) :
    ∃ U : State, Steps p.tables e below (V.setTop g) U ∧ U.status = .running ∧ Ended U below (.threw a) ∧ s.WarmedH U.vm ∧ s.sameButNew ({ U with vm := s.vm } : State) locs cells slots ∧ ∃ ce, U.heap[a]? = some ce ∧ s.vm.findClass cls = some ce.cls ∧ ce.vm = .none := by
  have howns : e.platform.frameOwnsMonitors = true := by rw [X.admits.platform]
  have hfin : e.platform.finalization = false := by rw [X.admits.platform]
  have hpl : e.platform.magicAccessors = ({} : Platform).magicAccessors := by rw [X.admits.platform]
  have hA : ∀ x ∈ Bundle.throwableAtoms, x.before args s = true := fun x hx => h x (List.mem_append.mpr (Or.inl (List.mem_append.mpr (Or.inl hx))))
  have hS : ∀ x ∈ Bundle.throwableSAtoms, x.before args s = true := fun x hx => h x (List.mem_append.mpr (Or.inl (List.mem_append.mpr (Or.inr hx))))
  have hP : ∀ x ∈ Bundle.passSAtoms cls Y ix bytes, x.before args s = true := fun x hx => h x (List.mem_append.mpr (Or.inr (List.mem_append.mpr (Or.inl hx))))
  have hC : ∀ x ∈ Bundle.chainSAtoms Y names, x.before args s = true := fun x hx => h x (List.mem_append.mpr (Or.inr (List.mem_append.mpr (Or.inr (List.mem_append.mpr (Or.inl hx))))))
  have hT : ∀ x ∈ sm_tail own ic cls, x.before args s = true := fun x hx => h x (List.mem_append.mpr (Or.inr (List.mem_append.mpr (Or.inr (List.mem_append.mpr (Or.inr hx))))))
  have tl : ∀ (n : Nat) (x : Cond), (sm_tail own ic cls)[n]? = some x → x.before args s = true := fun n x hx => hT x (List.mem_of_getElem? hx)
  obtain ⟨T, Z0, L, -, Q⟩ := ThrowableC.of_atoms (args := args) howns hfin hpl hA
  obtain ⟨Z, M, LZ, LM, hnZ⟩ := Init0T.ofS_atoms (args := args) hpl L Q hS
  obtain ⟨P2, Ps, hlen, L2, hL, hP2m, hlink2, hlink⟩ := Bundle.chainS (args := args) hpl hnZ names Y hY hnames hC
  obtain ⟨P1, L1, hP1m, hP1s⟩ := PassC.ofS_atoms (args := args) hpl (Bundle.fit_spec hcls).1 (Bundle.fit_spec hY).2 b0 b1 b2 b5 hP
  have hlink1 : P1.sup = P2.m := Option.some.inj (hP1s.symm.trans hP2m)
  have hfound : s.vm.findClass cls = some P1.m.cls := findClass_of_methodNamed hP1m
  cases Option.some.inj (hfX.symm.trans hfound)
  obtain ⟨c1, kX', hc1, hk, hord, -, -, hn6⟩ := Cond.instantiable_spec (tl 1 _ rfl)
  cases Option.some.inj (hc1.symm.trans hfound)
  cases Option.some.inj (hkX.symm.trans hk)
  have hsel0 : selectMethod e.platform s.vm P1.m.cls T.fill0 = .method T.fill0 := by
    obtain ⟨c2, r2, m2, q1, q2, q3, q4, -⟩ := Cond.selects_spec (tl 3 _ rfl)
    cases Option.some.inj (q1.symm.trans hfound)
    cases Option.some.inj (q2.symm.trans (State.methodFound?_of_named Q.fill0 (by decide)))
    cases Option.some.inj (q3.symm.trans Q.fill0)
    rw [Launch.admits_selectMethod X.admits]
    exact q4
  have hselF : selectMethod e.platform s.vm P1.m.cls T.fill = .method T.fill := by
    obtain ⟨c2, r2, m2, q1, q2, q3, q4, -⟩ := Cond.selects_spec (tl 4 _ rfl)
    cases Option.some.inj (q1.symm.trans hfound)
    cases Option.some.inj (q2.symm.trans (State.methodFound?_of_named Q.fill (by decide)))
    cases Option.some.inj (q3.symm.trans Q.fill)
    rw [Launch.admits_selectMethod X.admits]
    exact q4
  obtain ⟨cS0, hcS0, hiss⟩ := Q.statics
  obtain ⟨u0, hu0⟩ := Cond.staticRefV Q.unassigned L.unassignedStatic L.statics hcS0 hiss (tl 9 _ rfl)
  obtain ⟨sen, hsen⟩ := Cond.staticRefV Q.sentinel L.sentinelStatic L.statics hcS0 hiss (tl 10 _ rfl)
  obtain ⟨ci198, i198, fB, hk198, hg198, ha198, hsB, -, hnB, htB, hffB⟩ := Cond.ownField (t := .object "java/lang/Object") Q.found L.cls (by decide +kernel) (tl 11 _ rfl) (tl 12 _ rfl) e.platform hpl
  obtain ⟨cellS, hcellS, heS, -, hkeep⟩ := X.same.2.2.2.2.2 T.aS cS0 hcS0
  have hout' : ∀ i, (⟨T.aS, i⟩ : Loc) ∉ locs := fun i hm => by
    have := hlocs _ hm cS0 hcS0
    rw [hiss] at this
    cases this
  have hknownS : cellS.vm ≠ .unknown := by
    rw [heS]
    intro hu
    rw [show cS0.vm = .unknown from hu] at hiss
    cases hiss
  have hneS : T.aS ≠ a := Nat.ne_of_lt (Nat.lt_of_lt_of_le (Array.getElem?_eq_some_iff.mp hcS0).1 hnew)
  obtain ⟨iM, hffM⟩ := Q.msg
  obtain ⟨tyC, dC, hdC, hdnC⟩ := Cond.laysAt hfound hk Q.cause (tl 5 _ rfl)
  obtain ⟨tyS, dS, hdS, hdnS⟩ := Cond.laysAt hfound hk Q.stack (tl 6 _ rfl)
  obtain ⟨tyP, dP, hdP, hdnP⟩ := Cond.laysAt hfound hk Q.supp (tl 7 _ rfl)
  obtain ⟨tyM, dM, hdM, hdnM⟩ := Cond.laysAt hfound hk hffM (tl 8 _ rfl)
  obtain ⟨tyB, dB, hdB, hdnB⟩ := Cond.laysAt hfound hk hffB (tl 13 _ rfl)
  have bC := Cond.laysApart hdB hdC hdnB hdnC (by rw [hnB, Q.causeName]; decide)
  have bS := Cond.laysApart hdB hdS hdnB hdnS (by rw [hnB, Q.stackName]; decide)
  have bP := Cond.laysApart hdB hdP hdnB hdnP (by rw [hnB, Q.suppName]; decide)
  have hskip : SkipFacts T e.platform s (fun u => u) u0 ((preparedCellV T.toThrowableT (freshCell P1.m.cls kX) a u0 sen).withEntry V.cur) :=
    ⟨{ ci198 := ci198, i198 := i198, fBack := fB }, ⟨hk198, hg198, ha198, hsB⟩, by
      have := fresh_default (c := P1.m.cls) tyB
      rw [htB] at this
      simpa [preparedCellV, Cell.setSlot, Cell.withEntry, Array.getElem?_setIfInBounds, bC, bS, bP, bC.symm, bS.symm, bP.symm, defaultValue] using this, fun _ _ => rfl⟩
  obtain ⟨tm, methC, cdC, kC, vm₁, hnC, -, -, -, -, -, -, -, hW₁, st1⟩ := Steps.initColdS (tb := p.tables) (e := e) (below := below) (s := s) (U := V) X.here hexec X.warmed hpl hown (t := Bundle.initS cls) rfl rfl (Bundle.fit_spec hcls).2
    (tl 0 _ rfl) (hP _ List.mem_cons_self) (bytes := bytes) (maxL := 2) (hP _ (List.mem_cons_of_mem _ List.mem_cons_self)) (f := g) hg (a := a) (msg := msg) (rest := .ref a :: rest) hstack hd6
  cases Option.some.inj (hnC.symm.trans hP1m)
  have X₁ := X.noted hW₁
  obtain ⟨vm₂, X₂, st2⟩ := X₁.ctorMessageOffV hexec (g := { g with stack := .ref a :: rest }) hg hsize T L Z LZ M LM (P1 :: P2 :: Ps)
    (fun P hP => by
      rcases List.mem_cons.mp hP with rfl | hP
      · exact L1
      · rcases List.mem_cons.mp hP with rfl | hP
        · exact L2
        · exact hL P hP) ⟨hlink1, hlink2, hlink⟩ (u0 := u0) (sen := sen) (self := a) hmsg (cell := freshCell P1.m.cls kX) (cellS := cellS)
    hcell (fun _ => by simp) (by simp) rfl rfl hsel0 hselF hcellS hneS hknownS (by rw [hkeep _ (hout' _)]; exact hu0) (by rw [hkeep _ (hout' _)]; exact hsen)
    (Takes.of_laid hk hord tyC (by rw [Q.causeType]; rfl)) (Takes.of_laid hk hord tyS (by rw [Q.stackType]; exact fits_refV_array _ u0)) (Takes.of_laid hk hord tyP (by rw [Q.suppType]; exact fits_refV_object _ sen))
    (Takes.of_laid hk hord tyM (by rw [Q.msgType]; exact fits_refV_object _ ⟨msg, hmsg⟩)) Q.objLocals hskip htr [] hd6
    (by simp only [List.length_cons, hlen]; omega) (by simp only [List.length_cons, hlen]; exact hlo)
  obtain ⟨hwalk, hrun, hended, hWU, hsame⟩ := X₂.athrowLeaves hexec (g := { g with stack := .ref a :: rest, pc := g.pc + 3 }) hg hlocked hentered hout (a := a) (rest := rest) rfl hd9
  have hlt : a < ((V.setVm vm₁).setVm vm₂).heap.size := (Array.getElem?_eq_some_iff.mp hcell).1
  have hU := heapAt_setCell_self (s := (V.setVm vm₁).setVm vm₂) (plainBareV T.toThrowableT (freshCell P1.m.cls kX) a u0 sen msg) hlt
  refine ⟨_, st1 _ (fun acts => ?_), hrun, hended, hWU, hsame.weaken (fun y hy hlt' => ?_) (Nat.le_refl _) (Nat.le_refl _), _, hU, hfound, rfl⟩
  · rw [doInvoke_state]
    exact st2 _ hwalk
  · rcases List.mem_append.mp hy with h1 | h1
    · exact h1
    · exfalso
      have hb : y.base = a := by
        simp only [List.mem_cons, List.not_mem_nil, or_false] at h1
        rcases h1 with rfl | rfl | rfl | rfl | rfl <;> rfl
      rw [hb] at hlt'
      exact Nat.not_lt.mpr hnew hlt'
end SMODD
/-- the words of a throw, of either form -/
def sm_atomsOf (own : String) (ic : Nat) (X : String) (names : List String) (G : Cond → Prop) : Prop := (∀ a ∈ Bundle.ownAtoms own ic X names, G a) ∨ ∃ (Y : String) (ns : List String) (ix : Nat) (bytes : ByteArray), names = Y :: ns ∧ decode bytes 0 = .ok (.aload_n 0, 1) ∧ decode bytes 1 = .ok (.aload_n 1, 1) ∧ decode bytes 2 = .ok (.invokespecial ix, 3) ∧ decode bytes 5 = .ok (.return_, 1) ∧ ∀ a ∈ sm_odd own ic X Y ix bytes ns, G a
theorem sm_atomsOf.mono {own : String} {ic : Nat} {X : String} {names : List String} {G G' : Cond → Prop} (h : sm_atomsOf own ic X names G) (hG : ∀ a, G a → G' a) : sm_atomsOf own ic X names G' := by
  rcases h with h | ⟨Y, ns, ix, bytes, h1, h2, h3, h4, h5, h6⟩
  · exact Or.inl fun a ha => hG a (h a ha)
  · exact Or.inr ⟨Y, ns, ix, bytes, h1, h2, h3, h4, h5, fun a ha => hG a (h6 a ha)⟩
/-! THROWS. A walk may be begun anew from where it stands: then nothing has been written yet. -/
section SMT
variable {p : Program} {l : Launch} {e : Env} {R : Room} {s : State} {m : MethodId} {args : Array Value} {below : List Frame} {meth : Method} {c : Code} {T : State} {locs : List Loc} {cells slots : Nat}
/-- the invocation, made anew in the state that is reached -/
def sm_anew (T : State) (m : MethodId) (args : Array Value) (below : List Frame) : State := T.setFrames (.invoking m args :: below)
theorem sm_rebase (X : Stand p l e R s m args below meth c T locs cells slots) (hcR : cells ≤ R.cells ∧ slots ≤ R.slots) : Stand p l e { R with cells := R.cells - cells, slots := R.slots - slots } (sm_anew T m args below) m args below meth c T [] 0 0 := by
  obtain ⟨g₀, hfr⟩ := X.frames_eq
  have hcur : T.cur < T.threads.size := State.cur_lt_of_frames hfr
  have hf : (sm_anew T m args below).frames = .invoking m args :: below := State.frames_setFrames _ hcur
  have hr := X.room
  have hme : (sm_anew T m args below).me.stackBytes = T.me.stackBytes := State.stackBytes_setFrames T _
  have hb0 : T.me.stackBytes = 0 := X.bytes.trans (State.hasRoom_plain hr)
  have hli : (sm_anew T m args below).localsInUse = s.localsInUse := by
    unfold State.localsInUse
    rw [hf, X.frames]
    show stackWeight _ + ((((T.vm.method? m).bind (·.code)).map (·.maxLocals)).getD 0 + 11) = stackWeight _ + ((((s.vm.method? m).bind (·.code)).map (·.maxLocals)).getD 0 + 11)
    rw [X.method', X.method]
  have h1 := State.hasRoom_heap hr
  have h2 := State.hasRoom_real hr
  have hsz := X.heapSize
  have hus := X.used
  have hst : s.frames.length + R.frames ≤ e.platform.maxFrames ∧ s.localsInUse + R.locals ≤ e.platform.maxStackSlots := by
    simp only [State.hasRoom, Bool.and_eq_true, decide_eq_true_eq] at hr
    exact ⟨hr.1.1.1.2.1, hr.1.1.1.2.2.2.1⟩
  refine ⟨X.admits, X.cas, X.clock, hf, ?_, ?_, X.method', X.code, X.here, X.tail, State.WarmedH.refl T, ?_, hme.symm, ?_⟩
  · refine State.hasRoom_of (hme.trans hb0) ?_ ?_ ?_ ?_ ?_ ?_
    · rw [hf, ← X.frames]; exact hst.1
    · rw [hli]; exact hst.2
    · show T.heap.size + (R.cells - cells) ≤ _
      omega
    · show T.slotsUsed + (R.slots - slots) ≤ _
      omega
    · exact X.book
    · rw [hli]; exact h2
  · have hh := X.hears
    have ha := X.warmed.alike
    cases below with
    | nil => exact (by simpa [State.hears, sm_anew, ha.method?] using hh)
    | cons f r =>
      cases f with
      | java g =>
        have e1 : (sm_anew T m args (.java g :: r)).code? g.method = s.code? g.method := by
          rw [State.code?_eq, State.code?_eq]
          show (T.vm.method? g.method).bind _ = _
          rw [ha.method?]
        simpa [State.hears, e1] using hh
      | _ => first | exact hh | (simpa [State.hears, sm_anew, ha.method?] using hh)
  · show e.platform.stackLimits T.me = e.platform.stackLimits (sm_anew T m args below).me
    rw [Platform.stackLimits_plain hb0, Platform.stackLimits_plain (hme.trans hb0)]
  · have hT : T.setVm (sm_anew T m args below).vm = T := State.setVm_self T
    rw [hT]
    have hd : (T.heap.toList.drop (sm_anew T m args below).heap.size) = [] := List.drop_eq_nil_of_le (by show T.heap.toList.length ≤ T.heap.size; simp)
    refine ⟨?_, Nat.le_refl _, Nat.le_refl _, ?_, ?_, ?_⟩
    · obtain ⟨t, ht, -⟩ := State.frames_cons hfr
      show T = ({ (T.setFrames _).setFrames T.frames with heap := T.heap, slotsUsed := T.slotsUsed } : State)
      rw [State.setFrames_setFrames, State.setFrames_self ht]
    · rw [hd]; rfl
    · rw [hd]; exact Nat.le_refl _
    · intro a c0 ha
      exact ⟨c0, ha, rfl, rfl, fun _ _ => rfl⟩
/-- a step of frames alone changes no words of the tables -/
theorem sm_anew_same {U : State} {L : List Loc} {k n : Nat} (X : Stand p l e R s m args below meth c T locs cells slots) (hB : (sm_anew T m args below).sameButNew ({ U with vm := (sm_anew T m args below).vm } : State) L k n) : s.sameButNew ({ U with vm := s.vm } : State) (locs ++ L) (cells + k) (slots + n) := by
  have hT : T.sameButNew ({ U with vm := T.vm } : State) L k n := by
    obtain ⟨h1, h2, h3, h4, h5, h6⟩ := hB
    refine ⟨?_, h2, h3, h4, h5, h6⟩
    have h1' : ({ U with vm := T.vm } : State) = ({ (T.setFrames (.invoking m args :: below)).setFrames U.frames with heap := U.heap, slotsUsed := U.slotsUsed } : State) := h1
    rw [State.setFrames_setFrames] at h1'
    exact h1'
  exact X.same.trans (hT.setVm s.vm)
/-- what holds when an exception of class X has been made and thrown out of the method -/
def sm_Thr (s : State) (below : List Frame) (X : String) (H : Heap) (locs : List Loc) (cells slots : Nat) (t : State) : Prop :=
  t.status = .running ∧ Ended t below (.threw H.size) ∧ s.WarmedH t.vm ∧ s.sameButNew ({ t with vm := s.vm } : State) locs (cells + 1) (slots + 6) ∧ t.heap.size = H.size + 1 ∧ (∀ q, q < H.size → t.heap[q]? = H[q]?) ∧ ∃ ce, t.heap[H.size]? = some ce ∧ s.vm.findClass X = some ce.cls ∧ ce.vm = .none
variable {H : Heap} {cc : ByteArray} {pc ix il ic : Nat} {LS : Array Slot} {st : List Value} {own X tx : String} {names : List String} {q : Nat} {Ts : List Cond}
theorem sm_ldcwS {Q : State → Prop} {rest : List Value} (hexec : p.tables.exec = Jvm.exec) (hb : c.code = cc) (hown : s.vm.findClass own = some m.cls) (hZ : vk_R own il tx q s) (hdg : decode cc pc = .ok (.ldc_w il, 3))
    (k : W p l e R s m args below meth c H locs cells slots Q (F0 m (pc + 3) LS (.ref q :: rest))) : W p l e R s m args below meth c H locs cells slots Q (F0 m pc LS rest) := by
  intro T hT X0
  obtain ⟨t, a1, b1⟩ := k T hT X0
  refine ⟨t, ?_, b1⟩
  obtain ⟨k, cf, i, a', hk, hcf, hcp, -, hr, hev'⟩ := Cond.stringRef_spec hown hZ.1
  cases hZ.2.symm.trans hev'
  obtain ⟨k', hk', he⟩ := X0.warmed.alike.2.2 _ _ hk
  have hr' : k'.resolved[il]? = some (some (.string q)) := by
    rcases X0.warmed.entry hk hk' il with h | ⟨h, -⟩
    · rw [h]; exact hr
    · rw [hr] at h; cases h
  have hdg' : decode c.code (F0 m pc LS rest).pc = .ok (.ldc_w il, 3) := by rw [hb]; exact hdg
  jvm_step X0.here [hexec, hdg', ldc_w.wp_string (e := e) (s := T) (f := F0 m pc LS rest) X0.here.top hk' (by rw [he]; exact hcf) hcp hr']
  exact a1
set_option maxHeartbeats 4000000 in
theorem sm_throwW {pi : Nat} (hexec : p.tables.exec = Jvm.exec) (htr : e.platform.stackTraces = false) (hb : c.code = cc) (hml : c.maxLocals = LS.size) (hlocks : meth.locks = false) (hnoh : c.exceptionTable.toList = []) (hown : s.vm.findClass own = some m.cls)
    (hts : ∀ w ∈ Ts, w.before args s = true) (hgw : ∀ w ∈ Ts, goodWord w = true)
    (h1 : Cond.classLink own ix X ∈ Ts) (h2 : Cond.instantiable X 6 ∈ Ts) (h3 : Cond.initialized X ∈ Ts) (hX1 : Bundle.fit X = true) (hX2 : ∀ n ∈ names, Bundle.fit n = true)
    (hat : sm_atomsOf own ic X names (fun a => a ∈ Ts ∨ ∀ U : State, s.WarmedH U.vm → U.heap = H → a.before args U = true))
    (hstr : vk_R own il tx q s) (hroom : cells + 1 ≤ R.cells ∧ slots + 6 ≤ R.slots) (hfr : names.length + 3 < R.frames) (hlo : (st.map fun v => v.category).sum + (13 * (names.length + 1) + 43) ≤ R.locals)
    (d0 : decode cc pc = .ok (.new ix, 3)) (d1 : decode cc (pc + 3) = .ok (.dup, 1)) (d2 : (decode cc (pc + 4) = .ok (.ldc il, 2) ∧ pi = pc + 6) ∨ (decode cc (pc + 4) = .ok (.ldc_w il, 3) ∧ pi = pc + 7)) (d3 : decode cc pi = .ok (.invokespecial ic, 3)) (d4 : decode cc (pi + 3) = .ok (.athrow, 1)) :
    W p l e R s m args below meth c H locs cells slots (sm_Thr s below X H locs cells slots) (F0 m pc LS st) := by
  intro T hT X0
  subst hT
  have X1 := sm_rebase X0 ⟨by omega, by omega⟩
  have hW : s.WarmedH (sm_anew T m args below).vm := X0.warmed
  have hwd : ∀ w ∈ Ts, w.before args (sm_anew T m args below) = true := fun w hw => word_at hW (good_of_word (hgw w hw)) (hts w hw)
  have hown' : (sm_anew T m args below).vm.findClass own = some m.cls := by rw [hW.alike.findClass]; exact hown
  obtain ⟨cX, kX, hfX, hkX, -⟩ := Cond.instantiable_spec (hwd _ h2)
  have hW2 : W p l e { R with cells := R.cells - cells, slots := R.slots - slots } (sm_anew T m args below) m args below meth c T.heap [] 0 0 (fun t => t.status = .running ∧ Ended t below (.threw T.heap.size) ∧ (sm_anew T m args below).WarmedH t.vm ∧ (sm_anew T m args below).sameButNew ({ t with vm := (sm_anew T m args below).vm } : State) [] 1 6 ∧ ∃ ce, t.heap[T.heap.size]? = some ce ∧ (sm_anew T m args below).vm.findClass X = some ce.cls ∧ ce.vm = .none) (F0 m pc LS st) := by
    refine W.newcK hexec hb hown' (hwd _ h1) (hwd _ h2) (hwd _ h3) rfl d0 (by show 0 + 1 ≤ R.cells - cells; omega) (by show 0 + 6 ≤ R.slots - slots; omega) hfX rfl fun H1 kC hkC e1 z o => ?_
    refine lv_dup hexec hb d1 rfl ?_
    have hfin : W p l e { R with cells := R.cells - cells, slots := R.slots - slots } (sm_anew T m args below) m args below meth c H1 [] (0 + 1) (0 + 6) (fun t => t.status = .running ∧ Ended t below (.threw T.heap.size) ∧ (sm_anew T m args below).WarmedH t.vm ∧ (sm_anew T m args below).sameButNew ({ t with vm := (sm_anew T m args below).vm } : State) [] 1 6 ∧ ∃ ce, t.heap[T.heap.size]? = some ce ∧ (sm_anew T m args below).vm.findClass X = some ce.cls ∧ ce.vm = .none) (F0 m pi LS (.ref q :: .ref T.heap.size :: .ref T.heap.size :: st)) := by
      intro T2 hT2 X2
      rcases hat with hat | ⟨Y0, ns, ix2, by2, rfl, b0, b1, b2, b5, hat⟩
      · obtain ⟨U, u1, u2, u3, u4, u5, ce, u6, u7⟩ := X2.ctorThrowS hexec htr (own := own) (cls := X) (names := names) (ic := ic) hown' hX1 hX2 (fun a ha => by
            rcases hat a ha with h | h
            · exact hwd a h
            · exact h (sm_anew T m args below) hW rfl) (fun x hx => by cases hx) (a := T.heap.size) hfX hkC (by rw [hT2]; exact e1) (Nat.le_refl _) (msg := .ref q) rfl (g := F0 m pi LS (.ref q :: .ref T.heap.size :: .ref T.heap.size :: st)) rfl (by rw [hml]) rfl rfl (rest := st) rfl (by rw [hb]; exact d3) (by rw [hb]; exact d4) (by rw [hnoh]; exact fun x hx => by cases hx) hfr (by show 2 * 0 + (1 + (st.map fun v => v.category).sum) + _ ≤ R.locals; omega) hlocks
        exact ⟨U, u1, u2, u3, u4, u5, ce, u6, u7.cls, u7.vm⟩
      · have hll : (Y0 :: ns).length = ns.length + 1 := List.length_cons
        exact sm_oddCtor X2 hexec htr (own := own) (cls := X) (names := ns) (ic := ic) hown' hX1 (hX2 _ List.mem_cons_self) (fun n hn => hX2 n (List.mem_cons_of_mem _ hn)) (fun a ha => by
            rcases hat a ha with h | h
            · exact hwd a h
            · exact h (sm_anew T m args below) hW rfl) b0 b1 b2 b5 (fun x hx => by cases hx) (a := T.heap.size) hfX hkC (by rw [hT2]; exact e1) (Nat.le_refl _) (msg := .ref q) rfl (g := F0 m pi LS (.ref q :: .ref T.heap.size :: .ref T.heap.size :: st)) rfl (by rw [hml]) rfl rfl (rest := st) rfl (by rw [hb]; exact d3) (by rw [hb]; exact d4) (by rw [hnoh]; exact fun x hx => by cases hx) hfr (by show 2 * 0 + (1 + (st.map fun v => v.category).sum) + _ ≤ R.locals; omega) hlocks
    rcases d2 with ⟨d2, e0⟩ | ⟨d2, e0⟩
    · subst e0
      exact va_ldcS hexec hb hown' (vk_R.warm hW hstr) d2 hfin
    · subst e0
      exact sm_ldcwS hexec hb hown' (vk_R.warm hW hstr) d2 hfin
  obtain ⟨t, t1, t2, t3, t4, t5, ce, t6, t7, t8⟩ := hW2 T rfl X1
  have hlt : T.heap.size < t.heap.size := (Array.getElem?_eq_some_iff.mp t6).1
  have hle : t.heap.size ≤ T.heap.size + 1 := t5.2.2.1
  refine ⟨t, t1, t2, t3, X0.warmed.trans t4, ?_, by omega, fun q hq => ?_, ce, t6, by rw [← hW.alike.findClass]; exact t7, t8⟩
  · have := sm_anew_same X0 t5
    rw [List.append_nil] at this
    exact this
  · have hq2 : T.heap[q]? = some T.heap[q] := Array.getElem?_eq_getElem hq
    obtain ⟨c', w1, w2, w3, w4⟩ := t5.2.2.2.2.2 q _ hq2
    have w1' : t.heap[q]? = some c' := w1
    rw [w1', hq2]
    have e2 : c'.slots = T.heap[q].slots := by
      apply Array.ext_getElem?
      intro i
      exact w4 i (fun hx => by cases hx)
    rw [w2, e2]
end SMT
