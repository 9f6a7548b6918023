def sp_0_0 : List ((Nat × Nat) × List Nat) := [((10, 3), [2]), ((4, 9), [1, 2, 0]), ((10, 11), [0, 1, 2]), ((2, 14), [0, 2, 1, 0]), ((2, 18), [1, 2, 1, 0]), ((2, 21), [2, 2, 1, 0]), ((2, 24), [3, 2, 1, 0]), ((4, 27), [2, 0, 2, 2, 2, 2, 0, 0, 2, 2, 2, 0, 2, 2, 2, 2, 2, 2, 2, 0, 2]), ((10, 29), [0, 2, 1]), ((2, 30), [4, 2, 1, 0]), ((4, 34), [3, 2, 2, 0, 0]), ((4, 36), [4, 2, 0, 0, 0, 0]), ((1, 14), [0, 0, 0]), ((10, 38), [0, 3, 2]), ((1, 30), [4, 0, 0]), ((10, 41), [0, 4, 3]), ((2, 44), [5, 2, 1, 0]), ((4, 48), [5, 2, 2, 2, 2, 2, 2, 2, 2, 2, 2, 2, 2, 2, 2, 2, 3]), ((10, 50), [0, 5, 2]), ((2, 53), [6, 2, 1, 0])]
set_option maxRecDepth 20000 in
theorem sp_ok_0_0 {K : sm_H} (hK : sc_KOk K) : sm_poolOk sc_Ts sc_sx sc_zx sc_oc K sc_cl sc_Y "TwoWayGrammar" "<init>" sp_0_0 :=
  List.forall_mem_cons.mpr ⟨fun pc i hi => by rw [sm_k10 hi]; exact ⟨⟨sm_mem 132 (by decide +kernel), sm_mem 133 (by decide +kernel), sm_mem 134 (by decide +kernel)⟩, trivial⟩,
  List.forall_mem_cons.mpr ⟨fun pc i hi => by rw [sm_k4 hi]; exact ⟨⟨"TwoWayGrammar$Text", sc_T1, 2, sc_ty1, rfl, sc_in1, sc_tyok1, sm_mem 135 (by decide +kernel), sm_mem 136 (by decide +kernel), sm_mem 100 (by decide +kernel), rfl, by decide +kernel⟩, trivial⟩,
  List.forall_mem_cons.mpr ⟨fun pc i hi => by rw [sm_k10 hi]; exact ⟨trivial, ⟨rfl, rfl, sm_mem 138 (by decide +kernel), sm_mem 100 (by decide +kernel), ⟨1, rfl, by decide +kernel⟩, Or.inl (sm_mem 137 (by decide +kernel))⟩⟩,
  List.forall_mem_cons.mpr ⟨fun pc i hi => by rw [sm_k2 hi]; exact ⟨sm_al1 (⟨"TwoWayGrammar", sc_T0, 16, "TwoWayGrammar", sc_ty0, rfl, by decide, sc_in0, sm_mem 549 (by decide +kernel), Or.inl rfl, sc_tyok0, sc_nm0, Or.inr ⟨rfl, rfl, rfl⟩, Or.inr (Or.inr (Or.inl ⟨rfl, Or.inl ⟨_, rfl⟩⟩))⟩), trivial⟩,
  List.forall_mem_cons.mpr ⟨fun pc i hi => by rw [sm_k2 hi]; exact ⟨sm_al1 (⟨"TwoWayGrammar", sc_T0, 16, "TwoWayGrammar", sc_ty0, rfl, by decide, sc_in0, sm_mem 550 (by decide +kernel), Or.inl rfl, sc_tyok0, sc_nm0, Or.inr ⟨rfl, rfl, rfl⟩, Or.inr (Or.inr (Or.inl ⟨rfl, Or.inl ⟨_, rfl⟩⟩))⟩), trivial⟩,
  List.forall_mem_cons.mpr ⟨fun pc i hi => by rw [sm_k2 hi]; exact ⟨sm_al1 (⟨"TwoWayGrammar", sc_T0, 16, "TwoWayGrammar", sc_ty0, rfl, by decide, sc_in0, sm_mem 551 (by decide +kernel), Or.inl rfl, sc_tyok0, sc_nm0, Or.inr ⟨rfl, rfl, rfl⟩, Or.inr (Or.inr (Or.inl ⟨rfl, Or.inl ⟨_, rfl⟩⟩))⟩), trivial⟩,
  List.forall_mem_cons.mpr ⟨fun pc i hi => by rw [sm_k2 hi]; exact ⟨sm_al1 (⟨"TwoWayGrammar", sc_T0, 16, "TwoWayGrammar", sc_ty0, rfl, by decide, sc_in0, sm_mem 552 (by decide +kernel), Or.inl rfl, sc_tyok0, sc_nm0, Or.inr ⟨rfl, rfl, rfl⟩, Or.inr (Or.inr (Or.inl ⟨rfl, Or.inl ⟨_, rfl⟩⟩))⟩), trivial⟩,
  List.forall_mem_cons.mpr ⟨fun pc i hi => by rw [sm_k4 hi]; exact ⟨⟨"TwoWayGrammar$Grammar", sc_T2, 20, sc_ty2, rfl, sc_in2, sc_tyok2, sm_mem 152 (by decide +kernel), sm_mem 153 (by decide +kernel), sm_mem 102 (by decide +kernel), rfl, by decide +kernel⟩, trivial⟩,
  List.forall_mem_cons.mpr ⟨fun pc i hi => by rw [sm_k10 hi]; exact ⟨trivial, ⟨rfl, rfl, sm_mem 155 (by decide +kernel), sm_mem 102 (by decide +kernel), ⟨0, rfl, by decide +kernel⟩, Or.inr ⟨"TwoWayGrammar", sc_nx_mem 0 (by decide +kernel)⟩⟩⟩,
  List.forall_mem_cons.mpr ⟨fun pc i hi => by rw [sm_k2 hi]; exact ⟨sm_al1 (⟨"TwoWayGrammar", sc_T0, 16, "TwoWayGrammar", sc_ty0, rfl, by decide, sc_in0, sm_mem 553 (by decide +kernel), Or.inl rfl, sc_tyok0, sc_nm0, Or.inr ⟨rfl, rfl, rfl⟩, Or.inr (Or.inr (Or.inl ⟨rfl, Or.inl ⟨_, rfl⟩⟩))⟩), trivial⟩,
  List.forall_mem_cons.mpr ⟨fun pc i hi => by rw [sm_k4 hi]; exact ⟨⟨"TwoWayGrammar$Reader", sc_T3, 4, sc_ty3, rfl, sc_in3, sc_tyok3, sm_mem 267 (by decide +kernel), sm_mem 268 (by decide +kernel), sm_mem 103 (by decide +kernel), rfl, by decide +kernel⟩, trivial⟩,
  List.forall_mem_cons.mpr ⟨fun pc i hi => by rw [sm_k4 hi]; exact ⟨⟨"TwoWayGrammar$Tokens", sc_T4, 5, sc_ty4, rfl, sc_in4, sc_tyok4, sm_mem 269 (by decide +kernel), sm_mem 270 (by decide +kernel), sm_mem 104 (by decide +kernel), rfl, by decide +kernel⟩, trivial⟩,
  List.forall_mem_cons.mpr ⟨fun pc i hi => by rw [sm_k1 hi]; exact ⟨sm_al1 (⟨"TwoWayGrammar", sc_T0, 16, "TwoWayGrammar", rfl, by decide, sc_in0, sm_mem 549 (by decide +kernel), Or.inl rfl⟩), trivial⟩,
  List.forall_mem_cons.mpr ⟨fun pc i hi => by rw [sm_k10 hi]; exact ⟨trivial, ⟨rfl, rfl, sm_mem 272 (by decide +kernel), sm_mem 104 (by decide +kernel), ⟨1, rfl, by decide +kernel⟩, Or.inl (sm_mem 271 (by decide +kernel))⟩⟩,
  List.forall_mem_cons.mpr ⟨fun pc i hi => by rw [sm_k1 hi]; exact ⟨sm_al1 (⟨"TwoWayGrammar", sc_T0, 16, "TwoWayGrammar", rfl, by decide, sc_in0, sm_mem 553 (by decide +kernel), Or.inl rfl⟩), trivial⟩,
  List.forall_mem_cons.mpr ⟨fun pc i hi => by rw [sm_k10 hi]; exact ⟨trivial, ⟨rfl, rfl, sm_mem 295 (by decide +kernel), sm_mem 103 (by decide +kernel), ⟨2, rfl, by decide +kernel⟩, Or.inl (sm_mem 294 (by decide +kernel))⟩⟩,
  List.forall_mem_cons.mpr ⟨fun pc i hi => by rw [sm_k2 hi]; exact ⟨sm_al1 (⟨"TwoWayGrammar", sc_T0, 16, "TwoWayGrammar", sc_ty0, rfl, by decide, sc_in0, sm_mem 554 (by decide +kernel), Or.inl rfl, sc_tyok0, sc_nm0, Or.inr ⟨rfl, rfl, rfl⟩, Or.inr (Or.inr (Or.inl ⟨rfl, Or.inl ⟨_, rfl⟩⟩))⟩), trivial⟩,
  List.forall_mem_cons.mpr ⟨fun pc i hi => by rw [sm_k4 hi]; exact ⟨⟨"TwoWayGrammar$Sets", sc_T5, 16, sc_ty5, rfl, sc_in5, sc_tyok5, sm_mem 311 (by decide +kernel), sm_mem 312 (by decide +kernel), sm_mem 105 (by decide +kernel), rfl, by decide +kernel⟩, trivial⟩,
  List.forall_mem_cons.mpr ⟨fun pc i hi => by rw [sm_k10 hi]; exact ⟨trivial, ⟨rfl, rfl, sm_mem 314 (by decide +kernel), sm_mem 105 (by decide +kernel), ⟨1, rfl, by decide +kernel⟩, Or.inl (sm_mem 313 (by decide +kernel))⟩⟩,
  List.forall_mem_cons.mpr ⟨fun pc i hi => by rw [sm_k2 hi]; exact ⟨sm_al1 (⟨"TwoWayGrammar", sc_T0, 16, "TwoWayGrammar", sc_ty0, rfl, by decide, sc_in0, sm_mem 555 (by decide +kernel), Or.inl rfl, sc_tyok0, sc_nm0, Or.inr ⟨rfl, rfl, rfl⟩, Or.inr (Or.inr (Or.inl ⟨rfl, Or.inl ⟨_, rfl⟩⟩))⟩), trivial⟩,
  fun _ h => absurd h List.not_mem_nil⟩⟩⟩⟩⟩⟩⟩⟩⟩⟩⟩⟩⟩⟩⟩⟩⟩⟩⟩⟩
def sp_0_1 : List ((Nat × Nat) × List Nat) := [((4, 57), [6, 2, 2, 0]), ((1, 53), [6, 0, 0]), ((10, 59), [0, 6, 3]), ((2, 62), [7, 2, 1, 0]), ((4, 66), [7, 0, 2, 2, 2]), ((10, 68), [0, 7, 1]), ((2, 69), [8, 2, 1, 0]), ((2, 73), [9, 2, 1, 0]), ((2, 76), [10, 2, 1, 0]), ((4, 79), [8, 2, 2, 2, 3, 3, 0, 2, 0, 0, 0, 0, 0]), ((1, 76), [10, 0, 0]), ((1, 18), [1, 0, 0]), ((10, 81), [0, 8, 5]), ((2, 84), [11, 2, 1, 0]), ((4, 88), [9, 2, 2, 2, 3, 3, 0, 1, 0]), ((10, 90), [0, 10, 4]), ((2, 93), [12, 2, 1, 0]), ((4, 97), [10, 2, 2, 2, 3, 3, 0, 2, 0, 0, 3, 3, 3, 3]), ((1, 69), [8, 0, 0]), ((1, 24), [3, 0, 0])]
set_option maxRecDepth 20000 in
theorem sp_ok_0_1 {K : sm_H} (hK : sc_KOk K) : sm_poolOk sc_Ts sc_sx sc_zx sc_oc K sc_cl sc_Y "TwoWayGrammar" "<init>" sp_0_1 :=
  List.forall_mem_cons.mpr ⟨fun pc i hi => by rw [sm_k4 hi]; exact ⟨⟨"TwoWayGrammar$Checks", sc_T6, 3, sc_ty6, rfl, sc_in6, sc_tyok6, sm_mem 379 (by decide +kernel), sm_mem 380 (by decide +kernel), sm_mem 106 (by decide +kernel), rfl, by decide +kernel⟩, trivial⟩,
  List.forall_mem_cons.mpr ⟨fun pc i hi => by rw [sm_k1 hi]; exact ⟨sm_al1 (⟨"TwoWayGrammar", sc_T0, 16, "TwoWayGrammar", rfl, by decide, sc_in0, sm_mem 555 (by decide +kernel), Or.inl rfl⟩), trivial⟩,
  List.forall_mem_cons.mpr ⟨fun pc i hi => by rw [sm_k10 hi]; exact ⟨trivial, ⟨rfl, rfl, sm_mem 382 (by decide +kernel), sm_mem 106 (by decide +kernel), ⟨2, rfl, by decide +kernel⟩, Or.inl (sm_mem 381 (by decide +kernel))⟩⟩,
  List.forall_mem_cons.mpr ⟨fun pc i hi => by rw [sm_k2 hi]; exact ⟨sm_al1 (⟨"TwoWayGrammar", sc_T0, 16, "TwoWayGrammar", sc_ty0, rfl, by decide, sc_in0, sm_mem 556 (by decide +kernel), Or.inl rfl, sc_tyok0, sc_nm0, Or.inr ⟨rfl, rfl, rfl⟩, Or.inr (Or.inr (Or.inl ⟨rfl, Or.inl ⟨_, rfl⟩⟩))⟩), trivial⟩,
  List.forall_mem_cons.mpr ⟨fun pc i hi => by rw [sm_k4 hi]; exact ⟨⟨"TwoWayGrammar$Tree", sc_T7, 4, sc_ty7, rfl, sc_in7, sc_tyok7, sm_mem 395 (by decide +kernel), sm_mem 396 (by decide +kernel), sm_mem 107 (by decide +kernel), rfl, by decide +kernel⟩, trivial⟩,
  List.forall_mem_cons.mpr ⟨fun pc i hi => by rw [sm_k10 hi]; exact ⟨trivial, ⟨rfl, rfl, sm_mem 398 (by decide +kernel), sm_mem 107 (by decide +kernel), ⟨0, rfl, by decide +kernel⟩, Or.inr ⟨"TwoWayGrammar", sc_nx_mem 1 (by decide +kernel)⟩⟩⟩,
  List.forall_mem_cons.mpr ⟨fun pc i hi => by rw [sm_k2 hi]; exact ⟨sm_al1 (⟨"TwoWayGrammar", sc_T0, 16, "TwoWayGrammar", sc_ty0, rfl, by decide, sc_in0, sm_mem 557 (by decide +kernel), Or.inl rfl, sc_tyok0, sc_nm0, Or.inr ⟨rfl, rfl, rfl⟩, Or.inr (Or.inr (Or.inl ⟨rfl, Or.inl ⟨_, rfl⟩⟩))⟩), trivial⟩,
  List.forall_mem_cons.mpr ⟨fun pc i hi => by rw [sm_k2 hi]; exact ⟨sm_al1 (⟨"TwoWayGrammar", sc_T0, 16, "TwoWayGrammar", sc_ty0, rfl, by decide, sc_in0, sm_mem 558 (by decide +kernel), Or.inl rfl, sc_tyok0, sc_nm0, Or.inr ⟨rfl, rfl, rfl⟩, Or.inr (Or.inr (Or.inl ⟨rfl, Or.inl ⟨_, rfl⟩⟩))⟩), trivial⟩,
  List.forall_mem_cons.mpr ⟨fun pc i hi => by rw [sm_k2 hi]; exact ⟨sm_al1 (⟨"TwoWayGrammar", sc_T0, 16, "TwoWayGrammar", sc_ty0, rfl, by decide, sc_in0, sm_mem 559 (by decide +kernel), Or.inl rfl, sc_tyok0, sc_nm0, Or.inr ⟨rfl, rfl, rfl⟩, Or.inr (Or.inr (Or.inl ⟨rfl, Or.inl ⟨_, rfl⟩⟩))⟩), trivial⟩,
  List.forall_mem_cons.mpr ⟨fun pc i hi => by rw [sm_k4 hi]; exact ⟨⟨"TwoWayGrammar$Parsing", sc_T8, 12, sc_ty8, rfl, sc_in8, sc_tyok8, sm_mem 422 (by decide +kernel), sm_mem 423 (by decide +kernel), sm_mem 109 (by decide +kernel), rfl, by decide +kernel⟩, trivial⟩,
  List.forall_mem_cons.mpr ⟨fun pc i hi => by rw [sm_k1 hi]; exact ⟨sm_al1 (⟨"TwoWayGrammar", sc_T0, 16, "TwoWayGrammar", rfl, by decide, sc_in0, sm_mem 559 (by decide +kernel), Or.inl rfl⟩), trivial⟩,
  List.forall_mem_cons.mpr ⟨fun pc i hi => by rw [sm_k1 hi]; exact ⟨sm_al1 (⟨"TwoWayGrammar", sc_T0, 16, "TwoWayGrammar", rfl, by decide, sc_in0, sm_mem 550 (by decide +kernel), Or.inl rfl⟩), trivial⟩,
  List.forall_mem_cons.mpr ⟨fun pc i hi => by rw [sm_k10 hi]; exact ⟨trivial, ⟨rfl, rfl, sm_mem 425 (by decide +kernel), sm_mem 109 (by decide +kernel), ⟨4, rfl, by decide +kernel⟩, Or.inl (sm_mem 424 (by decide +kernel))⟩⟩,
  List.forall_mem_cons.mpr ⟨fun pc i hi => by rw [sm_k2 hi]; exact ⟨sm_al1 (⟨"TwoWayGrammar", sc_T0, 16, "TwoWayGrammar", sc_ty0, rfl, by decide, sc_in0, sm_mem 560 (by decide +kernel), Or.inl rfl, sc_tyok0, sc_nm0, Or.inr ⟨rfl, rfl, rfl⟩, Or.inr (Or.inr (Or.inl ⟨rfl, Or.inl ⟨_, rfl⟩⟩))⟩), trivial⟩,
  List.forall_mem_cons.mpr ⟨fun pc i hi => by rw [sm_k4 hi]; exact ⟨⟨"TwoWayGrammar$Growing", sc_T9, 8, sc_ty9, rfl, sc_in9, sc_tyok9, sm_mem 495 (by decide +kernel), sm_mem 496 (by decide +kernel), sm_mem 110 (by decide +kernel), rfl, by decide +kernel⟩, trivial⟩,
  List.forall_mem_cons.mpr ⟨fun pc i hi => by rw [sm_k10 hi]; exact ⟨trivial, ⟨rfl, rfl, sm_mem 498 (by decide +kernel), sm_mem 110 (by decide +kernel), ⟨3, rfl, by decide +kernel⟩, Or.inl (sm_mem 497 (by decide +kernel))⟩⟩,
  List.forall_mem_cons.mpr ⟨fun pc i hi => by rw [sm_k2 hi]; exact ⟨sm_al1 (⟨"TwoWayGrammar", sc_T0, 16, "TwoWayGrammar", sc_ty0, rfl, by decide, sc_in0, sm_mem 561 (by decide +kernel), Or.inl rfl, sc_tyok0, sc_nm0, Or.inr ⟨rfl, rfl, rfl⟩, Or.inr (Or.inr (Or.inl ⟨rfl, Or.inl ⟨_, rfl⟩⟩))⟩), trivial⟩,
  List.forall_mem_cons.mpr ⟨fun pc i hi => by rw [sm_k4 hi]; exact ⟨⟨"TwoWayGrammar$Printing", sc_T10, 13, sc_ty10, rfl, sc_in10, sc_tyok10, sm_mem 514 (by decide +kernel), sm_mem 515 (by decide +kernel), sm_mem 111 (by decide +kernel), rfl, by decide +kernel⟩, trivial⟩,
  List.forall_mem_cons.mpr ⟨fun pc i hi => by rw [sm_k1 hi]; exact ⟨sm_al1 (⟨"TwoWayGrammar", sc_T0, 16, "TwoWayGrammar", rfl, by decide, sc_in0, sm_mem 557 (by decide +kernel), Or.inl rfl⟩), trivial⟩,
  List.forall_mem_cons.mpr ⟨fun pc i hi => by rw [sm_k1 hi]; exact ⟨sm_al1 (⟨"TwoWayGrammar", sc_T0, 16, "TwoWayGrammar", rfl, by decide, sc_in0, sm_mem 552 (by decide +kernel), Or.inl rfl⟩), trivial⟩,
  fun _ h => absurd h List.not_mem_nil⟩⟩⟩⟩⟩⟩⟩⟩⟩⟩⟩⟩⟩⟩⟩⟩⟩⟩⟩⟩
def sp_0_2 : List ((Nat × Nat) × List Nat) := [((10, 99), [0, 11, 5]), ((2, 100), [13, 2, 1, 0])]
set_option maxRecDepth 20000 in
theorem sp_ok_0_2 {K : sm_H} (hK : sc_KOk K) : sm_poolOk sc_Ts sc_sx sc_zx sc_oc K sc_cl sc_Y "TwoWayGrammar" "<init>" sp_0_2 :=
  List.forall_mem_cons.mpr ⟨fun pc i hi => by rw [sm_k10 hi]; exact ⟨trivial, ⟨rfl, rfl, sm_mem 517 (by decide +kernel), sm_mem 111 (by decide +kernel), ⟨4, rfl, by decide +kernel⟩, Or.inl (sm_mem 516 (by decide +kernel))⟩⟩,
  List.forall_mem_cons.mpr ⟨fun pc i hi => by rw [sm_k2 hi]; exact ⟨sm_al1 (⟨"TwoWayGrammar", sc_T0, 16, "TwoWayGrammar", sc_ty0, rfl, by decide, sc_in0, sm_mem 562 (by decide +kernel), Or.inl rfl, sc_tyok0, sc_nm0, Or.inr ⟨rfl, rfl, rfl⟩, Or.inr (Or.inr (Or.inl ⟨rfl, Or.inl ⟨_, rfl⟩⟩))⟩), trivial⟩,
  fun _ h => absurd h List.not_mem_nil⟩⟩
def sp_0 : List ((Nat × Nat) × List Nat) := sp_0_0 ++ sp_0_1 ++ sp_0_2
theorem sp_ok_0 {K : sm_H} (hK : sc_KOk K) : sm_poolOk sc_Ts sc_sx sc_zx sc_oc K sc_cl sc_Y "TwoWayGrammar" "<init>" sp_0 := by
  intro e he
  simp only [sp_0, List.mem_append] at he
  rcases he with he | he
  rotate_left
  · exact sp_ok_0_2 hK e he
  rcases he with he | he
  rotate_left
  · exact sp_ok_0_1 hK e he
  exact sp_ok_0_0 hK e he
def sp_1_0 : List ((Nat × Nat) × List Nat) := [((10, 1), [2]), ((9, 7), [7, 0]), ((5, 5), [2]), ((2, 13), [0, 2, 1, 1])]
set_option maxRecDepth 20000 in
theorem sp_ok_1_0 {K : sm_H} (hK : sc_KOk K) : sm_poolOk sc_Ts sc_sx sc_zx sc_oc K sc_cl sc_Y "TwoWayGrammar$Text" "<init>" sp_1_0 :=
  List.forall_mem_cons.mpr ⟨fun pc i hi => by rw [sm_k10 hi]; exact ⟨⟨sm_mem 140 (by decide +kernel), sm_mem 133 (by decide +kernel), sm_mem 134 (by decide +kernel)⟩, trivial⟩,
  List.forall_mem_cons.mpr ⟨fun pc i hi => by rw [sm_k9 hi]; exact ⟨Or.inl ⟨rfl, sm_mem 141 (by decide +kernel), sm_mem 142 (by decide +kernel), sm_mem 101 (by decide +kernel), sm_mem 143 (by decide +kernel)⟩, trivial⟩,
  List.forall_mem_cons.mpr ⟨fun pc i hi => by rw [sm_k5c hi]; exact ⟨⟨rfl, sm_mem 151 (by decide +kernel)⟩, trivial⟩,
  List.forall_mem_cons.mpr ⟨fun pc i hi => by rw [sm_k2 hi]; exact ⟨sm_al1 (⟨"TwoWayGrammar$Text", sc_T1, 2, "TwoWayGrammar$Text", sc_ty1, rfl, by decide, sc_in1, sm_mem 144 (by decide +kernel), Or.inl rfl, sc_tyok1, sc_nm1, Or.inr ⟨rfl, rfl, rfl⟩, Or.inr (Or.inr (Or.inl ⟨rfl, Or.inr ⟨_, rfl⟩⟩))⟩), trivial⟩,
  fun _ h => absurd h List.not_mem_nil⟩⟩⟩⟩
def sp_1 : List ((Nat × Nat) × List Nat) := sp_1_0
theorem sp_ok_1 {K : sm_H} (hK : sc_KOk K) : sm_poolOk sc_Ts sc_sx sc_zx sc_oc K sc_cl sc_Y "TwoWayGrammar$Text" "<init>" sp_1 := by
  intro e he
  exact sp_ok_1_0 hK e he
def sp_2_0 : List ((Nat × Nat) × List Nat) := [((10, 3), [2]), ((5, 10), [0]), ((2, 9), [1, 2, 1, 2]), ((2, 15), [2, 2, 1, 2]), ((2, 18), [3, 2, 1, 2]), ((2, 21), [4, 2, 1, 2]), ((2, 24), [7, 2, 1, 2]), ((2, 27), [8, 2, 1, 2]), ((2, 30), [9, 2, 1, 2]), ((2, 33), [11, 2, 1, 2]), ((2, 36), [12, 2, 1, 2]), ((2, 39), [13, 2, 1, 2]), ((2, 42), [14, 2, 1, 2]), ((2, 45), [15, 2, 1, 2]), ((2, 48), [16, 2, 1, 2]), ((2, 51), [17, 2, 1, 2]), ((2, 54), [19, 2, 1, 2])]
set_option maxRecDepth 20000 in
theorem sp_ok_2_0 {K : sm_H} (hK : sc_KOk K) : sm_poolOk sc_Ts sc_sx sc_zx sc_oc K sc_cl sc_Y "TwoWayGrammar$Grammar" "<init>" sp_2_0 :=
  List.forall_mem_cons.mpr ⟨fun pc i hi => by rw [sm_k10 hi]; exact ⟨⟨sm_mem 157 (by decide +kernel), sm_mem 133 (by decide +kernel), sm_mem 134 (by decide +kernel)⟩, trivial⟩,
  List.forall_mem_cons.mpr ⟨fun pc i hi => by rw [sm_k5i hi]; exact ⟨⟨rfl, sm_mem 266 (by decide +kernel)⟩, trivial⟩,
  List.forall_mem_cons.mpr ⟨fun pc i hi => by rw [sm_k2 hi]; exact ⟨sm_al1 (⟨"TwoWayGrammar$Grammar", sc_T2, 20, "TwoWayGrammar$Grammar", sc_ty2, rfl, by decide, sc_in2, sm_mem 162 (by decide +kernel), Or.inl rfl, sc_tyok2, sc_nm2, Or.inr ⟨rfl, rfl, rfl⟩, Or.inr (Or.inr (Or.inl ⟨rfl, Or.inr ⟨_, rfl⟩⟩))⟩), trivial⟩,
  List.forall_mem_cons.mpr ⟨fun pc i hi => by rw [sm_k2 hi]; exact ⟨sm_al1 (⟨"TwoWayGrammar$Grammar", sc_T2, 20, "TwoWayGrammar$Grammar", sc_ty2, rfl, by decide, sc_in2, sm_mem 163 (by decide +kernel), Or.inl rfl, sc_tyok2, sc_nm2, Or.inr ⟨rfl, rfl, rfl⟩, Or.inr (Or.inr (Or.inl ⟨rfl, Or.inr ⟨_, rfl⟩⟩))⟩), trivial⟩,
  List.forall_mem_cons.mpr ⟨fun pc i hi => by rw [sm_k2 hi]; exact ⟨sm_al1 (⟨"TwoWayGrammar$Grammar", sc_T2, 20, "TwoWayGrammar$Grammar", sc_ty2, rfl, by decide, sc_in2, sm_mem 165 (by decide +kernel), Or.inl rfl, sc_tyok2, sc_nm2, Or.inr ⟨rfl, rfl, rfl⟩, Or.inr (Or.inr (Or.inl ⟨rfl, Or.inr ⟨_, rfl⟩⟩))⟩), trivial⟩,
  List.forall_mem_cons.mpr ⟨fun pc i hi => by rw [sm_k2 hi]; exact ⟨sm_al1 (⟨"TwoWayGrammar$Grammar", sc_T2, 20, "TwoWayGrammar$Grammar", sc_ty2, rfl, by decide, sc_in2, sm_mem 170 (by decide +kernel), Or.inl rfl, sc_tyok2, sc_nm2, Or.inr ⟨rfl, rfl, rfl⟩, Or.inr (Or.inr (Or.inl ⟨rfl, Or.inr ⟨_, rfl⟩⟩))⟩), trivial⟩,
  List.forall_mem_cons.mpr ⟨fun pc i hi => by rw [sm_k2 hi]; exact ⟨sm_al1 (⟨"TwoWayGrammar$Grammar", sc_T2, 20, "TwoWayGrammar$Grammar", sc_ty2, rfl, by decide, sc_in2, sm_mem 178 (by decide +kernel), Or.inl rfl, sc_tyok2, sc_nm2, Or.inr ⟨rfl, rfl, rfl⟩, Or.inr (Or.inr (Or.inl ⟨rfl, Or.inr ⟨_, rfl⟩⟩))⟩), trivial⟩,
  List.forall_mem_cons.mpr ⟨fun pc i hi => by rw [sm_k2 hi]; exact ⟨sm_al1 (⟨"TwoWayGrammar$Grammar", sc_T2, 20, "TwoWayGrammar$Grammar", sc_ty2, rfl, by decide, sc_in2, sm_mem 181 (by decide +kernel), Or.inl rfl, sc_tyok2, sc_nm2, Or.inr ⟨rfl, rfl, rfl⟩, Or.inr (Or.inr (Or.inl ⟨rfl, Or.inr ⟨_, rfl⟩⟩))⟩), trivial⟩,
  List.forall_mem_cons.mpr ⟨fun pc i hi => by rw [sm_k2 hi]; exact ⟨sm_al1 (⟨"TwoWayGrammar$Grammar", sc_T2, 20, "TwoWayGrammar$Grammar", sc_ty2, rfl, by decide, sc_in2, sm_mem 186 (by decide +kernel), Or.inl rfl, sc_tyok2, sc_nm2, Or.inr ⟨rfl, rfl, rfl⟩, Or.inr (Or.inr (Or.inl ⟨rfl, Or.inr ⟨_, rfl⟩⟩))⟩), trivial⟩,
  List.forall_mem_cons.mpr ⟨fun pc i hi => by rw [sm_k2 hi]; exact ⟨sm_al1 (⟨"TwoWayGrammar$Grammar", sc_T2, 20, "TwoWayGrammar$Grammar", sc_ty2, rfl, by decide, sc_in2, sm_mem 192 (by decide +kernel), Or.inl rfl, sc_tyok2, sc_nm2, Or.inr ⟨rfl, rfl, rfl⟩, Or.inr (Or.inr (Or.inl ⟨rfl, Or.inr ⟨_, rfl⟩⟩))⟩), trivial⟩,
  List.forall_mem_cons.mpr ⟨fun pc i hi => by rw [sm_k2 hi]; exact ⟨sm_al1 (⟨"TwoWayGrammar$Grammar", sc_T2, 20, "TwoWayGrammar$Grammar", sc_ty2, rfl, by decide, sc_in2, sm_mem 198 (by decide +kernel), Or.inl rfl, sc_tyok2, sc_nm2, Or.inr ⟨rfl, rfl, rfl⟩, Or.inr (Or.inr (Or.inl ⟨rfl, Or.inr ⟨_, rfl⟩⟩))⟩), trivial⟩,
  List.forall_mem_cons.mpr ⟨fun pc i hi => by rw [sm_k2 hi]; exact ⟨sm_al1 (⟨"TwoWayGrammar$Grammar", sc_T2, 20, "TwoWayGrammar$Grammar", sc_ty2, rfl, by decide, sc_in2, sm_mem 204 (by decide +kernel), Or.inl rfl, sc_tyok2, sc_nm2, Or.inr ⟨rfl, rfl, rfl⟩, Or.inr (Or.inr (Or.inl ⟨rfl, Or.inr ⟨_, rfl⟩⟩))⟩), trivial⟩,
  List.forall_mem_cons.mpr ⟨fun pc i hi => by rw [sm_k2 hi]; exact ⟨sm_al1 (⟨"TwoWayGrammar$Grammar", sc_T2, 20, "TwoWayGrammar$Grammar", sc_ty2, rfl, by decide, sc_in2, sm_mem 206 (by decide +kernel), Or.inl rfl, sc_tyok2, sc_nm2, Or.inr ⟨rfl, rfl, rfl⟩, Or.inr (Or.inr (Or.inl ⟨rfl, Or.inr ⟨_, rfl⟩⟩))⟩), trivial⟩,
  List.forall_mem_cons.mpr ⟨fun pc i hi => by rw [sm_k2 hi]; exact ⟨sm_al1 (⟨"TwoWayGrammar$Grammar", sc_T2, 20, "TwoWayGrammar$Grammar", sc_ty2, rfl, by decide, sc_in2, sm_mem 209 (by decide +kernel), Or.inl rfl, sc_tyok2, sc_nm2, Or.inr ⟨rfl, rfl, rfl⟩, Or.inr (Or.inr (Or.inl ⟨rfl, Or.inr ⟨_, rfl⟩⟩))⟩), trivial⟩,
  List.forall_mem_cons.mpr ⟨fun pc i hi => by rw [sm_k2 hi]; exact ⟨sm_al1 (⟨"TwoWayGrammar$Grammar", sc_T2, 20, "TwoWayGrammar$Grammar", sc_ty2, rfl, by decide, sc_in2, sm_mem 214 (by decide +kernel), Or.inl rfl, sc_tyok2, sc_nm2, Or.inr ⟨rfl, rfl, rfl⟩, Or.inr (Or.inr (Or.inl ⟨rfl, Or.inr ⟨_, rfl⟩⟩))⟩), trivial⟩,
  List.forall_mem_cons.mpr ⟨fun pc i hi => by rw [sm_k2 hi]; exact ⟨sm_al1 (⟨"TwoWayGrammar$Grammar", sc_T2, 20, "TwoWayGrammar$Grammar", sc_ty2, rfl, by decide, sc_in2, sm_mem 217 (by decide +kernel), Or.inl rfl, sc_tyok2, sc_nm2, Or.inr ⟨rfl, rfl, rfl⟩, Or.inr (Or.inr (Or.inl ⟨rfl, Or.inr ⟨_, rfl⟩⟩))⟩), trivial⟩,
  List.forall_mem_cons.mpr ⟨fun pc i hi => by rw [sm_k2 hi]; exact ⟨sm_al1 (⟨"TwoWayGrammar$Grammar", sc_T2, 20, "TwoWayGrammar$Grammar", sc_ty2, rfl, by decide, sc_in2, sm_mem 223 (by decide +kernel), Or.inl rfl, sc_tyok2, sc_nm2, Or.inr ⟨rfl, rfl, rfl⟩, Or.inr (Or.inr (Or.inl ⟨rfl, Or.inr ⟨_, rfl⟩⟩))⟩), trivial⟩,
  fun _ h => absurd h List.not_mem_nil⟩⟩⟩⟩⟩⟩⟩⟩⟩⟩⟩⟩⟩⟩⟩⟩⟩
def sp_2 : List ((Nat × Nat) × List Nat) := sp_2_0
theorem sp_ok_2 {K : sm_H} (hK : sc_KOk K) : sm_poolOk sc_Ts sc_sx sc_zx sc_oc K sc_cl sc_Y "TwoWayGrammar$Grammar" "<init>" sp_2 := by
  intro e he
  exact sp_ok_2_0 hK e he
def sp_3_0 : List ((Nat × Nat) × List Nat) := [((10, 3), [2]), ((2, 9), [0, 2, 1, 4])]
set_option maxRecDepth 20000 in
theorem sp_ok_3_0 {K : sm_H} (hK : sc_KOk K) : sm_poolOk sc_Ts sc_sx sc_zx sc_oc K sc_cl sc_Y "TwoWayGrammar$Tokens" "<init>" sp_3_0 :=
  List.forall_mem_cons.mpr ⟨fun pc i hi => by rw [sm_k10 hi]; exact ⟨⟨sm_mem 274 (by decide +kernel), sm_mem 133 (by decide +kernel), sm_mem 134 (by decide +kernel)⟩, trivial⟩,
  List.forall_mem_cons.mpr ⟨fun pc i hi => by rw [sm_k2 hi]; exact ⟨sm_al1 (⟨"TwoWayGrammar$Tokens", sc_T4, 5, "TwoWayGrammar$Tokens", sc_ty4, rfl, by decide, sc_in4, sm_mem 275 (by decide +kernel), Or.inl rfl, sc_tyok4, sc_nm4, Or.inr ⟨rfl, rfl, rfl⟩, Or.inr (Or.inr (Or.inl ⟨rfl, Or.inl ⟨_, rfl⟩⟩))⟩), trivial⟩,
  fun _ h => absurd h List.not_mem_nil⟩⟩
def sp_3 : List ((Nat × Nat) × List Nat) := sp_3_0
theorem sp_ok_3 {K : sm_H} (hK : sc_KOk K) : sm_poolOk sc_Ts sc_sx sc_zx sc_oc K sc_cl sc_Y "TwoWayGrammar$Tokens" "<init>" sp_3 := by
  intro e he
  exact sp_ok_3_0 hK e he
def sp_4_0 : List ((Nat × Nat) × List Nat) := [((10, 3), [2]), ((2, 9), [0, 2, 1, 3]), ((2, 15), [1, 2, 1, 3])]
set_option maxRecDepth 20000 in
theorem sp_ok_4_0 {K : sm_H} (hK : sc_KOk K) : sm_poolOk sc_Ts sc_sx sc_zx sc_oc K sc_cl sc_Y "TwoWayGrammar$Reader" "<init>" sp_4_0 :=
  List.forall_mem_cons.mpr ⟨fun pc i hi => by rw [sm_k10 hi]; exact ⟨⟨sm_mem 297 (by decide +kernel), sm_mem 133 (by decide +kernel), sm_mem 134 (by decide +kernel)⟩, trivial⟩,
  List.forall_mem_cons.mpr ⟨fun pc i hi => by rw [sm_k2 hi]; exact ⟨sm_al1 (⟨"TwoWayGrammar$Reader", sc_T3, 4, "TwoWayGrammar$Reader", sc_ty3, rfl, by decide, sc_in3, sm_mem 298 (by decide +kernel), Or.inl rfl, sc_tyok3, sc_nm3, Or.inr ⟨rfl, rfl, rfl⟩, Or.inr (Or.inr (Or.inl ⟨rfl, Or.inl ⟨_, rfl⟩⟩))⟩), trivial⟩,
  List.forall_mem_cons.mpr ⟨fun pc i hi => by rw [sm_k2 hi]; exact ⟨sm_al1 (⟨"TwoWayGrammar$Reader", sc_T3, 4, "TwoWayGrammar$Reader", sc_ty3, rfl, by decide, sc_in3, sm_mem 299 (by decide +kernel), Or.inl rfl, sc_tyok3, sc_nm3, Or.inr ⟨rfl, rfl, rfl⟩, Or.inr (Or.inr (Or.inl ⟨rfl, Or.inl ⟨_, rfl⟩⟩))⟩), trivial⟩,
  fun _ h => absurd h List.not_mem_nil⟩⟩⟩
def sp_4 : List ((Nat × Nat) × List Nat) := sp_4_0
theorem sp_ok_4 {K : sm_H} (hK : sc_KOk K) : sm_poolOk sc_Ts sc_sx sc_zx sc_oc K sc_cl sc_Y "TwoWayGrammar$Reader" "<init>" sp_4 := by
  intro e he
  exact sp_ok_4_0 hK e he
def sp_5_0 : List ((Nat × Nat) × List Nat) := [((10, 3), [2]), ((5, 10), [0]), ((2, 9), [1, 2, 1, 5]), ((5, 11), [1]), ((2, 15), [2, 2, 1, 5]), ((2, 19), [3, 2, 1, 5]), ((2, 22), [4, 2, 1, 5]), ((2, 25), [5, 2, 1, 5]), ((2, 28), [6, 2, 1, 5]), ((2, 31), [7, 2, 1, 5]), ((2, 34), [8, 2, 1, 5]), ((2, 37), [9, 2, 1, 5]), ((2, 40), [10, 2, 1, 5]), ((2, 43), [11, 2, 1, 5]), ((2, 46), [12, 2, 1, 5]), ((2, 49), [13, 2, 1, 5]), ((2, 52), [14, 2, 1, 5]), ((2, 55), [0, 2, 1, 5])]
set_option maxRecDepth 20000 in
theorem sp_ok_5_0 {K : sm_H} (hK : sc_KOk K) : sm_poolOk sc_Ts sc_sx sc_zx sc_oc K sc_cl sc_Y "TwoWayGrammar$Sets" "<init>" sp_5_0 :=
  List.forall_mem_cons.mpr ⟨fun pc i hi => by rw [sm_k10 hi]; exact ⟨⟨sm_mem 316 (by decide +kernel), sm_mem 133 (by decide +kernel), sm_mem 134 (by decide +kernel)⟩, trivial⟩,
  List.forall_mem_cons.mpr ⟨fun pc i hi => by rw [sm_k5i hi]; exact ⟨⟨rfl, sm_mem 266 (by decide +kernel)⟩, trivial⟩,
  List.forall_mem_cons.mpr ⟨fun pc i hi => by rw [sm_k2 hi]; exact ⟨sm_al1 (⟨"TwoWayGrammar$Sets", sc_T5, 16, "TwoWayGrammar$Sets", sc_ty5, rfl, by decide, sc_in5, sm_mem 318 (by decide +kernel), Or.inl rfl, sc_tyok5, sc_nm5, Or.inr ⟨rfl, rfl, rfl⟩, Or.inr (Or.inr (Or.inl ⟨rfl, Or.inr ⟨_, rfl⟩⟩))⟩), trivial⟩,
  List.forall_mem_cons.mpr ⟨fun pc i hi => by rw [sm_k5l hi]; exact ⟨⟨rfl, sm_mem 378 (by decide +kernel)⟩, trivial⟩,
  List.forall_mem_cons.mpr ⟨fun pc i hi => by rw [sm_k2 hi]; exact ⟨sm_al1 (⟨"TwoWayGrammar$Sets", sc_T5, 16, "TwoWayGrammar$Sets", sc_ty5, rfl, by decide, sc_in5, sm_mem 320 (by decide +kernel), Or.inl rfl, sc_tyok5, sc_nm5, Or.inr ⟨rfl, rfl, rfl⟩, Or.inr (Or.inr (Or.inl ⟨rfl, Or.inr ⟨_, rfl⟩⟩))⟩), trivial⟩,
  List.forall_mem_cons.mpr ⟨fun pc i hi => by rw [sm_k2 hi]; exact ⟨sm_al1 (⟨"TwoWayGrammar$Sets", sc_T5, 16, "TwoWayGrammar$Sets", sc_ty5, rfl, by decide, sc_in5, sm_mem 322 (by decide +kernel), Or.inl rfl, sc_tyok5, sc_nm5, Or.inr ⟨rfl, rfl, rfl⟩, Or.inr (Or.inr (Or.inl ⟨rfl, Or.inr ⟨_, rfl⟩⟩))⟩), trivial⟩,
  List.forall_mem_cons.mpr ⟨fun pc i hi => by rw [sm_k2 hi]; exact ⟨sm_al1 (⟨"TwoWayGrammar$Sets", sc_T5, 16, "TwoWayGrammar$Sets", sc_ty5, rfl, by decide, sc_in5, sm_mem 324 (by decide +kernel), Or.inl rfl, sc_tyok5, sc_nm5, Or.inr ⟨rfl, rfl, rfl⟩, Or.inr (Or.inr (Or.inl ⟨rfl, Or.inr ⟨_, rfl⟩⟩))⟩), trivial⟩,
  List.forall_mem_cons.mpr ⟨fun pc i hi => by rw [sm_k2 hi]; exact ⟨sm_al1 (⟨"TwoWayGrammar$Sets", sc_T5, 16, "TwoWayGrammar$Sets", sc_ty5, rfl, by decide, sc_in5, sm_mem 325 (by decide +kernel), Or.inl rfl, sc_tyok5, sc_nm5, Or.inr ⟨rfl, rfl, rfl⟩, Or.inr (Or.inr (Or.inl ⟨rfl, Or.inr ⟨_, rfl⟩⟩))⟩), trivial⟩,
  List.forall_mem_cons.mpr ⟨fun pc i hi => by rw [sm_k2 hi]; exact ⟨sm_al1 (⟨"TwoWayGrammar$Sets", sc_T5, 16, "TwoWayGrammar$Sets", sc_ty5, rfl, by decide, sc_in5, sm_mem 327 (by decide +kernel), Or.inl rfl, sc_tyok5, sc_nm5, Or.inr ⟨rfl, rfl, rfl⟩, Or.inr (Or.inr (Or.inl ⟨rfl, Or.inr ⟨_, rfl⟩⟩))⟩), trivial⟩,
  List.forall_mem_cons.mpr ⟨fun pc i hi => by rw [sm_k2 hi]; exact ⟨sm_al1 (⟨"TwoWayGrammar$Sets", sc_T5, 16, "TwoWayGrammar$Sets", sc_ty5, rfl, by decide, sc_in5, sm_mem 328 (by decide +kernel), Or.inl rfl, sc_tyok5, sc_nm5, Or.inr ⟨rfl, rfl, rfl⟩, Or.inr (Or.inr (Or.inl ⟨rfl, Or.inr ⟨_, rfl⟩⟩))⟩), trivial⟩,
  List.forall_mem_cons.mpr ⟨fun pc i hi => by rw [sm_k2 hi]; exact ⟨sm_al1 (⟨"TwoWayGrammar$Sets", sc_T5, 16, "TwoWayGrammar$Sets", sc_ty5, rfl, by decide, sc_in5, sm_mem 329 (by decide +kernel), Or.inl rfl, sc_tyok5, sc_nm5, Or.inr ⟨rfl, rfl, rfl⟩, Or.inr (Or.inr (Or.inl ⟨rfl, Or.inr ⟨_, rfl⟩⟩))⟩), trivial⟩,
  List.forall_mem_cons.mpr ⟨fun pc i hi => by rw [sm_k2 hi]; exact ⟨sm_al1 (⟨"TwoWayGrammar$Sets", sc_T5, 16, "TwoWayGrammar$Sets", sc_ty5, rfl, by decide, sc_in5, sm_mem 330 (by decide +kernel), Or.inl rfl, sc_tyok5, sc_nm5, Or.inr ⟨rfl, rfl, rfl⟩, Or.inr (Or.inr (Or.inl ⟨rfl, Or.inr ⟨_, rfl⟩⟩))⟩), trivial⟩,
  List.forall_mem_cons.mpr ⟨fun pc i hi => by rw [sm_k2 hi]; exact ⟨sm_al1 (⟨"TwoWayGrammar$Sets", sc_T5, 16, "TwoWayGrammar$Sets", sc_ty5, rfl, by decide, sc_in5, sm_mem 332 (by decide +kernel), Or.inl rfl, sc_tyok5, sc_nm5, Or.inr ⟨rfl, rfl, rfl⟩, Or.inr (Or.inr (Or.inl ⟨rfl, Or.inr ⟨_, rfl⟩⟩))⟩), trivial⟩,
  List.forall_mem_cons.mpr ⟨fun pc i hi => by rw [sm_k2 hi]; exact ⟨sm_al1 (⟨"TwoWayGrammar$Sets", sc_T5, 16, "TwoWayGrammar$Sets", sc_ty5, rfl, by decide, sc_in5, sm_mem 335 (by decide +kernel), Or.inl rfl, sc_tyok5, sc_nm5, Or.inr ⟨rfl, rfl, rfl⟩, Or.inr (Or.inr (Or.inl ⟨rfl, Or.inr ⟨_, rfl⟩⟩))⟩), trivial⟩,
  List.forall_mem_cons.mpr ⟨fun pc i hi => by rw [sm_k2 hi]; exact ⟨sm_al1 (⟨"TwoWayGrammar$Sets", sc_T5, 16, "TwoWayGrammar$Sets", sc_ty5, rfl, by decide, sc_in5, sm_mem 337 (by decide +kernel), Or.inl rfl, sc_tyok5, sc_nm5, Or.inr ⟨rfl, rfl, rfl⟩, Or.inr (Or.inr (Or.inl ⟨rfl, Or.inr ⟨_, rfl⟩⟩))⟩), trivial⟩,
  List.forall_mem_cons.mpr ⟨fun pc i hi => by rw [sm_k2 hi]; exact ⟨sm_al1 (⟨"TwoWayGrammar$Sets", sc_T5, 16, "TwoWayGrammar$Sets", sc_ty5, rfl, by decide, sc_in5, sm_mem 340 (by decide +kernel), Or.inl rfl, sc_tyok5, sc_nm5, Or.inr ⟨rfl, rfl, rfl⟩, Or.inr (Or.inr (Or.inl ⟨rfl, Or.inr ⟨_, rfl⟩⟩))⟩), trivial⟩,
  List.forall_mem_cons.mpr ⟨fun pc i hi => by rw [sm_k2 hi]; exact ⟨sm_al1 (⟨"TwoWayGrammar$Sets", sc_T5, 16, "TwoWayGrammar$Sets", sc_ty5, rfl, by decide, sc_in5, sm_mem 342 (by decide +kernel), Or.inl rfl, sc_tyok5, sc_nm5, Or.inr ⟨rfl, rfl, rfl⟩, Or.inr (Or.inr (Or.inl ⟨rfl, Or.inr ⟨_, rfl⟩⟩))⟩), trivial⟩,
  List.forall_mem_cons.mpr ⟨fun pc i hi => by rw [sm_k2 hi]; exact ⟨sm_al1 (⟨"TwoWayGrammar$Sets", sc_T5, 16, "TwoWayGrammar$Sets", sc_ty5, rfl, by decide, sc_in5, sm_mem 317 (by decide +kernel), Or.inl rfl, sc_tyok5, sc_nm5, Or.inr ⟨rfl, rfl, rfl⟩, Or.inr (Or.inr (Or.inl ⟨rfl, Or.inl ⟨_, rfl⟩⟩))⟩), trivial⟩,
  fun _ h => absurd h List.not_mem_nil⟩⟩⟩⟩⟩⟩⟩⟩⟩⟩⟩⟩⟩⟩⟩⟩⟩⟩
def sp_5 : List ((Nat × Nat) × List Nat) := sp_5_0
theorem sp_ok_5 {K : sm_H} (hK : sc_KOk K) : sm_poolOk sc_Ts sc_sx sc_zx sc_oc K sc_cl sc_Y "TwoWayGrammar$Sets" "<init>" sp_5 := by
  intro e he
  exact sp_ok_5_0 hK e he
def sp_6_0 : List ((Nat × Nat) × List Nat) := [((10, 3), [2]), ((2, 9), [0, 2, 1, 6]), ((2, 15), [1, 2, 1, 6])]
set_option maxRecDepth 20000 in
theorem sp_ok_6_0 {K : sm_H} (hK : sc_KOk K) : sm_poolOk sc_Ts sc_sx sc_zx sc_oc K sc_cl sc_Y "TwoWayGrammar$Checks" "<init>" sp_6_0 :=
  List.forall_mem_cons.mpr ⟨fun pc i hi => by rw [sm_k10 hi]; exact ⟨⟨sm_mem 384 (by decide +kernel), sm_mem 133 (by decide +kernel), sm_mem 134 (by decide +kernel)⟩, trivial⟩,
  List.forall_mem_cons.mpr ⟨fun pc i hi => by rw [sm_k2 hi]; exact ⟨sm_al1 (⟨"TwoWayGrammar$Checks", sc_T6, 3, "TwoWayGrammar$Checks", sc_ty6, rfl, by decide, sc_in6, sm_mem 385 (by decide +kernel), Or.inl rfl, sc_tyok6, sc_nm6, Or.inr ⟨rfl, rfl, rfl⟩, Or.inr (Or.inr (Or.inl ⟨rfl, Or.inl ⟨_, rfl⟩⟩))⟩), trivial⟩,
  List.forall_mem_cons.mpr ⟨fun pc i hi => by rw [sm_k2 hi]; exact ⟨sm_al1 (⟨"TwoWayGrammar$Checks", sc_T6, 3, "TwoWayGrammar$Checks", sc_ty6, rfl, by decide, sc_in6, sm_mem 386 (by decide +kernel), Or.inl rfl, sc_tyok6, sc_nm6, Or.inr ⟨rfl, rfl, rfl⟩, Or.inr (Or.inr (Or.inl ⟨rfl, Or.inl ⟨_, rfl⟩⟩))⟩), trivial⟩,
  fun _ h => absurd h List.not_mem_nil⟩⟩⟩
def sp_6 : List ((Nat × Nat) × List Nat) := sp_6_0
theorem sp_ok_6 {K : sm_H} (hK : sc_KOk K) : sm_poolOk sc_Ts sc_sx sc_zx sc_oc K sc_cl sc_Y "TwoWayGrammar$Checks" "<init>" sp_6 := by
  intro e he
  exact sp_ok_6_0 hK e he
def sp_7_0 : List ((Nat × Nat) × List Nat) := [((10, 3), [2]), ((5, 10), [0]), ((2, 9), [1, 2, 1, 7]), ((2, 15), [2, 2, 1, 7]), ((2, 18), [3, 2, 1, 7])]
set_option maxRecDepth 20000 in
theorem sp_ok_7_0 {K : sm_H} (hK : sc_KOk K) : sm_poolOk sc_Ts sc_sx sc_zx sc_oc K sc_cl sc_Y "TwoWayGrammar$Tree" "<init>" sp_7_0 :=
  List.forall_mem_cons.mpr ⟨fun pc i hi => by rw [sm_k10 hi]; exact ⟨⟨sm_mem 400 (by decide +kernel), sm_mem 133 (by decide +kernel), sm_mem 134 (by decide +kernel)⟩, trivial⟩,
  List.forall_mem_cons.mpr ⟨fun pc i hi => by rw [sm_k5i hi]; exact ⟨⟨rfl, sm_mem 266 (by decide +kernel)⟩, trivial⟩,
  List.forall_mem_cons.mpr ⟨fun pc i hi => by rw [sm_k2 hi]; exact ⟨sm_al1 (⟨"TwoWayGrammar$Tree", sc_T7, 4, "TwoWayGrammar$Tree", sc_ty7, rfl, by decide, sc_in7, sm_mem 404 (by decide +kernel), Or.inl rfl, sc_tyok7, sc_nm7, Or.inr ⟨rfl, rfl, rfl⟩, Or.inr (Or.inr (Or.inl ⟨rfl, Or.inr ⟨_, rfl⟩⟩))⟩), trivial⟩,
  List.forall_mem_cons.mpr ⟨fun pc i hi => by rw [sm_k2 hi]; exact ⟨sm_al1 (⟨"TwoWayGrammar$Tree", sc_T7, 4, "TwoWayGrammar$Tree", sc_ty7, rfl, by decide, sc_in7, sm_mem 406 (by decide +kernel), Or.inl rfl, sc_tyok7, sc_nm7, Or.inr ⟨rfl, rfl, rfl⟩, Or.inr (Or.inr (Or.inl ⟨rfl, Or.inr ⟨_, rfl⟩⟩))⟩), trivial⟩,
  List.forall_mem_cons.mpr ⟨fun pc i hi => by rw [sm_k2 hi]; exact ⟨sm_al1 (⟨"TwoWayGrammar$Tree", sc_T7, 4, "TwoWayGrammar$Tree", sc_ty7, rfl, by decide, sc_in7, sm_mem 411 (by decide +kernel), Or.inl rfl, sc_tyok7, sc_nm7, Or.inr ⟨rfl, rfl, rfl⟩, Or.inr (Or.inr (Or.inl ⟨rfl, Or.inr ⟨_, rfl⟩⟩))⟩), trivial⟩,
  fun _ h => absurd h List.not_mem_nil⟩⟩⟩⟩⟩
def sp_7 : List ((Nat × Nat) × List Nat) := sp_7_0
theorem sp_ok_7 {K : sm_H} (hK : sc_KOk K) : sm_poolOk sc_Ts sc_sx sc_zx sc_oc K sc_cl sc_Y "TwoWayGrammar$Tree" "<init>" sp_7 := by
  intro e he
  exact sp_ok_7_0 hK e he
def sp_8_0 : List ((Nat × Nat) × List Nat) := [((10, 3), [0, 9, 4]), ((2, 9), [6, 2, 1, 8])]
set_option maxRecDepth 20000 in
theorem sp_ok_8_0 {K : sm_H} (hK : sc_KOk K) : sm_poolOk sc_Ts sc_sx sc_zx sc_oc K sc_cl sc_Y "TwoWayGrammar$Parsing" "<init>" sp_8_0 :=
  List.forall_mem_cons.mpr ⟨fun pc i hi => by rw [sm_k10 hi]; exact ⟨trivial, ⟨rfl, rfl, sm_mem 428 (by decide +kernel), sm_mem 108 (by decide +kernel), ⟨3, rfl, by decide +kernel⟩, Or.inl (sm_mem 427 (by decide +kernel))⟩⟩,
  List.forall_mem_cons.mpr ⟨fun pc i hi => by rw [sm_k2 hi]; exact ⟨sm_al1 (⟨"TwoWayGrammar$Parsing", sc_T8, 12, "TwoWayGrammar$Parsing", sc_ty8, rfl, by decide, sc_in8, sm_mem 431 (by decide +kernel), Or.inl rfl, sc_tyok8, sc_nm8, Or.inr ⟨rfl, rfl, rfl⟩, Or.inr (Or.inr (Or.inl ⟨rfl, Or.inl ⟨_, rfl⟩⟩))⟩), trivial⟩,
  fun _ h => absurd h List.not_mem_nil⟩⟩
def sp_8 : List ((Nat × Nat) × List Nat) := sp_8_0
theorem sp_ok_8 {K : sm_H} (hK : sc_KOk K) : sm_poolOk sc_Ts sc_sx sc_zx sc_oc K sc_cl sc_Y "TwoWayGrammar$Parsing" "<init>" sp_8 := by
  intro e he
  exact sp_ok_8_0 hK e he
def sp_9_0 : List ((Nat × Nat) × List Nat) := [((10, 3), [2]), ((2, 9), [0, 2, 1, 8, 9, 10]), ((2, 15), [1, 2, 1, 8, 9, 10]), ((2, 19), [2, 2, 1, 8, 9, 10])]
set_option maxRecDepth 20000 in
theorem sp_ok_9_0 {K : sm_H} (hK : sc_KOk K) : sm_poolOk sc_Ts sc_sx sc_zx sc_oc K sc_cl sc_Y "TwoWayGrammar$Walk" "<init>" sp_9_0 :=
  List.forall_mem_cons.mpr ⟨fun pc i hi => by rw [sm_k10 hi]; exact ⟨⟨sm_mem 430 (by decide +kernel), sm_mem 133 (by decide +kernel), sm_mem 134 (by decide +kernel)⟩, trivial⟩,
  List.forall_mem_cons.mpr ⟨fun pc i hi => by rw [sm_k2 hi]; exact ⟨sm_al3 (⟨"TwoWayGrammar$Parsing", sc_T8, 12, "TwoWayGrammar$Walk", sc_ty8, rfl, by decide, sc_in8, sm_mem 438 (by decide +kernel), Or.inl rfl, sc_tyok8, sc_nm8, Or.inr ⟨rfl, rfl, rfl⟩, Or.inr (Or.inr (Or.inl ⟨rfl, Or.inl ⟨_, rfl⟩⟩))⟩) (⟨"TwoWayGrammar$Growing", sc_T9, 8, "TwoWayGrammar$Walk", sc_ty9, rfl, by decide, sc_in9, sm_mem 438 (by decide +kernel), Or.inl rfl, sc_tyok9, sc_nm9, Or.inr ⟨rfl, rfl, rfl⟩, Or.inr (Or.inr (Or.inl ⟨rfl, Or.inl ⟨_, rfl⟩⟩))⟩) (⟨"TwoWayGrammar$Printing", sc_T10, 13, "TwoWayGrammar$Walk", sc_ty10, rfl, by decide, sc_in10, sm_mem 438 (by decide +kernel), Or.inl rfl, sc_tyok10, sc_nm10, Or.inr ⟨rfl, rfl, rfl⟩, Or.inr (Or.inr (Or.inl ⟨rfl, Or.inl ⟨_, rfl⟩⟩))⟩), trivial⟩,
  List.forall_mem_cons.mpr ⟨fun pc i hi => by rw [sm_k2 hi]; exact ⟨sm_al3 (⟨"TwoWayGrammar$Parsing", sc_T8, 12, "TwoWayGrammar$Walk", sc_ty8, rfl, by decide, sc_in8, sm_mem 445 (by decide +kernel), Or.inl rfl, sc_tyok8, sc_nm8, Or.inr ⟨rfl, rfl, rfl⟩, Or.inr (Or.inr (Or.inl ⟨rfl, Or.inl ⟨_, rfl⟩⟩))⟩) (⟨"TwoWayGrammar$Growing", sc_T9, 8, "TwoWayGrammar$Walk", sc_ty9, rfl, by decide, sc_in9, sm_mem 445 (by decide +kernel), Or.inl rfl, sc_tyok9, sc_nm9, Or.inr ⟨rfl, rfl, rfl⟩, Or.inr (Or.inr (Or.inl ⟨rfl, Or.inl ⟨_, rfl⟩⟩))⟩) (⟨"TwoWayGrammar$Printing", sc_T10, 13, "TwoWayGrammar$Walk", sc_ty10, rfl, by decide, sc_in10, sm_mem 445 (by decide +kernel), Or.inl rfl, sc_tyok10, sc_nm10, Or.inr ⟨rfl, rfl, rfl⟩, Or.inr (Or.inr (Or.inl ⟨rfl, Or.inl ⟨_, rfl⟩⟩))⟩), trivial⟩,
  List.forall_mem_cons.mpr ⟨fun pc i hi => by rw [sm_k2 hi]; exact ⟨sm_al3 (⟨"TwoWayGrammar$Parsing", sc_T8, 12, "TwoWayGrammar$Walk", sc_ty8, rfl, by decide, sc_in8, sm_mem 452 (by decide +kernel), Or.inl rfl, sc_tyok8, sc_nm8, Or.inr ⟨rfl, rfl, rfl⟩, Or.inr (Or.inr (Or.inl ⟨rfl, Or.inl ⟨_, rfl⟩⟩))⟩) (⟨"TwoWayGrammar$Growing", sc_T9, 8, "TwoWayGrammar$Walk", sc_ty9, rfl, by decide, sc_in9, sm_mem 452 (by decide +kernel), Or.inl rfl, sc_tyok9, sc_nm9, Or.inr ⟨rfl, rfl, rfl⟩, Or.inr (Or.inr (Or.inl ⟨rfl, Or.inl ⟨_, rfl⟩⟩))⟩) (⟨"TwoWayGrammar$Printing", sc_T10, 13, "TwoWayGrammar$Walk", sc_ty10, rfl, by decide, sc_in10, sm_mem 452 (by decide +kernel), Or.inl rfl, sc_tyok10, sc_nm10, Or.inr ⟨rfl, rfl, rfl⟩, Or.inr (Or.inr (Or.inl ⟨rfl, Or.inl ⟨_, rfl⟩⟩))⟩), trivial⟩,
  fun _ h => absurd h List.not_mem_nil⟩⟩⟩⟩
def sp_9 : List ((Nat × Nat) × List Nat) := sp_9_0
theorem sp_ok_9 {K : sm_H} (hK : sc_KOk K) : sm_poolOk sc_Ts sc_sx sc_zx sc_oc K sc_cl sc_Y "TwoWayGrammar$Walk" "<init>" sp_9 := by
  intro e he
  exact sp_ok_9_0 hK e he
def sp_10_0 : List ((Nat × Nat) × List Nat) := [((10, 3), [0, 9, 4])]
set_option maxRecDepth 20000 in
theorem sp_ok_10_0 {K : sm_H} (hK : sc_KOk K) : sm_poolOk sc_Ts sc_sx sc_zx sc_oc K sc_cl sc_Y "TwoWayGrammar$Growing" "<init>" sp_10_0 :=
  List.forall_mem_cons.mpr ⟨fun pc i hi => by rw [sm_k10 hi]; exact ⟨trivial, ⟨rfl, rfl, sm_mem 428 (by decide +kernel), sm_mem 108 (by decide +kernel), ⟨3, rfl, by decide +kernel⟩, Or.inl (sm_mem 500 (by decide +kernel))⟩⟩,
  fun _ h => absurd h List.not_mem_nil⟩
def sp_10 : List ((Nat × Nat) × List Nat) := sp_10_0
theorem sp_ok_10 {K : sm_H} (hK : sc_KOk K) : sm_poolOk sc_Ts sc_sx sc_zx sc_oc K sc_cl sc_Y "TwoWayGrammar$Growing" "<init>" sp_10 := by
  intro e he
  exact sp_ok_10_0 hK e he
def sp_11_0 : List ((Nat × Nat) × List Nat) := [((10, 3), [0, 9, 4]), ((2, 9), [6, 2, 1, 10])]
set_option maxRecDepth 20000 in
theorem sp_ok_11_0 {K : sm_H} (hK : sc_KOk K) : sm_poolOk sc_Ts sc_sx sc_zx sc_oc K sc_cl sc_Y "TwoWayGrammar$Printing" "<init>" sp_11_0 :=
  List.forall_mem_cons.mpr ⟨fun pc i hi => by rw [sm_k10 hi]; exact ⟨trivial, ⟨rfl, rfl, sm_mem 428 (by decide +kernel), sm_mem 108 (by decide +kernel), ⟨3, rfl, by decide +kernel⟩, Or.inl (sm_mem 519 (by decide +kernel))⟩⟩,
  List.forall_mem_cons.mpr ⟨fun pc i hi => by rw [sm_k2 hi]; exact ⟨sm_al1 (⟨"TwoWayGrammar$Printing", sc_T10, 13, "TwoWayGrammar$Printing", sc_ty10, rfl, by decide, sc_in10, sm_mem 520 (by decide +kernel), Or.inl rfl, sc_tyok10, sc_nm10, Or.inr ⟨rfl, rfl, rfl⟩, Or.inr (Or.inr (Or.inl ⟨rfl, Or.inl ⟨_, rfl⟩⟩))⟩), trivial⟩,
  fun _ h => absurd h List.not_mem_nil⟩⟩
def sp_11 : List ((Nat × Nat) × List Nat) := sp_11_0
theorem sp_ok_11 {K : sm_H} (hK : sc_KOk K) : sm_poolOk sc_Ts sc_sx sc_zx sc_oc K sc_cl sc_Y "TwoWayGrammar$Printing" "<init>" sp_11 := by
  intro e he
  exact sp_ok_11_0 hK e he
def sp_12_0 : List ((Nat × Nat) × List Nat) := [((1, 69), [8, 0, 0]), ((11, 140), [0, 0, 7, 13]), ((1, 73), [9, 0, 0]), ((1, 44), [5, 0, 0]), ((11, 141), [0, 0, 3, 14]), ((2, 144), [14, 3, 0, 0]), ((1, 144), [14, 0, 0]), ((1, 53), [6, 0, 0]), ((11, 148), [0, 0, 5, 65]), ((1, 62), [7, 0, 0]), ((11, 151), [0, 0, 6, 82]), ((2, 154), [15, 3, 0, 0]), ((1, 18), [1, 0, 0]), ((1, 21), [2, 0, 0]), ((11, 269), [0, 1, 1, 89]), ((11, 119), [0, 0, 1, 22]), ((1, 218), [0, 0, 7]), ((11, 214), [0, 1, 7, 93]), ((1, 14), [0, 0, 0]), ((1, 30), [4, 0, 0])]
set_option maxRecDepth 20000 in
theorem sp_ok_12_0 {K : sm_H} (hK : sc_KOk K) (mn : String) : sm_poolOk sc_Ts sc_sx sc_zx sc_oc K sc_cl sc_Y "TwoWayGrammar" mn sp_12_0 :=
  List.forall_mem_cons.mpr ⟨fun pc i hi => by rw [sm_k1 hi]; exact ⟨sm_al1 (⟨"TwoWayGrammar", sc_T0, 16, "TwoWayGrammar", rfl, by decide, sc_in0, sm_mem 557 (by decide +kernel), Or.inl rfl⟩), trivial⟩,
  List.forall_mem_cons.mpr ⟨fun pc i hi => by rw [sm_k11 hi]; exact ⟨trivial, sm_pk1 (⟨"TwoWayGrammar$Tree", rfl, sm_mem 603 (by decide +kernel), sm_mem 107 (by decide +kernel), Or.inl ⟨sm_mem 602 (by decide +kernel), sm_mem 604 (by decide +kernel), by decide +kernel⟩⟩)⟩,
  List.forall_mem_cons.mpr ⟨fun pc i hi => by rw [sm_k1 hi]; exact ⟨sm_al1 (⟨"TwoWayGrammar", sc_T0, 16, "TwoWayGrammar", rfl, by decide, sc_in0, sm_mem 558 (by decide +kernel), Or.inl rfl⟩), trivial⟩,
  List.forall_mem_cons.mpr ⟨fun pc i hi => by rw [sm_k1 hi]; exact ⟨sm_al1 (⟨"TwoWayGrammar", sc_T0, 16, "TwoWayGrammar", rfl, by decide, sc_in0, sm_mem 554 (by decide +kernel), Or.inl rfl⟩), trivial⟩,
  List.forall_mem_cons.mpr ⟨fun pc i hi => by rw [sm_k11 hi]; exact ⟨trivial, sm_pk1 (⟨"TwoWayGrammar$Reader", rfl, sm_mem 607 (by decide +kernel), sm_mem 103 (by decide +kernel), Or.inl ⟨sm_mem 606 (by decide +kernel), sm_mem 608 (by decide +kernel), by decide +kernel⟩⟩)⟩,
  List.forall_mem_cons.mpr ⟨fun pc i hi => by rw [sm_k2 hi]; exact ⟨sm_al1 (⟨"TwoWayGrammar", sc_T0, 16, "TwoWayGrammar", sc_ty0, rfl, by decide, sc_in0, sm_mem 563 (by decide +kernel), Or.inl rfl, sc_tyok0, sc_nm0, Or.inl rfl, Or.inr (Or.inr (Or.inr (Or.inl ⟨rfl, rfl⟩)))⟩), trivial⟩,
  List.forall_mem_cons.mpr ⟨fun pc i hi => by rw [sm_k1 hi]; exact ⟨sm_al1 (⟨"TwoWayGrammar", sc_T0, 16, "TwoWayGrammar", rfl, by decide, sc_in0, sm_mem 563 (by decide +kernel), Or.inl rfl⟩), trivial⟩,
  List.forall_mem_cons.mpr ⟨fun pc i hi => by rw [sm_k1 hi]; exact ⟨sm_al1 (⟨"TwoWayGrammar", sc_T0, 16, "TwoWayGrammar", rfl, by decide, sc_in0, sm_mem 555 (by decide +kernel), Or.inl rfl⟩), trivial⟩,
  List.forall_mem_cons.mpr ⟨fun pc i hi => by rw [sm_k11 hi]; exact ⟨trivial, sm_pk1 (⟨"TwoWayGrammar$Sets", rfl, sm_mem 876 (by decide +kernel), sm_mem 105 (by decide +kernel), Or.inl ⟨sm_mem 875 (by decide +kernel), sm_mem 877 (by decide +kernel), by decide +kernel⟩⟩)⟩,
  List.forall_mem_cons.mpr ⟨fun pc i hi => by rw [sm_k1 hi]; exact ⟨sm_al1 (⟨"TwoWayGrammar", sc_T0, 16, "TwoWayGrammar", rfl, by decide, sc_in0, sm_mem 556 (by decide +kernel), Or.inl rfl⟩), trivial⟩,
  List.forall_mem_cons.mpr ⟨fun pc i hi => by rw [sm_k11 hi]; exact ⟨trivial, sm_pk1 (⟨"TwoWayGrammar$Checks", rfl, sm_mem 950 (by decide +kernel), sm_mem 106 (by decide +kernel), Or.inl ⟨sm_mem 949 (by decide +kernel), sm_mem 951 (by decide +kernel), by decide +kernel⟩⟩)⟩,
  List.forall_mem_cons.mpr ⟨fun pc i hi => by rw [sm_k2 hi]; exact ⟨sm_al1 (⟨"TwoWayGrammar", sc_T0, 16, "TwoWayGrammar", sc_ty0, rfl, by decide, sc_in0, sm_mem 564 (by decide +kernel), Or.inl rfl, sc_tyok0, sc_nm0, Or.inl rfl, Or.inr (Or.inr (Or.inr (Or.inl ⟨rfl, rfl⟩)))⟩), trivial⟩,
  List.forall_mem_cons.mpr ⟨fun pc i hi => by rw [sm_k1 hi]; exact ⟨sm_al1 (⟨"TwoWayGrammar", sc_T0, 16, "TwoWayGrammar", rfl, by decide, sc_in0, sm_mem 550 (by decide +kernel), Or.inl rfl⟩), trivial⟩,
  List.forall_mem_cons.mpr ⟨fun pc i hi => by rw [sm_k1 hi]; exact ⟨sm_al1 (⟨"TwoWayGrammar", sc_T0, 16, "TwoWayGrammar", rfl, by decide, sc_in0, sm_mem 551 (by decide +kernel), Or.inl rfl⟩), trivial⟩,
  List.forall_mem_cons.mpr ⟨fun pc i hi => by rw [sm_k11 hi]; exact ⟨trivial, sm_pk1 (⟨"TwoWayGrammar$Text", rfl, sm_mem 981 (by decide +kernel), sm_mem 100 (by decide +kernel), Or.inl ⟨sm_mem 980 (by decide +kernel), sm_mem 982 (by decide +kernel), by decide +kernel⟩⟩)⟩,
  List.forall_mem_cons.mpr ⟨fun pc i hi => by rw [sm_k11 hi]; exact ⟨trivial, sm_pk1 (⟨"TwoWayGrammar$Text", rfl, sm_mem 638 (by decide +kernel), sm_mem 100 (by decide +kernel), Or.inl ⟨sm_mem 993 (by decide +kernel), sm_mem 639 (by decide +kernel), by decide +kernel⟩⟩)⟩,
  List.forall_mem_cons.mpr ⟨fun pc i hi => by rw [sm_k1 hi]; exact ⟨sm_al1 (⟨"TwoWayGrammar$Tree", sc_T7, 4, "TwoWayGrammar$Tree", rfl, by decide, sc_in7, sm_mem 402 (by decide +kernel), Or.inl rfl⟩), trivial⟩,
  List.forall_mem_cons.mpr ⟨fun pc i hi => by rw [sm_k11 hi]; exact ⟨trivial, sm_pk1 (⟨"TwoWayGrammar$Tree", rfl, sm_mem 999 (by decide +kernel), sm_mem 107 (by decide +kernel), Or.inl ⟨sm_mem 998 (by decide +kernel), sm_mem 1000 (by decide +kernel), by decide +kernel⟩⟩)⟩,
  List.forall_mem_cons.mpr ⟨fun pc i hi => by rw [sm_k1 hi]; exact ⟨sm_al1 (⟨"TwoWayGrammar", sc_T0, 16, "TwoWayGrammar", rfl, by decide, sc_in0, sm_mem 549 (by decide +kernel), Or.inl rfl⟩), trivial⟩,
  List.forall_mem_cons.mpr ⟨fun pc i hi => by rw [sm_k1 hi]; exact ⟨sm_al1 (⟨"TwoWayGrammar", sc_T0, 16, "TwoWayGrammar", rfl, by decide, sc_in0, sm_mem 553 (by decide +kernel), Or.inl rfl⟩), trivial⟩,
  fun _ h => absurd h List.not_mem_nil⟩⟩⟩⟩⟩⟩⟩⟩⟩⟩⟩⟩⟩⟩⟩⟩⟩⟩⟩⟩
