def sp_15_1 : List ((Nat × Nat) × List Nat) := [((1, 36), [12, 0, 2]), ((1, 39), [13, 0, 2]), ((1, 42), [14, 0, 2]), ((1, 45), [15, 0, 2]), ((1, 48), [16, 0, 2]), ((1, 51), [17, 0, 2]), ((11, 81), [0, 1, 2, 58]), ((1, 61), [5, 0, 2])]
set_option maxRecDepth 20000 in
theorem sp_ok_15_1 {K : sm_H} (hK : sc_KOk K) (mn : String) : sm_poolOk sc_Ts sc_sx sc_zx sc_oc K sc_cl sc_Y "TwoWayGrammar$Grammar" mn sp_15_1 :=
  List.forall_mem_cons.mpr ⟨fun pc i hi => by rw [sm_k1 hi]; exact ⟨sm_al1 (⟨"TwoWayGrammar$Grammar", sc_T2, 20, "TwoWayGrammar$Grammar", rfl, by decide, sc_in2, sm_mem 198 (by decide +kernel), Or.inl rfl⟩), trivial⟩,
  List.forall_mem_cons.mpr ⟨fun pc i hi => by rw [sm_k1 hi]; exact ⟨sm_al1 (⟨"TwoWayGrammar$Grammar", sc_T2, 20, "TwoWayGrammar$Grammar", rfl, by decide, sc_in2, sm_mem 204 (by decide +kernel), Or.inl rfl⟩), trivial⟩,
  List.forall_mem_cons.mpr ⟨fun pc i hi => by rw [sm_k1 hi]; exact ⟨sm_al1 (⟨"TwoWayGrammar$Grammar", sc_T2, 20, "TwoWayGrammar$Grammar", rfl, by decide, sc_in2, sm_mem 206 (by decide +kernel), Or.inl rfl⟩), trivial⟩,
  List.forall_mem_cons.mpr ⟨fun pc i hi => by rw [sm_k1 hi]; exact ⟨sm_al1 (⟨"TwoWayGrammar$Grammar", sc_T2, 20, "TwoWayGrammar$Grammar", rfl, by decide, sc_in2, sm_mem 209 (by decide +kernel), Or.inl rfl⟩), trivial⟩,
  List.forall_mem_cons.mpr ⟨fun pc i hi => by rw [sm_k1 hi]; exact ⟨sm_al1 (⟨"TwoWayGrammar$Grammar", sc_T2, 20, "TwoWayGrammar$Grammar", rfl, by decide, sc_in2, sm_mem 214 (by decide +kernel), Or.inl rfl⟩), trivial⟩,
  List.forall_mem_cons.mpr ⟨fun pc i hi => by rw [sm_k1 hi]; exact ⟨sm_al1 (⟨"TwoWayGrammar$Grammar", sc_T2, 20, "TwoWayGrammar$Grammar", rfl, by decide, sc_in2, sm_mem 217 (by decide +kernel), Or.inl rfl⟩), trivial⟩,
  List.forall_mem_cons.mpr ⟨fun pc i hi => by rw [sm_k11 hi]; exact ⟨trivial, sm_pk1 (⟨"TwoWayGrammar$Grammar", rfl, sm_mem 845 (by decide +kernel), sm_mem 102 (by decide +kernel), Or.inl ⟨sm_mem 860 (by decide +kernel), sm_mem 846 (by decide +kernel), by decide +kernel⟩⟩)⟩,
  List.forall_mem_cons.mpr ⟨fun pc i hi => by rw [sm_k1 hi]; exact ⟨sm_al1 (⟨"TwoWayGrammar$Grammar", sc_T2, 20, "TwoWayGrammar$Grammar", rfl, by decide, sc_in2, sm_mem 176 (by decide +kernel), Or.inl rfl⟩), trivial⟩,
  fun _ h => absurd h List.not_mem_nil⟩⟩⟩⟩⟩⟩⟩⟩
def sp_15 : List ((Nat × Nat) × List Nat) := sp_15_0 ++ sp_15_1
theorem sp_ok_15 {K : sm_H} (hK : sc_KOk K) (mn : String) : sm_poolOk sc_Ts sc_sx sc_zx sc_oc K sc_cl sc_Y "TwoWayGrammar$Grammar" mn sp_15 := by
  intro e he
  simp only [sp_15, List.mem_append] at he
  rcases he with he | he
  rotate_left
  · exact sp_ok_15_1 hK mn e he
  exact sp_ok_15_0 hK mn e he
def sp_16_0 : List ((Nat × Nat) × List Nat) := [((2, 15), [1, 0, 0, 4]), ((11, 19), [0, 0, 4, 18]), ((1, 9), [0, 0, 4]), ((1, 15), [1, 0, 4]), ((11, 22), [0, 1, 1, 19]), ((2, 28), [2, 0, 0, 4]), ((1, 28), [2, 0, 4]), ((2, 31), [4, 0, 0, 4]), ((11, 34), [0, 1, 1, 20]), ((11, 38), [0, 0, 1, 22]), ((2, 42), [3, 0, 0, 4]), ((9, 45), [0, 23, 1]), ((11, 49), [0, 0, 4, 24]), ((11, 52), [0, 0, 4, 33]), ((11, 55), [0, 0, 4, 35]), ((11, 58), [0, 1, 4, 39]), ((11, 62), [0, 1, 1, 25]), ((6, 65), [1, 1]), ((11, 67), [0, 3, 1, 26]), ((6, 71), [1, 2])]
set_option maxRecDepth 20000 in
theorem sp_ok_16_0 {K : sm_H} (hK : sc_KOk K) (mn : String) : sm_poolOk sc_Ts sc_sx sc_zx sc_oc K sc_cl sc_Y "TwoWayGrammar$Tokens" mn sp_16_0 :=
  List.forall_mem_cons.mpr ⟨fun pc i hi => by rw [sm_k2 hi]; exact ⟨sm_al1 (⟨"TwoWayGrammar$Tokens", sc_T4, 5, "TwoWayGrammar$Tokens", sc_ty4, rfl, by decide, sc_in4, sm_mem 276 (by decide +kernel), Or.inl rfl, sc_tyok4, sc_nm4, Or.inl rfl, Or.inl ⟨rfl, rfl⟩⟩), trivial⟩,
  List.forall_mem_cons.mpr ⟨fun pc i hi => by rw [sm_k11 hi]; exact ⟨trivial, sm_pk1 (⟨"TwoWayGrammar$Tokens", rfl, sm_mem 622 (by decide +kernel), sm_mem 104 (by decide +kernel), Or.inl ⟨sm_mem 621 (by decide +kernel), sm_mem 623 (by decide +kernel), by decide +kernel⟩⟩)⟩,
  List.forall_mem_cons.mpr ⟨fun pc i hi => by rw [sm_k1 hi]; exact ⟨sm_al1 (⟨"TwoWayGrammar$Tokens", sc_T4, 5, "TwoWayGrammar$Tokens", rfl, by decide, sc_in4, sm_mem 275 (by decide +kernel), Or.inl rfl⟩), trivial⟩,
  List.forall_mem_cons.mpr ⟨fun pc i hi => by rw [sm_k1 hi]; exact ⟨sm_al1 (⟨"TwoWayGrammar$Tokens", sc_T4, 5, "TwoWayGrammar$Tokens", rfl, by decide, sc_in4, sm_mem 276 (by decide +kernel), Or.inl rfl⟩), trivial⟩,
  List.forall_mem_cons.mpr ⟨fun pc i hi => by rw [sm_k11 hi]; exact ⟨trivial, sm_pk1 (⟨"TwoWayGrammar$Text", rfl, sm_mem 626 (by decide +kernel), sm_mem 100 (by decide +kernel), Or.inl ⟨sm_mem 625 (by decide +kernel), sm_mem 627 (by decide +kernel), by decide +kernel⟩⟩)⟩,
  List.forall_mem_cons.mpr ⟨fun pc i hi => by rw [sm_k2 hi]; exact ⟨sm_al1 (⟨"TwoWayGrammar$Tokens", sc_T4, 5, "TwoWayGrammar$Tokens", sc_ty4, rfl, by decide, sc_in4, sm_mem 277 (by decide +kernel), Or.inl rfl, sc_tyok4, sc_nm4, Or.inl rfl, Or.inl ⟨rfl, rfl⟩⟩), trivial⟩,
  List.forall_mem_cons.mpr ⟨fun pc i hi => by rw [sm_k1 hi]; exact ⟨sm_al1 (⟨"TwoWayGrammar$Tokens", sc_T4, 5, "TwoWayGrammar$Tokens", rfl, by decide, sc_in4, sm_mem 277 (by decide +kernel), Or.inl rfl⟩), trivial⟩,
  List.forall_mem_cons.mpr ⟨fun pc i hi => by rw [sm_k2 hi]; exact ⟨sm_al1 (⟨"TwoWayGrammar$Tokens", sc_T4, 5, "TwoWayGrammar$Tokens", sc_ty4, rfl, by decide, sc_in4, sm_mem 281 (by decide +kernel), Or.inl rfl, sc_tyok4, sc_nm4, Or.inl rfl, Or.inl ⟨rfl, rfl⟩⟩), trivial⟩,
  List.forall_mem_cons.mpr ⟨fun pc i hi => by rw [sm_k11 hi]; exact ⟨trivial, sm_pk1 (⟨"TwoWayGrammar$Text", rfl, sm_mem 630 (by decide +kernel), sm_mem 100 (by decide +kernel), Or.inl ⟨sm_mem 636 (by decide +kernel), sm_mem 631 (by decide +kernel), by decide +kernel⟩⟩)⟩,
  List.forall_mem_cons.mpr ⟨fun pc i hi => by rw [sm_k11 hi]; exact ⟨trivial, sm_pk1 (⟨"TwoWayGrammar$Text", rfl, sm_mem 638 (by decide +kernel), sm_mem 100 (by decide +kernel), Or.inl ⟨sm_mem 637 (by decide +kernel), sm_mem 639 (by decide +kernel), by decide +kernel⟩⟩)⟩,
  List.forall_mem_cons.mpr ⟨fun pc i hi => by rw [sm_k2 hi]; exact ⟨sm_al1 (⟨"TwoWayGrammar$Tokens", sc_T4, 5, "TwoWayGrammar$Tokens", sc_ty4, rfl, by decide, sc_in4, sm_mem 280 (by decide +kernel), Or.inl rfl, sc_tyok4, sc_nm4, Or.inl rfl, Or.inl ⟨rfl, rfl⟩⟩), trivial⟩,
  List.forall_mem_cons.mpr ⟨fun pc i hi => by rw [sm_k9 hi]; exact ⟨trivial, ⟨sm_mem 642 (by decide +kernel), sm_mem 99 (by decide +kernel), by decide +kernel, Or.inr ⟨"TwoWayGrammar", sc_nx_mem 4 (by decide +kernel)⟩⟩⟩,
  List.forall_mem_cons.mpr ⟨fun pc i hi => by rw [sm_k11 hi]; exact ⟨trivial, sm_pk1 (⟨"TwoWayGrammar$Tokens", rfl, sm_mem 646 (by decide +kernel), sm_mem 104 (by decide +kernel), Or.inl ⟨sm_mem 644 (by decide +kernel), sm_mem 0 (by decide +kernel), by decide +kernel⟩⟩)⟩,
  List.forall_mem_cons.mpr ⟨fun pc i hi => by rw [sm_k11 hi]; exact ⟨trivial, sm_pk1 (⟨"TwoWayGrammar$Tokens", rfl, sm_mem 714 (by decide +kernel), sm_mem 104 (by decide +kernel), Or.inl ⟨sm_mem 712 (by decide +kernel), sm_mem 1 (by decide +kernel), by decide +kernel⟩⟩)⟩,
  List.forall_mem_cons.mpr ⟨fun pc i hi => by rw [sm_k11 hi]; exact ⟨trivial, sm_pk1 (⟨"TwoWayGrammar$Tokens", rfl, sm_mem 722 (by decide +kernel), sm_mem 104 (by decide +kernel), Or.inl ⟨sm_mem 720 (by decide +kernel), sm_mem 2 (by decide +kernel), by decide +kernel⟩⟩)⟩,
  List.forall_mem_cons.mpr ⟨fun pc i hi => by rw [sm_k11 hi]; exact ⟨trivial, sm_pk1 (⟨"TwoWayGrammar$Tokens", rfl, sm_mem 736 (by decide +kernel), sm_mem 104 (by decide +kernel), Or.inl ⟨sm_mem 734 (by decide +kernel), sm_mem 3 (by decide +kernel), by decide +kernel⟩⟩)⟩,
  List.forall_mem_cons.mpr ⟨fun pc i hi => by rw [sm_k11 hi]; exact ⟨trivial, sm_pk1 (⟨"TwoWayGrammar$Text", rfl, sm_mem 649 (by decide +kernel), sm_mem 100 (by decide +kernel), Or.inl ⟨sm_mem 648 (by decide +kernel), sm_mem 650 (by decide +kernel), by decide +kernel⟩⟩)⟩,
  List.forall_mem_cons.mpr ⟨fun pc i hi => by rw [sm_k6 hi]; exact ⟨⟨"number", sc_sx_mem 0 (by decide +kernel)⟩, trivial⟩,
  List.forall_mem_cons.mpr ⟨fun pc i hi => by rw [sm_k11 hi]; exact ⟨trivial, sm_pk1 (⟨"TwoWayGrammar$Text", rfl, sm_mem 655 (by decide +kernel), sm_mem 100 (by decide +kernel), Or.inl ⟨sm_mem 654 (by decide +kernel), sm_mem 656 (by decide +kernel), by decide +kernel⟩⟩)⟩,
  List.forall_mem_cons.mpr ⟨fun pc i hi => by rw [sm_k6 hi]; exact ⟨⟨"name", sc_sx_mem 1 (by decide +kernel)⟩, trivial⟩,
  fun _ h => absurd h List.not_mem_nil⟩⟩⟩⟩⟩⟩⟩⟩⟩⟩⟩⟩⟩⟩⟩⟩⟩⟩⟩⟩
def sp_16_1 : List ((Nat × Nat) × List Nat) := [((6, 73), [1, 3]), ((6, 75), [1, 4]), ((6, 77), [1, 5]), ((6, 79), [1, 6]), ((6, 81), [1, 7]), ((11, 83), [0, 2, 1, 34]), ((9, 87), [0, 21, 1]), ((9, 90), [0, 36, 1]), ((9, 93), [0, 37, 1]), ((9, 96), [0, 38, 1]), ((6, 100), [1, 8]), ((11, 102), [0, 1, 17, 40]), ((1, 42), [3, 0, 4])]
set_option maxRecDepth 20000 in
theorem sp_ok_16_1 {K : sm_H} (hK : sc_KOk K) (mn : String) : sm_poolOk sc_Ts sc_sx sc_zx sc_oc K sc_cl sc_Y "TwoWayGrammar$Tokens" mn sp_16_1 :=
  List.forall_mem_cons.mpr ⟨fun pc i hi => by rw [sm_k6 hi]; exact ⟨⟨"empty", sc_sx_mem 2 (by decide +kernel)⟩, trivial⟩,
  List.forall_mem_cons.mpr ⟨fun pc i hi => by rw [sm_k6 hi]; exact ⟨⟨"blank", sc_sx_mem 3 (by decide +kernel)⟩, trivial⟩,
  List.forall_mem_cons.mpr ⟨fun pc i hi => by rw [sm_k6 hi]; exact ⟨⟨"line", sc_sx_mem 4 (by decide +kernel)⟩, trivial⟩,
  List.forall_mem_cons.mpr ⟨fun pc i hi => by rw [sm_k6 hi]; exact ⟨⟨"deeper", sc_sx_mem 5 (by decide +kernel)⟩, trivial⟩,
  List.forall_mem_cons.mpr ⟨fun pc i hi => by rw [sm_k6 hi]; exact ⟨⟨"back", sc_sx_mem 6 (by decide +kernel)⟩, trivial⟩,
  List.forall_mem_cons.mpr ⟨fun pc i hi => by rw [sm_k11 hi]; exact ⟨trivial, sm_pk1 (⟨"TwoWayGrammar$Text", rfl, sm_mem 717 (by decide +kernel), sm_mem 100 (by decide +kernel), Or.inl ⟨sm_mem 716 (by decide +kernel), sm_mem 718 (by decide +kernel), by decide +kernel⟩⟩)⟩,
  List.forall_mem_cons.mpr ⟨fun pc i hi => by rw [sm_k9 hi]; exact ⟨trivial, ⟨sm_mem 634 (by decide +kernel), sm_mem 99 (by decide +kernel), by decide +kernel, Or.inr ⟨"TwoWayGrammar", sc_nx_mem 6 (by decide +kernel)⟩⟩⟩,
  List.forall_mem_cons.mpr ⟨fun pc i hi => by rw [sm_k9 hi]; exact ⟨trivial, ⟨sm_mem 726 (by decide +kernel), sm_mem 99 (by decide +kernel), by decide +kernel, Or.inr ⟨"TwoWayGrammar", sc_nx_mem 7 (by decide +kernel)⟩⟩⟩,
  List.forall_mem_cons.mpr ⟨fun pc i hi => by rw [sm_k9 hi]; exact ⟨trivial, ⟨sm_mem 729 (by decide +kernel), sm_mem 99 (by decide +kernel), by decide +kernel, Or.inr ⟨"TwoWayGrammar", sc_nx_mem 8 (by decide +kernel)⟩⟩⟩,
  List.forall_mem_cons.mpr ⟨fun pc i hi => by rw [sm_k9 hi]; exact ⟨trivial, ⟨sm_mem 732 (by decide +kernel), sm_mem 99 (by decide +kernel), by decide +kernel, Or.inr ⟨"TwoWayGrammar", sc_nx_mem 9 (by decide +kernel)⟩⟩⟩,
  List.forall_mem_cons.mpr ⟨fun pc i hi => by rw [sm_k6 hi]; exact ⟨⟨"=;|*?)~+", sc_sx_mem 7 (by decide +kernel)⟩, trivial⟩,
  List.forall_mem_cons.mpr ⟨fun pc i hi => by rw [sm_k11 hi]; exact ⟨trivial, sm_pk1 (⟨"java/lang/String", rfl, sm_mem 740 (by decide +kernel), sm_mem 118 (by decide +kernel), Or.inl ⟨sm_mem 739 (by decide +kernel), sm_mem 741 (by decide +kernel), by decide +kernel⟩⟩)⟩,
  List.forall_mem_cons.mpr ⟨fun pc i hi => by rw [sm_k1 hi]; exact ⟨sm_al1 (⟨"TwoWayGrammar$Tokens", sc_T4, 5, "TwoWayGrammar$Tokens", rfl, by decide, sc_in4, sm_mem 280 (by decide +kernel), Or.inl rfl⟩), trivial⟩,
  fun _ h => absurd h List.not_mem_nil⟩⟩⟩⟩⟩⟩⟩⟩⟩⟩⟩⟩⟩
def sp_16 : List ((Nat × Nat) × List Nat) := sp_16_0 ++ sp_16_1
theorem sp_ok_16 {K : sm_H} (hK : sc_KOk K) (mn : String) : sm_poolOk sc_Ts sc_sx sc_zx sc_oc K sc_cl sc_Y "TwoWayGrammar$Tokens" mn sp_16 := by
  intro e he
  simp only [sp_16, List.mem_append] at he
  rcases he with he | he
  rotate_left
  · exact sp_ok_16_1 hK mn e he
  exact sp_ok_16_0 hK mn e he
def sp_17_0 : List ((Nat × Nat) × List Nat) := [((1, 19), [1, 0, 1]), ((11, 40), [0, 1, 1, 20]), ((9, 43), [0, 21, 1]), ((1, 13), [0, 0, 1]), ((9, 49), [0, 23, 1]), ((11, 23), [0, 0, 17, 27]), ((11, 28), [0, 1, 17, 29]), ((11, 36), [0, 0, 1, 90]), ((11, 39), [0, 0, 1, 22]), ((11, 32), [0, 1, 1, 91]), ((2, 19), [1, 0, 0, 1]), ((9, 52), [0, 37, 1])]
set_option maxRecDepth 20000 in
theorem sp_ok_17_0 {K : sm_H} (hK : sc_KOk K) (mn : String) : sm_poolOk sc_Ts sc_sx sc_zx sc_oc K sc_cl sc_Y "TwoWayGrammar$Text" mn sp_17_0 :=
  List.forall_mem_cons.mpr ⟨fun pc i hi => by rw [sm_k1 hi]; exact ⟨sm_al1 (⟨"TwoWayGrammar$Text", sc_T1, 2, "TwoWayGrammar$Text", rfl, by decide, sc_in1, sm_mem 145 (by decide +kernel), Or.inl rfl⟩), trivial⟩,
  List.forall_mem_cons.mpr ⟨fun pc i hi => by rw [sm_k11 hi]; exact ⟨trivial, sm_pk1 (⟨"TwoWayGrammar$Text", rfl, sm_mem 630 (by decide +kernel), sm_mem 100 (by decide +kernel), Or.inl ⟨sm_mem 629 (by decide +kernel), sm_mem 631 (by decide +kernel), by decide +kernel⟩⟩)⟩,
  List.forall_mem_cons.mpr ⟨fun pc i hi => by rw [sm_k9 hi]; exact ⟨trivial, ⟨sm_mem 634 (by decide +kernel), sm_mem 99 (by decide +kernel), by decide +kernel, Or.inr ⟨"TwoWayGrammar", sc_nx_mem 3 (by decide +kernel)⟩⟩⟩,
  List.forall_mem_cons.mpr ⟨fun pc i hi => by rw [sm_k1 hi]; exact ⟨sm_al1 (⟨"TwoWayGrammar$Text", sc_T1, 2, "TwoWayGrammar$Text", rfl, by decide, sc_in1, sm_mem 144 (by decide +kernel), Or.inl rfl⟩), trivial⟩,
  List.forall_mem_cons.mpr ⟨fun pc i hi => by rw [sm_k9 hi]; exact ⟨trivial, ⟨sm_mem 642 (by decide +kernel), sm_mem 99 (by decide +kernel), by decide +kernel, Or.inr ⟨"TwoWayGrammar", sc_nx_mem 5 (by decide +kernel)⟩⟩⟩,
  List.forall_mem_cons.mpr ⟨fun pc i hi => by rw [sm_k11 hi]; exact ⟨trivial, sm_pk1 (⟨"java/lang/String", rfl, sm_mem 659 (by decide +kernel), sm_mem 118 (by decide +kernel), Or.inl ⟨sm_mem 658 (by decide +kernel), sm_mem 660 (by decide +kernel), by decide +kernel⟩⟩)⟩,
  List.forall_mem_cons.mpr ⟨fun pc i hi => by rw [sm_k11 hi]; exact ⟨trivial, sm_pk1 (⟨"java/lang/String", rfl, sm_mem 669 (by decide +kernel), sm_mem 118 (by decide +kernel), Or.inl ⟨sm_mem 668 (by decide +kernel), sm_mem 670 (by decide +kernel), by decide +kernel⟩⟩)⟩,
  List.forall_mem_cons.mpr ⟨fun pc i hi => by rw [sm_k11 hi]; exact ⟨trivial, sm_pk1 (⟨"TwoWayGrammar$Text", rfl, sm_mem 985 (by decide +kernel), sm_mem 100 (by decide +kernel), Or.inl ⟨sm_mem 984 (by decide +kernel), sm_mem 986 (by decide +kernel), by decide +kernel⟩⟩)⟩,
  List.forall_mem_cons.mpr ⟨fun pc i hi => by rw [sm_k11 hi]; exact ⟨trivial, sm_pk1 (⟨"TwoWayGrammar$Text", rfl, sm_mem 638 (by decide +kernel), sm_mem 100 (by decide +kernel), Or.inl ⟨sm_mem 988 (by decide +kernel), sm_mem 639 (by decide +kernel), by decide +kernel⟩⟩)⟩,
  List.forall_mem_cons.mpr ⟨fun pc i hi => by rw [sm_k11 hi]; exact ⟨trivial, sm_pk1 (⟨"TwoWayGrammar$Text", rfl, sm_mem 990 (by decide +kernel), sm_mem 100 (by decide +kernel), Or.inl ⟨sm_mem 989 (by decide +kernel), sm_mem 991 (by decide +kernel), by decide +kernel⟩⟩)⟩,
  List.forall_mem_cons.mpr ⟨fun pc i hi => by rw [sm_k2 hi]; exact ⟨sm_al1 (⟨"TwoWayGrammar$Text", sc_T1, 2, "TwoWayGrammar$Text", sc_ty1, rfl, by decide, sc_in1, sm_mem 145 (by decide +kernel), Or.inl rfl, sc_tyok1, sc_nm1, Or.inl rfl, Or.inl ⟨rfl, rfl⟩⟩), trivial⟩,
  List.forall_mem_cons.mpr ⟨fun pc i hi => by rw [sm_k9 hi]; exact ⟨trivial, ⟨sm_mem 729 (by decide +kernel), sm_mem 99 (by decide +kernel), by decide +kernel, Or.inr ⟨"TwoWayGrammar", sc_nx_mem 22 (by decide +kernel)⟩⟩⟩,
  fun _ h => absurd h List.not_mem_nil⟩⟩⟩⟩⟩⟩⟩⟩⟩⟩⟩⟩
def sp_17 : List ((Nat × Nat) × List Nat) := sp_17_0
theorem sp_ok_17 {K : sm_H} (hK : sc_KOk K) (mn : String) : sm_poolOk sc_Ts sc_sx sc_zx sc_oc K sc_cl sc_Y "TwoWayGrammar$Text" mn sp_17 := by
  intro e he
  exact sp_ok_17_0 hK mn e he
def sp_18_0 : List ((Nat × Nat) × List Nat) := [((1, 9), [0, 1, 17]), ((11, 335), [0, 0, 17, 28]), ((3, 38), [1]), ((1, 15), [1, 1, 17]), ((11, 492), [0, 0, 17, 30]), ((9, 495), [0, 31, 2]), ((11, 633), [0, 2, 17, 41]), ((11, 505), [0, 0, 17, 27]), ((9, 637), [0, 42, 4])]
set_option maxRecDepth 20000 in
theorem sp_ok_18_0 {K : sm_H} (hK : sc_KOk K) (mn : String) : sm_poolOk sc_Ts sc_sx sc_zx sc_oc K sc_cl sc_Y "java/lang/String" mn sp_18_0 :=
  List.forall_mem_cons.mpr ⟨fun pc i hi => by rw [sm_k1 hi]; exact ⟨sm_al1 (fun a fs v _ h1 h2 => ⟨"java/lang/String", "value", "[B", "java/lang/String", sc_str0 hK h1 h2, sm_mem 2194 (by decide +kernel), Or.inl rfl⟩), trivial⟩,
  List.forall_mem_cons.mpr ⟨fun pc i hi => by rw [sm_k11 hi]; exact ⟨trivial, sm_pk1 (⟨"java/lang/String", rfl, sm_mem 663 (by decide +kernel), sm_mem 118 (by decide +kernel), Or.inl ⟨sm_mem 662 (by decide +kernel), sm_mem 664 (by decide +kernel), by decide +kernel⟩⟩)⟩,
  List.forall_mem_cons.mpr ⟨fun pc i hi => by rw [sm_k3 hi]; exact ⟨⟨"java/lang/String", "COMPACT_STRINGS", "Z", "java/lang/String", List.mem_singleton.mpr rfl, sm_mem 666 (by decide +kernel), Or.inl rfl⟩, trivial⟩,
  List.forall_mem_cons.mpr ⟨fun pc i hi => by rw [sm_k1 hi]; exact ⟨sm_al1 (fun a fs v _ h1 h2 => ⟨"java/lang/String", "coder", "B", "java/lang/String", sc_str1 hK h1 h2, sm_mem 2195 (by decide +kernel), Or.inl rfl⟩), trivial⟩,
  List.forall_mem_cons.mpr ⟨fun pc i hi => by rw [sm_k11 hi]; exact ⟨trivial, sm_pk1 (⟨"java/lang/String", rfl, sm_mem 673 (by decide +kernel), sm_mem 118 (by decide +kernel), Or.inl ⟨sm_mem 672 (by decide +kernel), sm_mem 674 (by decide +kernel), by decide +kernel⟩⟩)⟩,
  List.forall_mem_cons.mpr ⟨fun pc i hi => by rw [sm_k9 hi]; exact ⟨trivial, ⟨sm_mem 677 (by decide +kernel), sm_mem 119 (by decide +kernel), by decide +kernel, Or.inl (sm_mem 676 (by decide +kernel))⟩⟩,
  List.forall_mem_cons.mpr ⟨fun pc i hi => by rw [sm_k11 hi]; exact ⟨trivial, sm_pk1 (⟨"java/lang/String", rfl, sm_mem 744 (by decide +kernel), sm_mem 118 (by decide +kernel), Or.inl ⟨sm_mem 743 (by decide +kernel), sm_mem 745 (by decide +kernel), by decide +kernel⟩⟩)⟩,
  List.forall_mem_cons.mpr ⟨fun pc i hi => by rw [sm_k11 hi]; exact ⟨trivial, sm_pk1 (⟨"java/lang/String", rfl, sm_mem 659 (by decide +kernel), sm_mem 118 (by decide +kernel), Or.inl ⟨sm_mem 747 (by decide +kernel), sm_mem 660 (by decide +kernel), by decide +kernel⟩⟩)⟩,
  List.forall_mem_cons.mpr ⟨fun pc i hi => by rw [sm_k9 hi]; exact ⟨trivial, ⟨sm_mem 749 (by decide +kernel), sm_mem 119 (by decide +kernel), by decide +kernel, Or.inl (sm_mem 748 (by decide +kernel))⟩⟩,
  fun _ h => absurd h List.not_mem_nil⟩⟩⟩⟩⟩⟩⟩⟩⟩
def sp_18 : List ((Nat × Nat) × List Nat) := sp_18_0
theorem sp_ok_18 {K : sm_H} (hK : sc_KOk K) (mn : String) : sm_poolOk sc_Ts sc_sx sc_zx sc_oc K sc_cl sc_Y "java/lang/String" mn sp_18 := by
  intro e he
  exact sp_ok_18_0 hK mn e he
def sp_19_0 : List ((Nat × Nat) × List Nat) := [((9, 9), [8, 0, 0, 0]), ((9, 88), [0, 43, 1]), ((9, 92), [7, 0]), ((9, 38), [7, 1]), ((9, 95), [0, 44, 4])]
set_option maxRecDepth 20000 in
theorem sp_ok_19_0 {K : sm_H} (hK : sc_KOk K) (mn : String) : sm_poolOk sc_Ts sc_sx sc_zx sc_oc K sc_cl sc_Y "java/lang/StringLatin1" mn sp_19_0 :=
  List.forall_mem_cons.mpr ⟨fun pc i hi => by rw [sm_k9 hi]; exact ⟨⟨sc_wS, sm_mem 679 (by decide +kernel), sm_mem 680 (by decide +kernel), sm_mem 118 (by decide +kernel)⟩, trivial⟩,
  List.forall_mem_cons.mpr ⟨fun pc i hi => by rw [sm_k9 hi]; exact ⟨trivial, ⟨sm_mem 752 (by decide +kernel), sm_mem 119 (by decide +kernel), by decide +kernel, Or.inl (sm_mem 751 (by decide +kernel))⟩⟩,
  List.forall_mem_cons.mpr ⟨fun pc i hi => by rw [sm_k9 hi]; exact ⟨Or.inl ⟨rfl, sm_mem 754 (by decide +kernel), sm_mem 142 (by decide +kernel), sm_mem 101 (by decide +kernel), sm_mem 143 (by decide +kernel)⟩, trivial⟩,
  List.forall_mem_cons.mpr ⟨fun pc i hi => by rw [sm_k9 hi]; exact ⟨Or.inr ⟨rfl, sm_mem 755 (by decide +kernel), sm_mem 756 (by decide +kernel), sm_mem 101 (by decide +kernel), sm_mem 757 (by decide +kernel)⟩, trivial⟩,
  List.forall_mem_cons.mpr ⟨fun pc i hi => by rw [sm_k9 hi]; exact ⟨trivial, ⟨sm_mem 759 (by decide +kernel), sm_mem 119 (by decide +kernel), by decide +kernel, Or.inl (sm_mem 758 (by decide +kernel))⟩⟩,
  fun _ h => absurd h List.not_mem_nil⟩⟩⟩⟩⟩
def sp_19 : List ((Nat × Nat) × List Nat) := sp_19_0
theorem sp_ok_19 {K : sm_H} (hK : sc_KOk K) (mn : String) : sm_poolOk sc_Ts sc_sx sc_zx sc_oc K sc_cl sc_Y "java/lang/StringLatin1" mn sp_19 := by
  intro e he
  exact sp_ok_19_0 hK mn e he
def sp_20_0 : List ((Nat × Nat) × List Nat) := [((1, 9), [1, 0, 5]), ((9, 59), [0, 16, 3]), ((1, 15), [2, 0, 5]), ((9, 63), [0, 66, 3]), ((1, 19), [3, 0, 5]), ((1, 22), [4, 0, 5]), ((1, 25), [5, 0, 5]), ((11, 66), [0, 0, 5, 67]), ((11, 69), [0, 0, 5, 76]), ((11, 72), [0, 0, 5, 79]), ((11, 75), [0, 0, 5, 80]), ((2, 110), [15, 3, 0, 5]), ((1, 110), [15, 0, 5]), ((6, 114), [0, 100000]), ((11, 115), [0, 1, 5, 68]), ((1, 55), [0, 0, 5]), ((1, 119), [3, 0, 2]), ((9, 78), [0, 49, 2]), ((1, 122), [4, 0, 2]), ((11, 125), [0, 1, 5, 69])]
set_option maxRecDepth 20000 in
theorem sp_ok_20_0 {K : sm_H} (hK : sc_KOk K) (mn : String) : sm_poolOk sc_Ts sc_sx sc_zx sc_oc K sc_cl sc_Y "TwoWayGrammar$Sets" mn sp_20_0 :=
  List.forall_mem_cons.mpr ⟨fun pc i hi => by rw [sm_k1 hi]; exact ⟨sm_al1 (⟨"TwoWayGrammar$Sets", sc_T5, 16, "TwoWayGrammar$Sets", rfl, by decide, sc_in5, sm_mem 318 (by decide +kernel), Or.inl rfl⟩), trivial⟩,
  List.forall_mem_cons.mpr ⟨fun pc i hi => by rw [sm_k9 hi]; exact ⟨trivial, ⟨sm_mem 615 (by decide +kernel), sm_mem 99 (by decide +kernel), by decide +kernel, Or.inr ⟨"TwoWayGrammar", sc_nx_mem 13 (by decide +kernel)⟩⟩⟩,
  List.forall_mem_cons.mpr ⟨fun pc i hi => by rw [sm_k1 hi]; exact ⟨sm_al1 (⟨"TwoWayGrammar$Sets", sc_T5, 16, "TwoWayGrammar$Sets", rfl, by decide, sc_in5, sm_mem 320 (by decide +kernel), Or.inl rfl⟩), trivial⟩,
  List.forall_mem_cons.mpr ⟨fun pc i hi => by rw [sm_k9 hi]; exact ⟨trivial, ⟨sm_mem 881 (by decide +kernel), sm_mem 99 (by decide +kernel), by decide +kernel, Or.inr ⟨"TwoWayGrammar", sc_nx_mem 14 (by decide +kernel)⟩⟩⟩,
  List.forall_mem_cons.mpr ⟨fun pc i hi => by rw [sm_k1 hi]; exact ⟨sm_al1 (⟨"TwoWayGrammar$Sets", sc_T5, 16, "TwoWayGrammar$Sets", rfl, by decide, sc_in5, sm_mem 322 (by decide +kernel), Or.inl rfl⟩), trivial⟩,
  List.forall_mem_cons.mpr ⟨fun pc i hi => by rw [sm_k1 hi]; exact ⟨sm_al1 (⟨"TwoWayGrammar$Sets", sc_T5, 16, "TwoWayGrammar$Sets", rfl, by decide, sc_in5, sm_mem 324 (by decide +kernel), Or.inl rfl⟩), trivial⟩,
  List.forall_mem_cons.mpr ⟨fun pc i hi => by rw [sm_k1 hi]; exact ⟨sm_al1 (⟨"TwoWayGrammar$Sets", sc_T5, 16, "TwoWayGrammar$Sets", rfl, by decide, sc_in5, sm_mem 325 (by decide +kernel), Or.inl rfl⟩), trivial⟩,
  List.forall_mem_cons.mpr ⟨fun pc i hi => by rw [sm_k11 hi]; exact ⟨trivial, sm_pk1 (⟨"TwoWayGrammar$Sets", rfl, sm_mem 885 (by decide +kernel), sm_mem 105 (by decide +kernel), Or.inl ⟨sm_mem 883 (by decide +kernel), sm_mem 13 (by decide +kernel), by decide +kernel⟩⟩)⟩,
  List.forall_mem_cons.mpr ⟨fun pc i hi => by rw [sm_k11 hi]; exact ⟨trivial, sm_pk1 (⟨"TwoWayGrammar$Sets", rfl, sm_mem 926 (by decide +kernel), sm_mem 105 (by decide +kernel), Or.inl ⟨sm_mem 924 (by decide +kernel), sm_mem 20 (by decide +kernel), by decide +kernel⟩⟩)⟩,
  List.forall_mem_cons.mpr ⟨fun pc i hi => by rw [sm_k11 hi]; exact ⟨trivial, sm_pk1 (⟨"TwoWayGrammar$Sets", rfl, sm_mem 939 (by decide +kernel), sm_mem 105 (by decide +kernel), Or.inl ⟨sm_mem 937 (by decide +kernel), sm_mem 23 (by decide +kernel), by decide +kernel⟩⟩)⟩,
  List.forall_mem_cons.mpr ⟨fun pc i hi => by rw [sm_k11 hi]; exact ⟨trivial, sm_pk1 (⟨"TwoWayGrammar$Sets", rfl, sm_mem 943 (by decide +kernel), sm_mem 105 (by decide +kernel), Or.inl ⟨sm_mem 941 (by decide +kernel), sm_mem 24 (by decide +kernel), by decide +kernel⟩⟩)⟩,
  List.forall_mem_cons.mpr ⟨fun pc i hi => by rw [sm_k2 hi]; exact ⟨sm_al1 (⟨"TwoWayGrammar$Sets", sc_T5, 16, "TwoWayGrammar$Sets", sc_ty5, rfl, by decide, sc_in5, sm_mem 344 (by decide +kernel), Or.inl rfl, sc_tyok5, sc_nm5, Or.inl rfl, Or.inr (Or.inr (Or.inr (Or.inl ⟨rfl, rfl⟩)))⟩), trivial⟩,
  List.forall_mem_cons.mpr ⟨fun pc i hi => by rw [sm_k1 hi]; exact ⟨sm_al1 (⟨"TwoWayGrammar$Sets", sc_T5, 16, "TwoWayGrammar$Sets", rfl, by decide, sc_in5, sm_mem 344 (by decide +kernel), Or.inl rfl⟩), trivial⟩,
  List.forall_mem_cons.mpr ⟨fun pc i hi => by rw [sm_k6 hi]; exact ⟨sm_mem 887 (by decide +kernel), trivial⟩,
  List.forall_mem_cons.mpr ⟨fun pc i hi => by rw [sm_k11 hi]; exact ⟨trivial, sm_pk1 (⟨"TwoWayGrammar$Sets", rfl, sm_mem 890 (by decide +kernel), sm_mem 105 (by decide +kernel), Or.inl ⟨sm_mem 888 (by decide +kernel), sm_mem 14 (by decide +kernel), by decide +kernel⟩⟩)⟩,
  List.forall_mem_cons.mpr ⟨fun pc i hi => by rw [sm_k1 hi]; exact ⟨sm_al1 (⟨"TwoWayGrammar$Sets", sc_T5, 16, "TwoWayGrammar$Sets", rfl, by decide, sc_in5, sm_mem 317 (by decide +kernel), Or.inl rfl⟩), trivial⟩,
  List.forall_mem_cons.mpr ⟨fun pc i hi => by rw [sm_k1 hi]; exact ⟨sm_al1 (⟨"TwoWayGrammar$Grammar", sc_T2, 20, "TwoWayGrammar$Grammar", rfl, by decide, sc_in2, sm_mem 169 (by decide +kernel), Or.inl rfl⟩), trivial⟩,
  List.forall_mem_cons.mpr ⟨fun pc i hi => by rw [sm_k9 hi]; exact ⟨trivial, ⟨sm_mem 809 (by decide +kernel), sm_mem 99 (by decide +kernel), by decide +kernel, Or.inr ⟨"TwoWayGrammar", sc_nx_mem 15 (by decide +kernel)⟩⟩⟩,
  List.forall_mem_cons.mpr ⟨fun pc i hi => by rw [sm_k1 hi]; exact ⟨sm_al1 (⟨"TwoWayGrammar$Grammar", sc_T2, 20, "TwoWayGrammar$Grammar", rfl, by decide, sc_in2, sm_mem 174 (by decide +kernel), Or.inl rfl⟩), trivial⟩,
  List.forall_mem_cons.mpr ⟨fun pc i hi => by rw [sm_k11 hi]; exact ⟨trivial, sm_pk1 (⟨"TwoWayGrammar$Sets", rfl, sm_mem 895 (by decide +kernel), sm_mem 105 (by decide +kernel), Or.inl ⟨sm_mem 893 (by decide +kernel), sm_mem 15 (by decide +kernel), by decide +kernel⟩⟩)⟩,
  fun _ h => absurd h List.not_mem_nil⟩⟩⟩⟩⟩⟩⟩⟩⟩⟩⟩⟩⟩⟩⟩⟩⟩⟩⟩⟩
def sp_20_1 : List ((Nat × Nat) × List Nat) := [((1, 28), [6, 0, 5]), ((1, 31), [7, 0, 5]), ((9, 88), [0, 72, 2]), ((1, 34), [8, 0, 5]), ((1, 37), [9, 0, 5]), ((9, 104), [7, 1]), ((1, 128), [8, 0, 2]), ((1, 131), [7, 0, 2]), ((11, 134), [0, 1, 5, 70]), ((1, 46), [12, 0, 5]), ((11, 137), [0, 1, 5, 73]), ((11, 140), [0, 1, 5, 74]), ((11, 144), [0, 1, 5, 75]), ((9, 147), [7, 0]), ((1, 150), [14, 0, 2]), ((11, 82), [0, 1, 2, 71]), ((1, 43), [11, 0, 5]), ((1, 91), [11, 0, 2]), ((8, 94), [2]), ((8, 96), [4])]
set_option maxRecDepth 20000 in
theorem sp_ok_20_1 {K : sm_H} (hK : sc_KOk K) (mn : String) : sm_poolOk sc_Ts sc_sx sc_zx sc_oc K sc_cl sc_Y "TwoWayGrammar$Sets" mn sp_20_1 :=
  List.forall_mem_cons.mpr ⟨fun pc i hi => by rw [sm_k1 hi]; exact ⟨sm_al1 (⟨"TwoWayGrammar$Sets", sc_T5, 16, "TwoWayGrammar$Sets", rfl, by decide, sc_in5, sm_mem 327 (by decide +kernel), Or.inl rfl⟩), trivial⟩,
  List.forall_mem_cons.mpr ⟨fun pc i hi => by rw [sm_k1 hi]; exact ⟨sm_al1 (⟨"TwoWayGrammar$Sets", sc_T5, 16, "TwoWayGrammar$Sets", rfl, by decide, sc_in5, sm_mem 328 (by decide +kernel), Or.inl rfl⟩), trivial⟩,
  List.forall_mem_cons.mpr ⟨fun pc i hi => by rw [sm_k9 hi]; exact ⟨trivial, ⟨sm_mem 906 (by decide +kernel), sm_mem 99 (by decide +kernel), by decide +kernel, Or.inr ⟨"TwoWayGrammar", sc_nx_mem 16 (by decide +kernel)⟩⟩⟩,
  List.forall_mem_cons.mpr ⟨fun pc i hi => by rw [sm_k1 hi]; exact ⟨sm_al1 (⟨"TwoWayGrammar$Sets", sc_T5, 16, "TwoWayGrammar$Sets", rfl, by decide, sc_in5, sm_mem 329 (by decide +kernel), Or.inl rfl⟩), trivial⟩,
  List.forall_mem_cons.mpr ⟨fun pc i hi => by rw [sm_k1 hi]; exact ⟨sm_al1 (⟨"TwoWayGrammar$Sets", sc_T5, 16, "TwoWayGrammar$Sets", rfl, by decide, sc_in5, sm_mem 330 (by decide +kernel), Or.inl rfl⟩), trivial⟩,
  List.forall_mem_cons.mpr ⟨fun pc i hi => by rw [sm_k9 hi]; exact ⟨Or.inr ⟨rfl, sm_mem 922 (by decide +kernel), sm_mem 756 (by decide +kernel), sm_mem 101 (by decide +kernel), sm_mem 757 (by decide +kernel)⟩, trivial⟩,
  List.forall_mem_cons.mpr ⟨fun pc i hi => by rw [sm_k1 hi]; exact ⟨sm_al1 (⟨"TwoWayGrammar$Grammar", sc_T2, 20, "TwoWayGrammar$Grammar", rfl, by decide, sc_in2, sm_mem 185 (by decide +kernel), Or.inl rfl⟩), trivial⟩,
  List.forall_mem_cons.mpr ⟨fun pc i hi => by rw [sm_k1 hi]; exact ⟨sm_al1 (⟨"TwoWayGrammar$Grammar", sc_T2, 20, "TwoWayGrammar$Grammar", rfl, by decide, sc_in2, sm_mem 179 (by decide +kernel), Or.inl rfl⟩), trivial⟩,
  List.forall_mem_cons.mpr ⟨fun pc i hi => by rw [sm_k11 hi]; exact ⟨trivial, sm_pk1 (⟨"TwoWayGrammar$Sets", rfl, sm_mem 899 (by decide +kernel), sm_mem 105 (by decide +kernel), Or.inl ⟨sm_mem 897 (by decide +kernel), sm_mem 16 (by decide +kernel), by decide +kernel⟩⟩)⟩,
  List.forall_mem_cons.mpr ⟨fun pc i hi => by rw [sm_k1 hi]; exact ⟨sm_al1 (⟨"TwoWayGrammar$Sets", sc_T5, 16, "TwoWayGrammar$Sets", rfl, by decide, sc_in5, sm_mem 337 (by decide +kernel), Or.inl rfl⟩), trivial⟩,
  List.forall_mem_cons.mpr ⟨fun pc i hi => by rw [sm_k11 hi]; exact ⟨trivial, sm_pk1 (⟨"TwoWayGrammar$Sets", rfl, sm_mem 912 (by decide +kernel), sm_mem 105 (by decide +kernel), Or.inl ⟨sm_mem 910 (by decide +kernel), sm_mem 17 (by decide +kernel), by decide +kernel⟩⟩)⟩,
  List.forall_mem_cons.mpr ⟨fun pc i hi => by rw [sm_k11 hi]; exact ⟨trivial, sm_pk1 (⟨"TwoWayGrammar$Sets", rfl, sm_mem 916 (by decide +kernel), sm_mem 105 (by decide +kernel), Or.inl ⟨sm_mem 914 (by decide +kernel), sm_mem 18 (by decide +kernel), by decide +kernel⟩⟩)⟩,
  List.forall_mem_cons.mpr ⟨fun pc i hi => by rw [sm_k11 hi]; exact ⟨trivial, sm_pk1 (⟨"TwoWayGrammar$Sets", rfl, sm_mem 920 (by decide +kernel), sm_mem 105 (by decide +kernel), Or.inl ⟨sm_mem 918 (by decide +kernel), sm_mem 19 (by decide +kernel), by decide +kernel⟩⟩)⟩,
  List.forall_mem_cons.mpr ⟨fun pc i hi => by rw [sm_k9 hi]; exact ⟨Or.inl ⟨rfl, sm_mem 923 (by decide +kernel), sm_mem 142 (by decide +kernel), sm_mem 101 (by decide +kernel), sm_mem 143 (by decide +kernel)⟩, trivial⟩,
  List.forall_mem_cons.mpr ⟨fun pc i hi => by rw [sm_k1 hi]; exact ⟨sm_al1 (⟨"TwoWayGrammar$Grammar", sc_T2, 20, "TwoWayGrammar$Grammar", rfl, by decide, sc_in2, sm_mem 207 (by decide +kernel), Or.inl rfl⟩), trivial⟩,
  List.forall_mem_cons.mpr ⟨fun pc i hi => by rw [sm_k11 hi]; exact ⟨trivial, sm_pk1 (⟨"TwoWayGrammar$Grammar", rfl, sm_mem 902 (by decide +kernel), sm_mem 102 (by decide +kernel), Or.inl ⟨sm_mem 901 (by decide +kernel), sm_mem 903 (by decide +kernel), by decide +kernel⟩⟩)⟩,
  List.forall_mem_cons.mpr ⟨fun pc i hi => by rw [sm_k1 hi]; exact ⟨sm_al1 (⟨"TwoWayGrammar$Sets", sc_T5, 16, "TwoWayGrammar$Sets", rfl, by decide, sc_in5, sm_mem 335 (by decide +kernel), Or.inl rfl⟩), trivial⟩,
  List.forall_mem_cons.mpr ⟨fun pc i hi => by rw [sm_k1 hi]; exact ⟨sm_al1 (⟨"TwoWayGrammar$Grammar", sc_T2, 20, "TwoWayGrammar$Grammar", rfl, by decide, sc_in2, sm_mem 193 (by decide +kernel), Or.inl rfl⟩), trivial⟩,
  List.forall_mem_cons.mpr ⟨fun pc i hi => by rw [sm_k8 hi]; exact ⟨sm_mem 908 (by decide +kernel), trivial⟩,
  List.forall_mem_cons.mpr ⟨fun pc i hi => by rw [sm_k8 hi]; exact ⟨sm_mem 909 (by decide +kernel), trivial⟩,
  fun _ h => absurd h List.not_mem_nil⟩⟩⟩⟩⟩⟩⟩⟩⟩⟩⟩⟩⟩⟩⟩⟩⟩⟩⟩⟩
def sp_20_2 : List ((Nat × Nat) × List Nat) := [((1, 98), [12, 0, 2]), ((1, 101), [15, 0, 2]), ((11, 153), [0, 2, 5, 77]), ((11, 157), [0, 2, 5, 78]), ((1, 49), [13, 0, 5]), ((8, 161), [18446744073709551615]), ((1, 40), [10, 0, 5]), ((1, 163), [10, 0, 2]), ((11, 167), [0, 1, 5, 81]), ((1, 52), [14, 0, 5])]
set_option maxRecDepth 20000 in
theorem sp_ok_20_2 {K : sm_H} (hK : sc_KOk K) (mn : String) : sm_poolOk sc_Ts sc_sx sc_zx sc_oc K sc_cl sc_Y "TwoWayGrammar$Sets" mn sp_20_2 :=
  List.forall_mem_cons.mpr ⟨fun pc i hi => by rw [sm_k1 hi]; exact ⟨sm_al1 (⟨"TwoWayGrammar$Grammar", sc_T2, 20, "TwoWayGrammar$Grammar", rfl, by decide, sc_in2, sm_mem 199 (by decide +kernel), Or.inl rfl⟩), trivial⟩,
  List.forall_mem_cons.mpr ⟨fun pc i hi => by rw [sm_k1 hi]; exact ⟨sm_al1 (⟨"TwoWayGrammar$Grammar", sc_T2, 20, "TwoWayGrammar$Grammar", rfl, by decide, sc_in2, sm_mem 211 (by decide +kernel), Or.inl rfl⟩), trivial⟩,
  List.forall_mem_cons.mpr ⟨fun pc i hi => by rw [sm_k11 hi]; exact ⟨trivial, sm_pk1 (⟨"TwoWayGrammar$Sets", rfl, sm_mem 930 (by decide +kernel), sm_mem 105 (by decide +kernel), Or.inl ⟨sm_mem 928 (by decide +kernel), sm_mem 21 (by decide +kernel), by decide +kernel⟩⟩)⟩,
  List.forall_mem_cons.mpr ⟨fun pc i hi => by rw [sm_k11 hi]; exact ⟨trivial, sm_pk1 (⟨"TwoWayGrammar$Sets", rfl, sm_mem 934 (by decide +kernel), sm_mem 105 (by decide +kernel), Or.inl ⟨sm_mem 932 (by decide +kernel), sm_mem 22 (by decide +kernel), by decide +kernel⟩⟩)⟩,
  List.forall_mem_cons.mpr ⟨fun pc i hi => by rw [sm_k1 hi]; exact ⟨sm_al1 (⟨"TwoWayGrammar$Sets", sc_T5, 16, "TwoWayGrammar$Sets", rfl, by decide, sc_in5, sm_mem 340 (by decide +kernel), Or.inl rfl⟩), trivial⟩,
  List.forall_mem_cons.mpr ⟨fun pc i hi => by rw [sm_k8 hi]; exact ⟨sm_mem 936 (by decide +kernel), trivial⟩,
  List.forall_mem_cons.mpr ⟨fun pc i hi => by rw [sm_k1 hi]; exact ⟨sm_al1 (⟨"TwoWayGrammar$Sets", sc_T5, 16, "TwoWayGrammar$Sets", rfl, by decide, sc_in5, sm_mem 332 (by decide +kernel), Or.inl rfl⟩), trivial⟩,
  List.forall_mem_cons.mpr ⟨fun pc i hi => by rw [sm_k1 hi]; exact ⟨sm_al1 (⟨"TwoWayGrammar$Grammar", sc_T2, 20, "TwoWayGrammar$Grammar", rfl, by decide, sc_in2, sm_mem 191 (by decide +kernel), Or.inl rfl⟩), trivial⟩,
  List.forall_mem_cons.mpr ⟨fun pc i hi => by rw [sm_k11 hi]; exact ⟨trivial, sm_pk1 (⟨"TwoWayGrammar$Sets", rfl, sm_mem 947 (by decide +kernel), sm_mem 105 (by decide +kernel), Or.inl ⟨sm_mem 945 (by decide +kernel), sm_mem 25 (by decide +kernel), by decide +kernel⟩⟩)⟩,
  List.forall_mem_cons.mpr ⟨fun pc i hi => by rw [sm_k1 hi]; exact ⟨sm_al1 (⟨"TwoWayGrammar$Sets", sc_T5, 16, "TwoWayGrammar$Sets", rfl, by decide, sc_in5, sm_mem 342 (by decide +kernel), Or.inl rfl⟩), trivial⟩,
  fun _ h => absurd h List.not_mem_nil⟩⟩⟩⟩⟩⟩⟩⟩⟩⟩
def sp_20 : List ((Nat × Nat) × List Nat) := sp_20_0 ++ sp_20_1 ++ sp_20_2
theorem sp_ok_20 {K : sm_H} (hK : sc_KOk K) (mn : String) : sm_poolOk sc_Ts sc_sx sc_zx sc_oc K sc_cl sc_Y "TwoWayGrammar$Sets" mn sp_20 := by
  intro e he
  simp only [sp_20, List.mem_append] at he
  rcases he with he | he
  rotate_left
  · exact sp_ok_20_2 hK mn e he
  rcases he with he | he
  rotate_left
  · exact sp_ok_20_1 hK mn e he
  exact sp_ok_20_0 hK mn e he
def sp_21_0 : List ((Nat × Nat) × List Nat) := [((2, 19), [2, 0, 0, 6]), ((11, 23), [0, 0, 6, 83]), ((11, 26), [0, 0, 6, 86]), ((11, 29), [0, 1, 6, 87]), ((1, 19), [2, 0, 6]), ((1, 9), [0, 0, 6]), ((1, 33), [0, 0, 2]), ((1, 38), [2, 0, 2]), ((9, 42), [0, 49, 2]), ((1, 15), [1, 0, 6]), ((1, 46), [5, 0, 5]), ((11, 51), [0, 2, 6, 84]), ((11, 55), [0, 1, 5, 85]), ((1, 59), [10, 0, 2]), ((1, 62), [15, 0, 2]), ((1, 65), [16, 0, 2]), ((1, 68), [11, 0, 5]), ((1, 71), [12, 0, 5]), ((9, 75), [0, 72, 2]), ((1, 78), [13, 0, 5])]
set_option maxRecDepth 20000 in
theorem sp_ok_21_0 {K : sm_H} (hK : sc_KOk K) (mn : String) : sm_poolOk sc_Ts sc_sx sc_zx sc_oc K sc_cl sc_Y "TwoWayGrammar$Checks" mn sp_21_0 :=
  List.forall_mem_cons.mpr ⟨fun pc i hi => by rw [sm_k2 hi]; exact ⟨sm_al1 (⟨"TwoWayGrammar$Checks", sc_T6, 3, "TwoWayGrammar$Checks", sc_ty6, rfl, by decide, sc_in6, sm_mem 387 (by decide +kernel), Or.inl rfl, sc_tyok6, sc_nm6, Or.inl rfl, Or.inl ⟨rfl, rfl⟩⟩), trivial⟩,
  List.forall_mem_cons.mpr ⟨fun pc i hi => by rw [sm_k11 hi]; exact ⟨trivial, sm_pk1 (⟨"TwoWayGrammar$Checks", rfl, sm_mem 955 (by decide +kernel), sm_mem 106 (by decide +kernel), Or.inl ⟨sm_mem 953 (by decide +kernel), sm_mem 26 (by decide +kernel), by decide +kernel⟩⟩)⟩,
  List.forall_mem_cons.mpr ⟨fun pc i hi => by rw [sm_k11 hi]; exact ⟨trivial, sm_pk1 (⟨"TwoWayGrammar$Checks", rfl, sm_mem 968 (by decide +kernel), sm_mem 106 (by decide +kernel), Or.inl ⟨sm_mem 966 (by decide +kernel), sm_mem 28 (by decide +kernel), by decide +kernel⟩⟩)⟩,
  List.forall_mem_cons.mpr ⟨fun pc i hi => by rw [sm_k11 hi]; exact ⟨trivial, sm_pk1 (⟨"TwoWayGrammar$Checks", rfl, sm_mem 973 (by decide +kernel), sm_mem 106 (by decide +kernel), Or.inl ⟨sm_mem 971 (by decide +kernel), sm_mem 29 (by decide +kernel), by decide +kernel⟩⟩)⟩,
  List.forall_mem_cons.mpr ⟨fun pc i hi => by rw [sm_k1 hi]; exact ⟨sm_al1 (⟨"TwoWayGrammar$Checks", sc_T6, 3, "TwoWayGrammar$Checks", rfl, by decide, sc_in6, sm_mem 387 (by decide +kernel), Or.inl rfl⟩), trivial⟩,
  List.forall_mem_cons.mpr ⟨fun pc i hi => by rw [sm_k1 hi]; exact ⟨sm_al1 (⟨"TwoWayGrammar$Checks", sc_T6, 3, "TwoWayGrammar$Checks", rfl, by decide, sc_in6, sm_mem 385 (by decide +kernel), Or.inl rfl⟩), trivial⟩,
  List.forall_mem_cons.mpr ⟨fun pc i hi => by rw [sm_k1 hi]; exact ⟨sm_al1 (⟨"TwoWayGrammar$Grammar", sc_T2, 20, "TwoWayGrammar$Grammar", rfl, by decide, sc_in2, sm_mem 159 (by decide +kernel), Or.inl rfl⟩), trivial⟩,
  List.forall_mem_cons.mpr ⟨fun pc i hi => by rw [sm_k1 hi]; exact ⟨sm_al1 (⟨"TwoWayGrammar$Grammar", sc_T2, 20, "TwoWayGrammar$Grammar", rfl, by decide, sc_in2, sm_mem 164 (by decide +kernel), Or.inl rfl⟩), trivial⟩,
  List.forall_mem_cons.mpr ⟨fun pc i hi => by rw [sm_k9 hi]; exact ⟨trivial, ⟨sm_mem 809 (by decide +kernel), sm_mem 99 (by decide +kernel), by decide +kernel, Or.inr ⟨"TwoWayGrammar", sc_nx_mem 17 (by decide +kernel)⟩⟩⟩,
  List.forall_mem_cons.mpr ⟨fun pc i hi => by rw [sm_k1 hi]; exact ⟨sm_al1 (⟨"TwoWayGrammar$Checks", sc_T6, 3, "TwoWayGrammar$Checks", rfl, by decide, sc_in6, sm_mem 386 (by decide +kernel), Or.inl rfl⟩), trivial⟩,
  List.forall_mem_cons.mpr ⟨fun pc i hi => by rw [sm_k1 hi]; exact ⟨sm_al1 (⟨"TwoWayGrammar$Sets", sc_T5, 16, "TwoWayGrammar$Sets", rfl, by decide, sc_in5, sm_mem 326 (by decide +kernel), Or.inl rfl⟩), trivial⟩,
  List.forall_mem_cons.mpr ⟨fun pc i hi => by rw [sm_k11 hi]; exact ⟨trivial, sm_pk1 (⟨"TwoWayGrammar$Checks", rfl, sm_mem 960 (by decide +kernel), sm_mem 106 (by decide +kernel), Or.inl ⟨sm_mem 958 (by decide +kernel), sm_mem 27 (by decide +kernel), by decide +kernel⟩⟩)⟩,
  List.forall_mem_cons.mpr ⟨fun pc i hi => by rw [sm_k11 hi]; exact ⟨trivial, sm_pk1 (⟨"TwoWayGrammar$Sets", rfl, sm_mem 963 (by decide +kernel), sm_mem 105 (by decide +kernel), Or.inl ⟨sm_mem 962 (by decide +kernel), sm_mem 964 (by decide +kernel), by decide +kernel⟩⟩)⟩,
  List.forall_mem_cons.mpr ⟨fun pc i hi => by rw [sm_k1 hi]; exact ⟨sm_al1 (⟨"TwoWayGrammar$Grammar", sc_T2, 20, "TwoWayGrammar$Grammar", rfl, by decide, sc_in2, sm_mem 189 (by decide +kernel), Or.inl rfl⟩), trivial⟩,
  List.forall_mem_cons.mpr ⟨fun pc i hi => by rw [sm_k1 hi]; exact ⟨sm_al1 (⟨"TwoWayGrammar$Grammar", sc_T2, 20, "TwoWayGrammar$Grammar", rfl, by decide, sc_in2, sm_mem 210 (by decide +kernel), Or.inl rfl⟩), trivial⟩,
  List.forall_mem_cons.mpr ⟨fun pc i hi => by rw [sm_k1 hi]; exact ⟨sm_al1 (⟨"TwoWayGrammar$Grammar", sc_T2, 20, "TwoWayGrammar$Grammar", rfl, by decide, sc_in2, sm_mem 215 (by decide +kernel), Or.inl rfl⟩), trivial⟩,
  List.forall_mem_cons.mpr ⟨fun pc i hi => by rw [sm_k1 hi]; exact ⟨sm_al1 (⟨"TwoWayGrammar$Sets", sc_T5, 16, "TwoWayGrammar$Sets", rfl, by decide, sc_in5, sm_mem 336 (by decide +kernel), Or.inl rfl⟩), trivial⟩,
  List.forall_mem_cons.mpr ⟨fun pc i hi => by rw [sm_k1 hi]; exact ⟨sm_al1 (⟨"TwoWayGrammar$Sets", sc_T5, 16, "TwoWayGrammar$Sets", rfl, by decide, sc_in5, sm_mem 338 (by decide +kernel), Or.inl rfl⟩), trivial⟩,
  List.forall_mem_cons.mpr ⟨fun pc i hi => by rw [sm_k9 hi]; exact ⟨trivial, ⟨sm_mem 906 (by decide +kernel), sm_mem 99 (by decide +kernel), by decide +kernel, Or.inr ⟨"TwoWayGrammar", sc_nx_mem 18 (by decide +kernel)⟩⟩⟩,
  List.forall_mem_cons.mpr ⟨fun pc i hi => by rw [sm_k1 hi]; exact ⟨sm_al1 (⟨"TwoWayGrammar$Sets", sc_T5, 16, "TwoWayGrammar$Sets", rfl, by decide, sc_in5, sm_mem 341 (by decide +kernel), Or.inl rfl⟩), trivial⟩,
  fun _ h => absurd h List.not_mem_nil⟩⟩⟩⟩⟩⟩⟩⟩⟩⟩⟩⟩⟩⟩⟩⟩⟩⟩⟩⟩
