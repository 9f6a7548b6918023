/-- TwoWayGrammar$Tree.drop()V -/
def xc_0 : ab_C := (13, [(3, 94, 0, [])], [], [(ab_unk, [])], [(12032, 12033)], 0)
theorem xo_0 : ab_Ok sc_P sx_sk xc_0 := ab_good_ok (env := []) (heads := []) (fuel := 9) (by decide +kernel) (fun _ h => absurd h List.not_mem_nil)
/-- TwoWayGrammar$Tree.drop()V -/
def xc_1 : ab_C := (13, [(3, 98, 0, [])], [], [(ab_unk, [])], [(12544, 12545)], 0)
theorem xo_1 : ab_Ok sc_P sx_sk xc_1 := ab_good_ok (env := []) (heads := []) (fuel := 9) (by decide +kernel) (fun _ h => absurd h List.not_mem_nil)
/-- TwoWayGrammar.put([III)V -/
def xc_2 : ab_C := (16, [(3, 63, 0, []), ab_top, ab_top], [], [(ab_unk, [])], [(8064, 8065)], 0)
theorem xo_2 : ab_Ok sc_P sx_sk xc_2 := ab_good_ok (env := []) (heads := []) (fuel := 16) (by decide +kernel) (fun _ h => absurd h List.not_mem_nil)
/-- TwoWayGrammar.put([III)V -/
def xc_3 : ab_C := (16, [(3, 64, 0, []), ab_top, ab_top], [], [(ab_unk, [])], [(8192, 8193)], 0)
theorem xo_3 : ab_Ok sc_P sx_sk xc_3 := ab_good_ok (env := []) (heads := []) (fuel := 16) (by decide +kernel) (fun _ h => absurd h List.not_mem_nil)
/-- TwoWayGrammar$Grammar.drop()V -/
def xc_4 : ab_C := (15, [(3, 60, 0, [])], [], [(ab_unk, [])], [(7680, 7681), (7685, 7687), (7690, 7691), (7698, 7699), (8064, 8065), (8192, 8193)], 1)
theorem xo_4 : ab_Ok sc_P sx_sk xc_4 := ab_good_ok (env := [xc_2, xc_3]) (heads := [(27, [(3, 60, 0, []), (1, 0, 70, [])], [(7698, (1, 0, 0, [])), (7690, (1, 0, 0, [])), (7686, (1, 0, 0, [])), (7685, (1, 0, 0, [])), (7680, (1, 0, 0, []))], [(0, 0, 0), (1, 1, 0)])]) (fuel := 23) (by decide +kernel) (List.forall_mem_cons.mpr ⟨xo_2, List.forall_mem_cons.mpr ⟨xo_3, fun _ h => absurd h List.not_mem_nil⟩⟩)
/-- TwoWayGrammar$Text.at(I)C -/
def xc_5 : ab_C := (20, [(3, 52, 0, []), ab_top], [], [((1, 0, 65535, []), [])], [], 0)
theorem xo_5 : ab_Ok sc_P sx_sk xc_5 := ab_good_ok (env := []) (heads := []) (fuel := 22) (by decide +kernel) (fun _ h => absurd h List.not_mem_nil)
/-- TwoWayGrammar.isBlank(I)Z -/
def xc_6 : ab_C := (21, [ab_top], [], [((1, 0, 1, []), [])], [], 0)
theorem xo_6 : ab_Ok sc_P sx_sk xc_6 := ab_good_ok (env := []) (heads := []) (fuel := 14) (by decide +kernel) (fun _ h => absurd h List.not_mem_nil)
/-- TwoWayGrammar$Text.behindBlanks(I)I -/
def xc_7 : ab_C := (19, [(3, 52, 0, []), (1, 0, 241, [])], [], [((1, 0, 241, []), [])], [], 1)
theorem xo_7 : ab_Ok sc_P sx_sk xc_7 := ab_good_ok (env := [xc_5, xc_6]) (heads := [(2, [(3, 52, 0, []), (1, 0, 241, []), (1, 0, 241, [])], [], [(0, 0, 0), (1, 2, 0)])]) (fuel := 17) (by decide +kernel) (List.forall_mem_cons.mpr ⟨xo_5, List.forall_mem_cons.mpr ⟨xo_6, fun _ h => absurd h List.not_mem_nil⟩⟩)
/-- TwoWayGrammar$Text.length()I -/
def xc_8 : ab_C := (22, [(3, 52, 0, [])], [], [((1, 0, 240, []), [])], [], 0)
theorem xo_8 : ab_Ok sc_P sx_sk xc_8 := ab_good_ok (env := []) (heads := []) (fuel := 8) (by decide +kernel) (fun _ h => absurd h List.not_mem_nil)
/-- TwoWayGrammar.isSmall(I)Z -/
def xc_9 : ab_C := (23, [ab_top], [], [((1, 0, 1, []), [])], [], 0)
theorem xo_9 : ab_Ok sc_P sx_sk xc_9 := ab_good_ok (env := []) (heads := []) (fuel := 14) (by decide +kernel) (fun _ h => absurd h List.not_mem_nil)
/-- TwoWayGrammar$Text.behindLetters(I)I -/
def xc_10 : ab_C := (25, [(3, 52, 0, []), (1, 0, 239, [])], [], [((1, 0, 240, []), [])], [], 1)
theorem xo_10 : ab_Ok sc_P sx_sk xc_10 := ab_good_ok (env := [xc_5, xc_9]) (heads := [(2, [(3, 52, 0, []), (1, 0, 239, []), (1, 0, 240, [])], [], [(0, 0, 0), (1, 2, 0)])]) (fuel := 17) (by decide +kernel) (List.forall_mem_cons.mpr ⟨xo_5, List.forall_mem_cons.mpr ⟨xo_9, fun _ h => absurd h List.not_mem_nil⟩⟩)
/-- TwoWayGrammar$Text.has(Ljava/lang/String;II)Z -/
def xc_11 : ab_C := (26, [(3, 52, 0, []), (3, 1, 0, []), ab_top, ab_top], [], [((1, 0, 1, []), [])], [], 2)
theorem xo_11 : ab_Ok sc_P sx_sk xc_11 := ab_good_ok (env := [xc_5]) (heads := [(20, [(3, 52, 0, []), (3, 1, 0, []), ab_top, ab_top, (1, 0, 1, []), (1, 0, 6, [])], [(129, (1, 0, 0, []))], [(0, 0, 0), (1, 5, 0)])]) (fuel := 66) (by decide +kernel) (List.forall_mem_cons.mpr ⟨xo_5, fun _ h => absurd h List.not_mem_nil⟩)
/-- TwoWayGrammar$Text.has(Ljava/lang/String;II)Z -/
def xc_12 : ab_C := (26, [(3, 52, 0, []), (3, 2, 0, []), ab_top, ab_top], [], [((1, 0, 1, []), [])], [], 2)
theorem xo_12 : ab_Ok sc_P sx_sk xc_12 := ab_good_ok (env := [xc_5]) (heads := [(20, [(3, 52, 0, []), (3, 2, 0, []), ab_top, ab_top, (1, 0, 1, []), (1, 0, 4, [])], [(257, (1, 0, 0, []))], [(0, 0, 0), (1, 5, 0)])]) (fuel := 66) (by decide +kernel) (List.forall_mem_cons.mpr ⟨xo_5, fun _ h => absurd h List.not_mem_nil⟩)
/-- TwoWayGrammar$Text.has(Ljava/lang/String;II)Z -/
def xc_13 : ab_C := (26, [(3, 52, 0, []), (3, 3, 0, []), ab_top, ab_top], [], [((1, 0, 1, []), [])], [], 2)
theorem xo_13 : ab_Ok sc_P sx_sk xc_13 := ab_good_ok (env := [xc_5]) (heads := [(20, [(3, 52, 0, []), (3, 3, 0, []), ab_top, ab_top, (1, 0, 1, []), (1, 0, 5, [])], [(385, (1, 0, 0, []))], [(0, 0, 0), (1, 5, 0)])]) (fuel := 66) (by decide +kernel) (List.forall_mem_cons.mpr ⟨xo_5, fun _ h => absurd h List.not_mem_nil⟩)
/-- TwoWayGrammar$Text.has(Ljava/lang/String;II)Z -/
def xc_14 : ab_C := (26, [(3, 52, 0, []), (3, 4, 0, []), ab_top, ab_top], [], [((1, 0, 1, []), [])], [], 2)
theorem xo_14 : ab_Ok sc_P sx_sk xc_14 := ab_good_ok (env := [xc_5]) (heads := [(20, [(3, 52, 0, []), (3, 4, 0, []), ab_top, ab_top, (1, 0, 1, []), (1, 0, 5, [])], [(513, (1, 0, 0, []))], [(0, 0, 0), (1, 5, 0)])]) (fuel := 66) (by decide +kernel) (List.forall_mem_cons.mpr ⟨xo_5, fun _ h => absurd h List.not_mem_nil⟩)
/-- TwoWayGrammar$Text.has(Ljava/lang/String;II)Z -/
def xc_15 : ab_C := (26, [(3, 52, 0, []), (3, 5, 0, []), ab_top, ab_top], [], [((1, 0, 1, []), [])], [], 2)
theorem xo_15 : ab_Ok sc_P sx_sk xc_15 := ab_good_ok (env := [xc_5]) (heads := [(20, [(3, 52, 0, []), (3, 5, 0, []), ab_top, ab_top, (1, 0, 1, []), (1, 0, 4, [])], [(641, (1, 0, 0, []))], [(0, 0, 0), (1, 5, 0)])]) (fuel := 66) (by decide +kernel) (List.forall_mem_cons.mpr ⟨xo_5, fun _ h => absurd h List.not_mem_nil⟩)
/-- TwoWayGrammar$Text.has(Ljava/lang/String;II)Z -/
def xc_16 : ab_C := (26, [(3, 52, 0, []), (3, 6, 0, []), ab_top, ab_top], [], [((1, 0, 1, []), [])], [], 2)
theorem xo_16 : ab_Ok sc_P sx_sk xc_16 := ab_good_ok (env := [xc_5]) (heads := [(20, [(3, 52, 0, []), (3, 6, 0, []), ab_top, ab_top, (1, 0, 1, []), (1, 0, 6, [])], [(769, (1, 0, 0, []))], [(0, 0, 0), (1, 5, 0)])]) (fuel := 66) (by decide +kernel) (List.forall_mem_cons.mpr ⟨xo_5, fun _ h => absurd h List.not_mem_nil⟩)
/-- TwoWayGrammar$Text.has(Ljava/lang/String;II)Z -/
def xc_17 : ab_C := (26, [(3, 52, 0, []), (3, 7, 0, []), ab_top, ab_top], [], [((1, 0, 1, []), [])], [], 2)
theorem xo_17 : ab_Ok sc_P sx_sk xc_17 := ab_good_ok (env := [xc_5]) (heads := [(20, [(3, 52, 0, []), (3, 7, 0, []), ab_top, ab_top, (1, 0, 1, []), (1, 0, 4, [])], [(897, (1, 0, 0, []))], [(0, 0, 0), (1, 5, 0)])]) (fuel := 66) (by decide +kernel) (List.forall_mem_cons.mpr ⟨xo_5, fun _ h => absurd h List.not_mem_nil⟩)
/-- TwoWayGrammar$Text.behindLetters(I)I -/
def xc_18 : ab_C := (25, [(3, 52, 0, []), (1, 1, 240, [])], [], [((1, 1, 240, []), [])], [], 1)
theorem xo_18 : ab_Ok sc_P sx_sk xc_18 := ab_good_ok (env := [xc_5, xc_9]) (heads := [(2, [(3, 52, 0, []), (1, 1, 240, []), (1, 1, 240, [])], [], [(0, 0, 0), (1, 2, 0)])]) (fuel := 17) (by decide +kernel) (List.forall_mem_cons.mpr ⟨xo_5, List.forall_mem_cons.mpr ⟨xo_9, fun _ h => absurd h List.not_mem_nil⟩⟩)
/-- TwoWayGrammar$Text.letterCode(II)I -/
def xc_19 : ab_C := (34, [(3, 52, 0, []), (1, 1, 240, []), (1, 1, 240, [])], [], [(ab_top, [])], [], 1)
theorem xo_19 : ab_Ok sc_P sx_sk xc_19 := ab_good_ok (env := [xc_5]) (heads := [(7, [(3, 52, 0, []), (1, 1, 240, []), (1, 1, 240, []), ab_top, (1, 0, 239, [])], [], [(0, 0, 0), (2, 4, 0)])]) (fuel := 23) (by decide +kernel) (List.forall_mem_cons.mpr ⟨xo_5, fun _ h => absurd h List.not_mem_nil⟩)
/-- TwoWayGrammar.isCapital(I)Z -/
def xc_20 : ab_C := (36, [ab_top], [], [((1, 0, 1, []), [])], [], 0)
theorem xo_20 : ab_Ok sc_P sx_sk xc_20 := ab_good_ok (env := []) (heads := []) (fuel := 14) (by decide +kernel) (fun _ h => absurd h List.not_mem_nil)
/-- TwoWayGrammar.isDigit(I)Z -/
def xc_21 : ab_C := (37, [ab_top], [], [((1, 0, 1, []), [])], [], 0)
theorem xo_21 : ab_Ok sc_P sx_sk xc_21 := ab_good_ok (env := []) (heads := []) (fuel := 14) (by decide +kernel) (fun _ h => absurd h List.not_mem_nil)
/-- TwoWayGrammar.signCode(C)I -/
def xc_22 : ab_C := (38, [(1, 0, 65535, [])], [], [(ab_top, [])], [], 0)
theorem xo_22 : ab_Ok sc_P sx_sk xc_22 := ab_good_ok (env := []) (heads := []) (fuel := 8) (by decide +kernel) (fun _ h => absurd h List.not_mem_nil)
/-- TwoWayGrammar$Tokens.advance()V -/
def xc_23 : ab_C := (18, [(3, 77, 0, [])], [], [(ab_unk, [])], [(9857, 9861)], 5)
theorem xo_23 : ab_Ok sc_P sx_sk xc_23 := ab_good_ok (env := [xc_7, xc_5, xc_8, xc_9, xc_10, xc_11, xc_12, xc_13, xc_14, xc_15, xc_16, xc_17, xc_18, xc_19, xc_6, xc_20, xc_21, xc_22]) (heads := []) (fuel := 224) (by decide +kernel) (List.forall_mem_cons.mpr ⟨xo_7, List.forall_mem_cons.mpr ⟨xo_5, List.forall_mem_cons.mpr ⟨xo_8, List.forall_mem_cons.mpr ⟨xo_9, List.forall_mem_cons.mpr ⟨xo_10, List.forall_mem_cons.mpr ⟨xo_11, List.forall_mem_cons.mpr ⟨xo_12, List.forall_mem_cons.mpr ⟨xo_13, List.forall_mem_cons.mpr ⟨xo_14, List.forall_mem_cons.mpr ⟨xo_15, List.forall_mem_cons.mpr ⟨xo_16, List.forall_mem_cons.mpr ⟨xo_17, List.forall_mem_cons.mpr ⟨xo_18, List.forall_mem_cons.mpr ⟨xo_19, List.forall_mem_cons.mpr ⟨xo_6, List.forall_mem_cons.mpr ⟨xo_20, List.forall_mem_cons.mpr ⟨xo_21, List.forall_mem_cons.mpr ⟨xo_22, fun _ h => absurd h List.not_mem_nil⟩⟩⟩⟩⟩⟩⟩⟩⟩⟩⟩⟩⟩⟩⟩⟩⟩⟩)
/-- TwoWayGrammar$Tokens.rewind()V -/
def xc_24 : ab_C := (17, [(3, 77, 0, [])], [], [(ab_unk, [])], [(9857, 9861)], 6)
theorem xo_24 : ab_Ok sc_P sx_sk xc_24 := ab_good_ok (env := [xc_23]) (heads := []) (fuel := 11) (by decide +kernel) (List.forall_mem_cons.mpr ⟨xo_23, fun _ h => absurd h List.not_mem_nil⟩)
/-- TwoWayGrammar$Reader.blame(II)V -/
def xc_25 : ab_C := (47, [(3, 76, 0, []), ab_top, ab_top], [], [(ab_unk, [])], [(9730, 9732)], 0)
theorem xo_25 : ab_Ok sc_P sx_sk xc_25 := ab_good_ok (env := []) (heads := []) (fuel := 12) (by decide +kernel) (fun _ h => absurd h List.not_mem_nil)
/-- TwoWayGrammar.put([III)V -/
def xc_26 : ab_C := (16, [(3, 61, 0, []), ab_top, ab_top], [], [(ab_unk, [])], [(7808, 7809)], 0)
theorem xo_26 : ab_Ok sc_P sx_sk xc_26 := ab_good_ok (env := []) (heads := []) (fuel := 16) (by decide +kernel) (fun _ h => absurd h List.not_mem_nil)
/-- TwoWayGrammar.put([III)V -/
def xc_27 : ab_C := (16, [(3, 62, 0, []), ab_top, ab_top], [], [(ab_unk, [])], [(7936, 7937)], 0)
theorem xo_27 : ab_Ok sc_P sx_sk xc_27 := ab_good_ok (env := []) (heads := []) (fuel := 16) (by decide +kernel) (fun _ h => absurd h List.not_mem_nil)
/-- TwoWayGrammar$Grammar.addRule(II)I -/
def xc_28 : ab_C := (50, [(3, 60, 0, []), ab_top, ab_top], [], [(ab_top, [])], [(7680, 7681), (7808, 7809), (7936, 7937)], 1)
theorem xo_28 : ab_Ok sc_P sx_sk xc_28 := ab_good_ok (env := [xc_26, xc_27]) (heads := []) (fuel := 28) (by decide +kernel) (List.forall_mem_cons.mpr ⟨xo_26, List.forall_mem_cons.mpr ⟨xo_27, fun _ h => absurd h List.not_mem_nil⟩⟩)
/-- TwoWayGrammar.at([II)I -/
def xc_29 : ab_C := (49, [(3, 61, 0, []), ab_top], [], [(ab_top, [])], [], 0)
theorem xo_29 : ab_Ok sc_P sx_sk xc_29 := ab_good_ok (env := []) (heads := []) (fuel := 16) (by decide +kernel) (fun _ h => absurd h List.not_mem_nil)
/-- TwoWayGrammar$Grammar.ruleNamed(I)I -/
def xc_30 : ab_C := (48, [(3, 60, 0, []), ab_top], [], [(ab_top, [])], [], 1)
theorem xo_30 : ab_Ok sc_P sx_sk xc_30 := ab_good_ok (env := [xc_29]) (heads := [(2, [(3, 60, 0, []), ab_top, (1, 0, 2147483647, [])], [], [(0, 0, 0), (1, 2, 0)])]) (fuel := 18) (by decide +kernel) (List.forall_mem_cons.mpr ⟨xo_29, fun _ h => absurd h List.not_mem_nil⟩)
/-- TwoWayGrammar$Reader.beginRule()I -/
def xc_31 : ab_C := (46, [(3, 76, 0, [])], [], [(ab_top, [])], [(7680, 7681), (7808, 7809), (7936, 7937), (9730, 9732), (9857, 9861)], 6)
theorem xo_31 : ab_Ok sc_P sx_sk xc_31 := ab_good_ok (env := [xc_25, xc_28, xc_23, xc_30]) (heads := []) (fuel := 47) (by decide +kernel) (List.forall_mem_cons.mpr ⟨xo_25, List.forall_mem_cons.mpr ⟨xo_28, List.forall_mem_cons.mpr ⟨xo_23, List.forall_mem_cons.mpr ⟨xo_30, fun _ h => absurd h List.not_mem_nil⟩⟩⟩⟩)
/-- TwoWayGrammar$Reader.expect(I)V -/
def xc_32 : ab_C := (51, [(3, 76, 0, []), ab_top], [], [(ab_unk, [])], [(9730, 9732), (9857, 9861)], 6)
theorem xo_32 : ab_Ok sc_P sx_sk xc_32 := ab_good_ok (env := [xc_25, xc_23]) (heads := []) (fuel := 20) (by decide +kernel) (List.forall_mem_cons.mpr ⟨xo_25, List.forall_mem_cons.mpr ⟨xo_23, fun _ h => absurd h List.not_mem_nil⟩⟩)
/-- TwoWayGrammar.put([III)V -/
def xc_33 : ab_C := (16, [(3, 65, 0, []), ab_top, ab_top], [], [(ab_unk, [])], [(8320, 8321)], 0)
theorem xo_33 : ab_Ok sc_P sx_sk xc_33 := ab_good_ok (env := []) (heads := []) (fuel := 16) (by decide +kernel) (fun _ h => absurd h List.not_mem_nil)
/-- TwoWayGrammar.put([III)V -/
def xc_34 : ab_C := (16, [(3, 66, 0, []), ab_top, ab_top], [], [(ab_unk, [])], [(8448, 8449)], 0)
theorem xo_34 : ab_Ok sc_P sx_sk xc_34 := ab_good_ok (env := []) (heads := []) (fuel := 16) (by decide +kernel) (fun _ h => absurd h List.not_mem_nil)
/-- TwoWayGrammar.put([III)V -/
def xc_35 : ab_C := (16, [(3, 67, 0, []), ab_top, ab_top], [], [(ab_unk, [])], [(8576, 8577)], 0)
theorem xo_35 : ab_Ok sc_P sx_sk xc_35 := ab_good_ok (env := []) (heads := []) (fuel := 16) (by decide +kernel) (fun _ h => absurd h List.not_mem_nil)
/-- TwoWayGrammar.at([II)I -/
def xc_36 : ab_C := (49, [(3, 64, 0, []), ab_top], [], [(ab_top, [])], [], 0)
theorem xo_36 : ab_Ok sc_P sx_sk xc_36 := ab_good_ok (env := []) (heads := []) (fuel := 16) (by decide +kernel) (fun _ h => absurd h List.not_mem_nil)
/-- TwoWayGrammar$Grammar.addAlternative(III)I -/
def xc_37 : ab_C := (53, [(3, 60, 0, []), ab_top, ab_top, ab_top], [], [(ab_top, [])], [(7686, 7687), (8064, 8065), (8192, 8193), (8320, 8321), (8448, 8449), (8576, 8577)], 1)
theorem xo_37 : ab_Ok sc_P sx_sk xc_37 := ab_good_ok (env := [xc_33, xc_34, xc_35, xc_36, xc_3, xc_2]) (heads := []) (fuel := 50) (by decide +kernel) (List.forall_mem_cons.mpr ⟨xo_33, List.forall_mem_cons.mpr ⟨xo_34, List.forall_mem_cons.mpr ⟨xo_35, List.forall_mem_cons.mpr ⟨xo_36, List.forall_mem_cons.mpr ⟨xo_3, List.forall_mem_cons.mpr ⟨xo_2, fun _ h => absurd h List.not_mem_nil⟩⟩⟩⟩⟩⟩)
/-- TwoWayGrammar$Tokens.beginsPart()Z -/
def xc_38 : ab_C := (56, [(3, 77, 0, [])], [], [((1, 0, 1, []), [])], [], 0)
theorem xo_38 : ab_Ok sc_P sx_sk xc_38 := ab_good_ok (env := []) (heads := []) (fuel := 16) (by decide +kernel) (fun _ h => absurd h List.not_mem_nil)
/-- TwoWayGrammar.at([II)I -/
def xc_39 : ab_C := (49, [(3, 75, 0, []), ab_top], [], [(ab_top, [])], [], 0)
theorem xo_39 : ab_Ok sc_P sx_sk xc_39 := ab_good_ok (env := []) (heads := []) (fuel := 16) (by decide +kernel) (fun _ h => absurd h List.not_mem_nil)
/-- TwoWayGrammar$Grammar.literal(I)I -/
def xc_40 : ab_C := (58, [(3, 60, 0, []), ab_top], [], [(ab_top, [])], [], 1)
theorem xo_40 : ab_Ok sc_P sx_sk xc_40 := ab_good_ok (env := [xc_39]) (heads := [(2, [(3, 60, 0, []), ab_top, (1, 0, 2147483647, [])], [], [(0, 0, 0), (1, 2, 0)])]) (fuel := 18) (by decide +kernel) (List.forall_mem_cons.mpr ⟨xo_39, fun _ h => absurd h List.not_mem_nil⟩)
/-- TwoWayGrammar$Reader.isOneTooMany(I)Z -/
def xc_41 : ab_C := (57, [(3, 76, 0, []), (1, 0, 0, [])], [], [((1, 0, 1, []), [])], [], 2)
theorem xo_41 : ab_Ok sc_P sx_sk xc_41 := ab_good_ok (env := [xc_40]) (heads := []) (fuel := 41) (by decide +kernel) (List.forall_mem_cons.mpr ⟨xo_40, fun _ h => absurd h List.not_mem_nil⟩)
/-- TwoWayGrammar.put([III)V -/
def xc_42 : ab_C := (16, [(3, 68, 0, []), ab_top, ab_top], [], [(ab_unk, [])], [(8704, 8705)], 0)
theorem xo_42 : ab_Ok sc_P sx_sk xc_42 := ab_good_ok (env := []) (heads := []) (fuel := 16) (by decide +kernel) (fun _ h => absurd h List.not_mem_nil)
/-- TwoWayGrammar.put([III)V -/
def xc_43 : ab_C := (16, [(3, 69, 0, []), ab_top, ab_top], [], [(ab_unk, [])], [(8832, 8833)], 0)
theorem xo_43 : ab_Ok sc_P sx_sk xc_43 := ab_good_ok (env := []) (heads := []) (fuel := 16) (by decide +kernel) (fun _ h => absurd h List.not_mem_nil)
/-- TwoWayGrammar.put([III)V -/
def xc_44 : ab_C := (16, [(3, 70, 0, []), ab_top, ab_top], [], [(ab_unk, [])], [(8960, 8961)], 0)
theorem xo_44 : ab_Ok sc_P sx_sk xc_44 := ab_good_ok (env := []) (heads := []) (fuel := 16) (by decide +kernel) (fun _ h => absurd h List.not_mem_nil)
/-- TwoWayGrammar.put([III)V -/
def xc_45 : ab_C := (16, [(3, 71, 0, []), ab_top, ab_top], [], [(ab_unk, [])], [(9088, 9089)], 0)
theorem xo_45 : ab_Ok sc_P sx_sk xc_45 := ab_good_ok (env := []) (heads := []) (fuel := 16) (by decide +kernel) (fun _ h => absurd h List.not_mem_nil)
/-- TwoWayGrammar.put([III)V -/
def xc_46 : ab_C := (16, [(3, 72, 0, []), ab_top, ab_top], [], [(ab_unk, [])], [(9216, 9217)], 0)
theorem xo_46 : ab_Ok sc_P sx_sk xc_46 := ab_good_ok (env := []) (heads := []) (fuel := 16) (by decide +kernel) (fun _ h => absurd h List.not_mem_nil)
/-- TwoWayGrammar.put([III)V -/
def xc_47 : ab_C := (16, [(3, 73, 0, []), ab_top, ab_top], [], [(ab_unk, [])], [(9344, 9345)], 0)
theorem xo_47 : ab_Ok sc_P sx_sk xc_47 := ab_good_ok (env := []) (heads := []) (fuel := 16) (by decide +kernel) (fun _ h => absurd h List.not_mem_nil)
/-- TwoWayGrammar.put([III)V -/
def xc_48 : ab_C := (16, [(3, 74, 0, []), ab_top, ab_top], [], [(ab_unk, [])], [(9472, 9473)], 0)
theorem xo_48 : ab_Ok sc_P sx_sk xc_48 := ab_good_ok (env := []) (heads := []) (fuel := 16) (by decide +kernel) (fun _ h => absurd h List.not_mem_nil)
/-- TwoWayGrammar$Grammar.addPart(III)I -/
def xc_49 : ab_C := (60, [(3, 60, 0, []), ab_top, ab_top, ab_top], [], [(ab_top, [])], [(7690, 7691), (8704, 8705), (8832, 8833), (8960, 8961), (9088, 9089), (9216, 9217), (9344, 9345), (9472, 9473)], 1)
theorem xo_49 : ab_Ok sc_P sx_sk xc_49 := ab_good_ok (env := [xc_42, xc_43, xc_44, xc_45, xc_46, xc_47, xc_48]) (heads := []) (fuel := 51) (by decide +kernel) (List.forall_mem_cons.mpr ⟨xo_42, List.forall_mem_cons.mpr ⟨xo_43, List.forall_mem_cons.mpr ⟨xo_44, List.forall_mem_cons.mpr ⟨xo_45, List.forall_mem_cons.mpr ⟨xo_46, List.forall_mem_cons.mpr ⟨xo_47, List.forall_mem_cons.mpr ⟨xo_48, fun _ h => absurd h List.not_mem_nil⟩⟩⟩⟩⟩⟩⟩)
/-- TwoWayGrammar.put([III)V -/
def xc_50 : ab_C := (16, [(3, 75, 0, []), ab_top, ab_top], [], [(ab_unk, [])], [(9600, 9601)], 0)
theorem xo_50 : ab_Ok sc_P sx_sk xc_50 := ab_good_ok (env := []) (heads := []) (fuel := 16) (by decide +kernel) (fun _ h => absurd h List.not_mem_nil)
/-- TwoWayGrammar$Grammar.addLiteral(I)I -/
def xc_51 : ab_C := (61, [(3, 60, 0, []), ab_top], [], [(ab_top, [])], [(7698, 7699), (9600, 9601)], 2)
theorem xo_51 : ab_Ok sc_P sx_sk xc_51 := ab_good_ok (env := [xc_40, xc_50]) (heads := []) (fuel := 29) (by decide +kernel) (List.forall_mem_cons.mpr ⟨xo_40, List.forall_mem_cons.mpr ⟨xo_50, fun _ h => absurd h List.not_mem_nil⟩⟩)
/-- TwoWayGrammar$Grammar.addGroup()I -/
def xc_52 : ab_C := (62, [(3, 60, 0, [])], [], [(ab_top, [])], [(7685, 7686)], 0)
theorem xo_52 : ab_Ok sc_P sx_sk xc_52 := ab_good_ok (env := []) (heads := []) (fuel := 18) (by decide +kernel) (fun _ h => absurd h List.not_mem_nil)
/-- TwoWayGrammar$Reader.isOneTooMany(I)Z -/
def xc_53 : ab_C := (57, [(3, 76, 0, []), (1, 1, 1, [])], [], [((1, 0, 1, []), [])], [], 2)
theorem xo_53 : ab_Ok sc_P sx_sk xc_53 := ab_good_ok (env := [xc_40]) (heads := []) (fuel := 41) (by decide +kernel) (List.forall_mem_cons.mpr ⟨xo_40, fun _ h => absurd h List.not_mem_nil⟩)
/-- TwoWayGrammar$Reader.isOneTooMany(I)Z -/
def xc_54 : ab_C := (57, [(3, 76, 0, []), (1, 2, 2, [])], [], [((1, 0, 1, []), [])], [], 2)
theorem xo_54 : ab_Ok sc_P sx_sk xc_54 := ab_good_ok (env := [xc_40]) (heads := []) (fuel := 41) (by decide +kernel) (List.forall_mem_cons.mpr ⟨xo_40, fun _ h => absurd h List.not_mem_nil⟩)
/-- TwoWayGrammar$Reader.isOneTooMany(I)Z -/
def xc_55 : ab_C := (57, [(3, 76, 0, []), (1, 3, 3, [])], [], [((1, 0, 1, []), [])], [], 2)
theorem xo_55 : ab_Ok sc_P sx_sk xc_55 := ab_good_ok (env := [xc_40]) (heads := []) (fuel := 41) (by decide +kernel) (List.forall_mem_cons.mpr ⟨xo_40, fun _ h => absurd h List.not_mem_nil⟩)
/-- TwoWayGrammar$Reader.isOneTooMany(I)Z -/
def xc_56 : ab_C := (57, [(3, 76, 0, []), (1, 4, 4, [])], [], [((1, 0, 1, []), [])], [], 2)
theorem xo_56 : ab_Ok sc_P sx_sk xc_56 := ab_good_ok (env := [xc_40]) (heads := []) (fuel := 41) (by decide +kernel) (List.forall_mem_cons.mpr ⟨xo_40, fun _ h => absurd h List.not_mem_nil⟩)
/-- TwoWayGrammar$Reader.readForm(II)V -/
def xc_57 : ab_C := (52, [(3, 76, 0, []), ab_top, (1, 5, 5, [])], [], [(ab_unk, [])], [], 0)
theorem xo_57 : ab_Ok sc_P sx_sk xc_57 := ab_good_ok (env := []) (heads := [(33, [(3, 76, 0, []), ab_top, (1, 5, 5, []), (1, 0, 0, []), (1, 0, 241, []), (1, (-1), (-1), []), (1, 1, 1, [])], [(9858, (1, 0, 241, [])), (9730, ab_top)], [(0, 0, 0), (1, 1, 0)])]) (fuel := 22) (by decide +kernel) (fun _ h => absurd h List.not_mem_nil)
/-- TwoWayGrammar$Reader.readPart(I)I -/
def xc_58 : ab_C := (59, [(3, 76, 0, []), (1, 4, 4, [])], [], [(ab_top, [])], [(7685, 7686), (7690, 7691), (7698, 7699), (8704, 8705), (8832, 8833), (8960, 8961), (9088, 9089), (9216, 9217), (9344, 9345), (9472, 9473), (9600, 9601), (9730, 9732), (9857, 9861)], 7)
theorem xo_58 : ab_Ok sc_P sx_sk xc_58 := ab_good_ok (env := [xc_49, xc_51, xc_43, xc_23, xc_32, xc_52, xc_57]) (heads := []) (fuel := 53) (by decide +kernel) (List.forall_mem_cons.mpr ⟨xo_49, List.forall_mem_cons.mpr ⟨xo_51, List.forall_mem_cons.mpr ⟨xo_43, List.forall_mem_cons.mpr ⟨xo_23, List.forall_mem_cons.mpr ⟨xo_32, List.forall_mem_cons.mpr ⟨xo_52, List.forall_mem_cons.mpr ⟨xo_57, fun _ h => absurd h List.not_mem_nil⟩⟩⟩⟩⟩⟩⟩)
/-- TwoWayGrammar$Grammar.attach(III)V -/
def xc_59 : ab_C := (63, [(3, 60, 0, []), ab_top, ab_top, ab_top], [], [(ab_unk, [])], [(8320, 8321), (9088, 9089)], 1)
theorem xo_59 : ab_Ok sc_P sx_sk xc_59 := ab_good_ok (env := [xc_33, xc_45]) (heads := []) (fuel := 15) (by decide +kernel) (List.forall_mem_cons.mpr ⟨xo_33, List.forall_mem_cons.mpr ⟨xo_45, fun _ h => absurd h List.not_mem_nil⟩⟩)
/-- TwoWayGrammar$Reader.readUnit(III)I -/
def xc_60 : ab_C := (55, [(3, 76, 0, []), ab_top, ab_top, (1, 4, 4, [])], [], [(ab_top, [])], [(7685, 7686), (7690, 7691), (7698, 7699), (8320, 8321), (8704, 8705), (8832, 8833), (8960, 8961), (9088, 9089), (9216, 9217), (9344, 9345), (9472, 9473), (9600, 9601), (9730, 9732), (9857, 9861)], 8)
theorem xo_60 : ab_Ok sc_P sx_sk xc_60 := ab_good_ok (env := [xc_38, xc_25, xc_56, xc_58, xc_59, xc_46, xc_47, xc_23]) (heads := []) (fuel := 60) (by decide +kernel) (List.forall_mem_cons.mpr ⟨xo_38, List.forall_mem_cons.mpr ⟨xo_25, List.forall_mem_cons.mpr ⟨xo_56, List.forall_mem_cons.mpr ⟨xo_58, List.forall_mem_cons.mpr ⟨xo_59, List.forall_mem_cons.mpr ⟨xo_46, List.forall_mem_cons.mpr ⟨xo_47, List.forall_mem_cons.mpr ⟨xo_23, fun _ h => absurd h List.not_mem_nil⟩⟩⟩⟩⟩⟩⟩⟩)
/-- TwoWayGrammar$Reader.readItems(II)V -/
def xc_61 : ab_C := (54, [(3, 76, 0, []), ab_top, (1, 4, 4, [])], [], [(ab_unk, [])], [(7685, 7686), (7690, 7691), (7698, 7699), (8320, 8321), (8704, 8705), (8832, 8833), (8960, 8961), (9088, 9089), (9216, 9217), (9344, 9345), (9472, 9473), (9600, 9601), (9730, 9732), (9857, 9861)], 9)
theorem xo_61 : ab_Ok sc_P sx_sk xc_61 := ab_good_ok (env := [xc_60, xc_48, xc_23, xc_38]) (heads := [(11, [(3, 76, 0, []), ab_top, (1, 4, 4, []), (1, 0, 1, []), (1, 0, 1, []), ab_top, (1, 0, 61, [])], [], [(0, 0, 0), (1, 6, 0)])]) (fuel := 51) (by decide +kernel) (List.forall_mem_cons.mpr ⟨xo_60, List.forall_mem_cons.mpr ⟨xo_48, List.forall_mem_cons.mpr ⟨xo_23, List.forall_mem_cons.mpr ⟨xo_38, fun _ h => absurd h List.not_mem_nil⟩⟩⟩⟩)
/-- TwoWayGrammar$Reader.readForm(II)V -/
def xc_62 : ab_C := (52, [(3, 76, 0, []), ab_top, (1, 4, 4, [])], [], [(ab_unk, [])], [(7685, 7687), (7690, 7691), (7698, 7699), (8064, 8065), (8192, 8193), (8320, 8321), (8448, 8449), (8576, 8577), (8704, 8705), (8832, 8833), (8960, 8961), (9088, 9089), (9216, 9217), (9344, 9345), (9472, 9473), (9600, 9601), (9730, 9732), (9857, 9861)], 10)
theorem xo_62 : ab_Ok sc_P sx_sk xc_62 := ab_good_ok (env := [xc_37, xc_61, xc_23, xc_25]) (heads := [(33, [(3, 76, 0, []), ab_top, (1, 4, 4, []), (1, 0, 1, []), (1, 0, 241, []), ab_top, (1, 1, 7, [])], [], [(0, 0, 0), (1, 6, 0)])]) (fuel := 49) (by decide +kernel) (List.forall_mem_cons.mpr ⟨xo_37, List.forall_mem_cons.mpr ⟨xo_61, List.forall_mem_cons.mpr ⟨xo_23, List.forall_mem_cons.mpr ⟨xo_25, fun _ h => absurd h List.not_mem_nil⟩⟩⟩⟩)
/-- TwoWayGrammar$Reader.readPart(I)I -/
def xc_63 : ab_C := (59, [(3, 76, 0, []), (1, 3, 3, [])], [], [(ab_top, [])], [(7685, 7687), (7690, 7691), (7698, 7699), (8064, 8065), (8192, 8193), (8320, 8321), (8448, 8449), (8576, 8577), (8704, 8705), (8832, 8833), (8960, 8961), (9088, 9089), (9216, 9217), (9344, 9345), (9472, 9473), (9600, 9601), (9730, 9732), (9857, 9861)], 11)
theorem xo_63 : ab_Ok sc_P sx_sk xc_63 := ab_good_ok (env := [xc_49, xc_51, xc_43, xc_23, xc_32, xc_52, xc_62]) (heads := []) (fuel := 53) (by decide +kernel) (List.forall_mem_cons.mpr ⟨xo_49, List.forall_mem_cons.mpr ⟨xo_51, List.forall_mem_cons.mpr ⟨xo_43, List.forall_mem_cons.mpr ⟨xo_23, List.forall_mem_cons.mpr ⟨xo_32, List.forall_mem_cons.mpr ⟨xo_52, List.forall_mem_cons.mpr ⟨xo_62, fun _ h => absurd h List.not_mem_nil⟩⟩⟩⟩⟩⟩⟩)
/-- TwoWayGrammar$Reader.readUnit(III)I -/
def xc_64 : ab_C := (55, [(3, 76, 0, []), ab_top, ab_top, (1, 3, 3, [])], [], [(ab_top, [])], [(7685, 7687), (7690, 7691), (7698, 7699), (8064, 8065), (8192, 8193), (8320, 8321), (8448, 8449), (8576, 8577), (8704, 8705), (8832, 8833), (8960, 8961), (9088, 9089), (9216, 9217), (9344, 9345), (9472, 9473), (9600, 9601), (9730, 9732), (9857, 9861)], 12)
theorem xo_64 : ab_Ok sc_P sx_sk xc_64 := ab_good_ok (env := [xc_38, xc_25, xc_55, xc_63, xc_59, xc_46, xc_47, xc_23]) (heads := []) (fuel := 60) (by decide +kernel) (List.forall_mem_cons.mpr ⟨xo_38, List.forall_mem_cons.mpr ⟨xo_25, List.forall_mem_cons.mpr ⟨xo_55, List.forall_mem_cons.mpr ⟨xo_63, List.forall_mem_cons.mpr ⟨xo_59, List.forall_mem_cons.mpr ⟨xo_46, List.forall_mem_cons.mpr ⟨xo_47, List.forall_mem_cons.mpr ⟨xo_23, fun _ h => absurd h List.not_mem_nil⟩⟩⟩⟩⟩⟩⟩⟩)
/-- TwoWayGrammar$Reader.readItems(II)V -/
def xc_65 : ab_C := (54, [(3, 76, 0, []), ab_top, (1, 3, 3, [])], [], [(ab_unk, [])], [(7685, 7687), (7690, 7691), (7698, 7699), (8064, 8065), (8192, 8193), (8320, 8321), (8448, 8449), (8576, 8577), (8704, 8705), (8832, 8833), (8960, 8961), (9088, 9089), (9216, 9217), (9344, 9345), (9472, 9473), (9600, 9601), (9730, 9732), (9857, 9861)], 13)
theorem xo_65 : ab_Ok sc_P sx_sk xc_65 := ab_good_ok (env := [xc_64, xc_48, xc_23, xc_38]) (heads := [(11, [(3, 76, 0, []), ab_top, (1, 3, 3, []), (1, 0, 1, []), (1, 0, 1, []), ab_top, (1, 0, 61, [])], [], [(0, 0, 0), (1, 6, 0)])]) (fuel := 51) (by decide +kernel) (List.forall_mem_cons.mpr ⟨xo_64, List.forall_mem_cons.mpr ⟨xo_48, List.forall_mem_cons.mpr ⟨xo_23, List.forall_mem_cons.mpr ⟨xo_38, fun _ h => absurd h List.not_mem_nil⟩⟩⟩⟩)
/-- TwoWayGrammar$Reader.readForm(II)V -/
def xc_66 : ab_C := (52, [(3, 76, 0, []), ab_top, (1, 3, 3, [])], [], [(ab_unk, [])], [(7685, 7687), (7690, 7691), (7698, 7699), (8064, 8065), (8192, 8193), (8320, 8321), (8448, 8449), (8576, 8577), (8704, 8705), (8832, 8833), (8960, 8961), (9088, 9089), (9216, 9217), (9344, 9345), (9472, 9473), (9600, 9601), (9730, 9732), (9857, 9861)], 14)
theorem xo_66 : ab_Ok sc_P sx_sk xc_66 := ab_good_ok (env := [xc_37, xc_65, xc_23, xc_25]) (heads := [(33, [(3, 76, 0, []), ab_top, (1, 3, 3, []), (1, 0, 1, []), (1, 0, 241, []), ab_top, (1, 1, 7, [])], [], [(0, 0, 0), (1, 6, 0)])]) (fuel := 49) (by decide +kernel) (List.forall_mem_cons.mpr ⟨xo_37, List.forall_mem_cons.mpr ⟨xo_65, List.forall_mem_cons.mpr ⟨xo_23, List.forall_mem_cons.mpr ⟨xo_25, fun _ h => absurd h List.not_mem_nil⟩⟩⟩⟩)
/-- TwoWayGrammar$Reader.readPart(I)I -/
def xc_67 : ab_C := (59, [(3, 76, 0, []), (1, 2, 2, [])], [], [(ab_top, [])], [(7685, 7687), (7690, 7691), (7698, 7699), (8064, 8065), (8192, 8193), (8320, 8321), (8448, 8449), (8576, 8577), (8704, 8705), (8832, 8833), (8960, 8961), (9088, 9089), (9216, 9217), (9344, 9345), (9472, 9473), (9600, 9601), (9730, 9732), (9857, 9861)], 15)
theorem xo_67 : ab_Ok sc_P sx_sk xc_67 := ab_good_ok (env := [xc_49, xc_51, xc_43, xc_23, xc_32, xc_52, xc_66]) (heads := []) (fuel := 53) (by decide +kernel) (List.forall_mem_cons.mpr ⟨xo_49, List.forall_mem_cons.mpr ⟨xo_51, List.forall_mem_cons.mpr ⟨xo_43, List.forall_mem_cons.mpr ⟨xo_23, List.forall_mem_cons.mpr ⟨xo_32, List.forall_mem_cons.mpr ⟨xo_52, List.forall_mem_cons.mpr ⟨xo_66, fun _ h => absurd h List.not_mem_nil⟩⟩⟩⟩⟩⟩⟩)
/-- TwoWayGrammar$Reader.readUnit(III)I -/
def xc_68 : ab_C := (55, [(3, 76, 0, []), ab_top, ab_top, (1, 2, 2, [])], [], [(ab_top, [])], [(7685, 7687), (7690, 7691), (7698, 7699), (8064, 8065), (8192, 8193), (8320, 8321), (8448, 8449), (8576, 8577), (8704, 8705), (8832, 8833), (8960, 8961), (9088, 9089), (9216, 9217), (9344, 9345), (9472, 9473), (9600, 9601), (9730, 9732), (9857, 9861)], 16)
theorem xo_68 : ab_Ok sc_P sx_sk xc_68 := ab_good_ok (env := [xc_38, xc_25, xc_54, xc_67, xc_59, xc_46, xc_47, xc_23]) (heads := []) (fuel := 60) (by decide +kernel) (List.forall_mem_cons.mpr ⟨xo_38, List.forall_mem_cons.mpr ⟨xo_25, List.forall_mem_cons.mpr ⟨xo_54, List.forall_mem_cons.mpr ⟨xo_67, List.forall_mem_cons.mpr ⟨xo_59, List.forall_mem_cons.mpr ⟨xo_46, List.forall_mem_cons.mpr ⟨xo_47, List.forall_mem_cons.mpr ⟨xo_23, fun _ h => absurd h List.not_mem_nil⟩⟩⟩⟩⟩⟩⟩⟩)
/-- TwoWayGrammar$Reader.readItems(II)V -/
def xc_69 : ab_C := (54, [(3, 76, 0, []), ab_top, (1, 2, 2, [])], [], [(ab_unk, [])], [(7685, 7687), (7690, 7691), (7698, 7699), (8064, 8065), (8192, 8193), (8320, 8321), (8448, 8449), (8576, 8577), (8704, 8705), (8832, 8833), (8960, 8961), (9088, 9089), (9216, 9217), (9344, 9345), (9472, 9473), (9600, 9601), (9730, 9732), (9857, 9861)], 17)
theorem xo_69 : ab_Ok sc_P sx_sk xc_69 := ab_good_ok (env := [xc_68, xc_48, xc_23, xc_38]) (heads := [(11, [(3, 76, 0, []), ab_top, (1, 2, 2, []), (1, 0, 1, []), (1, 0, 1, []), ab_top, (1, 0, 61, [])], [], [(0, 0, 0), (1, 6, 0)])]) (fuel := 51) (by decide +kernel) (List.forall_mem_cons.mpr ⟨xo_68, List.forall_mem_cons.mpr ⟨xo_48, List.forall_mem_cons.mpr ⟨xo_23, List.forall_mem_cons.mpr ⟨xo_38, fun _ h => absurd h List.not_mem_nil⟩⟩⟩⟩)
/-- TwoWayGrammar$Reader.readForm(II)V -/
def xc_70 : ab_C := (52, [(3, 76, 0, []), ab_top, (1, 2, 2, [])], [], [(ab_unk, [])], [(7685, 7687), (7690, 7691), (7698, 7699), (8064, 8065), (8192, 8193), (8320, 8321), (8448, 8449), (8576, 8577), (8704, 8705), (8832, 8833), (8960, 8961), (9088, 9089), (9216, 9217), (9344, 9345), (9472, 9473), (9600, 9601), (9730, 9732), (9857, 9861)], 18)
theorem xo_70 : ab_Ok sc_P sx_sk xc_70 := ab_good_ok (env := [xc_37, xc_69, xc_23, xc_25]) (heads := [(33, [(3, 76, 0, []), ab_top, (1, 2, 2, []), (1, 0, 1, []), (1, 0, 241, []), ab_top, (1, 1, 7, [])], [], [(0, 0, 0), (1, 6, 0)])]) (fuel := 49) (by decide +kernel) (List.forall_mem_cons.mpr ⟨xo_37, List.forall_mem_cons.mpr ⟨xo_69, List.forall_mem_cons.mpr ⟨xo_23, List.forall_mem_cons.mpr ⟨xo_25, fun _ h => absurd h List.not_mem_nil⟩⟩⟩⟩)
/-- TwoWayGrammar$Reader.readPart(I)I -/
def xc_71 : ab_C := (59, [(3, 76, 0, []), (1, 1, 1, [])], [], [(ab_top, [])], [(7685, 7687), (7690, 7691), (7698, 7699), (8064, 8065), (8192, 8193), (8320, 8321), (8448, 8449), (8576, 8577), (8704, 8705), (8832, 8833), (8960, 8961), (9088, 9089), (9216, 9217), (9344, 9345), (9472, 9473), (9600, 9601), (9730, 9732), (9857, 9861)], 19)
theorem xo_71 : ab_Ok sc_P sx_sk xc_71 := ab_good_ok (env := [xc_49, xc_51, xc_43, xc_23, xc_32, xc_52, xc_70]) (heads := []) (fuel := 53) (by decide +kernel) (List.forall_mem_cons.mpr ⟨xo_49, List.forall_mem_cons.mpr ⟨xo_51, List.forall_mem_cons.mpr ⟨xo_43, List.forall_mem_cons.mpr ⟨xo_23, List.forall_mem_cons.mpr ⟨xo_32, List.forall_mem_cons.mpr ⟨xo_52, List.forall_mem_cons.mpr ⟨xo_70, fun _ h => absurd h List.not_mem_nil⟩⟩⟩⟩⟩⟩⟩)
/-- TwoWayGrammar$Reader.readUnit(III)I -/
def xc_72 : ab_C := (55, [(3, 76, 0, []), ab_top, ab_top, (1, 1, 1, [])], [], [(ab_top, [])], [(7685, 7687), (7690, 7691), (7698, 7699), (8064, 8065), (8192, 8193), (8320, 8321), (8448, 8449), (8576, 8577), (8704, 8705), (8832, 8833), (8960, 8961), (9088, 9089), (9216, 9217), (9344, 9345), (9472, 9473), (9600, 9601), (9730, 9732), (9857, 9861)], 20)
theorem xo_72 : ab_Ok sc_P sx_sk xc_72 := ab_good_ok (env := [xc_38, xc_25, xc_53, xc_71, xc_59, xc_46, xc_47, xc_23]) (heads := []) (fuel := 60) (by decide +kernel) (List.forall_mem_cons.mpr ⟨xo_38, List.forall_mem_cons.mpr ⟨xo_25, List.forall_mem_cons.mpr ⟨xo_53, List.forall_mem_cons.mpr ⟨xo_71, List.forall_mem_cons.mpr ⟨xo_59, List.forall_mem_cons.mpr ⟨xo_46, List.forall_mem_cons.mpr ⟨xo_47, List.forall_mem_cons.mpr ⟨xo_23, fun _ h => absurd h List.not_mem_nil⟩⟩⟩⟩⟩⟩⟩⟩)
/-- TwoWayGrammar$Reader.readItems(II)V -/
def xc_73 : ab_C := (54, [(3, 76, 0, []), ab_top, (1, 1, 1, [])], [], [(ab_unk, [])], [(7685, 7687), (7690, 7691), (7698, 7699), (8064, 8065), (8192, 8193), (8320, 8321), (8448, 8449), (8576, 8577), (8704, 8705), (8832, 8833), (8960, 8961), (9088, 9089), (9216, 9217), (9344, 9345), (9472, 9473), (9600, 9601), (9730, 9732), (9857, 9861)], 21)
theorem xo_73 : ab_Ok sc_P sx_sk xc_73 := ab_good_ok (env := [xc_72, xc_48, xc_23, xc_38]) (heads := [(11, [(3, 76, 0, []), ab_top, (1, 1, 1, []), (1, 0, 1, []), (1, 0, 1, []), ab_top, (1, 0, 61, [])], [], [(0, 0, 0), (1, 6, 0)])]) (fuel := 51) (by decide +kernel) (List.forall_mem_cons.mpr ⟨xo_72, List.forall_mem_cons.mpr ⟨xo_48, List.forall_mem_cons.mpr ⟨xo_23, List.forall_mem_cons.mpr ⟨xo_38, fun _ h => absurd h List.not_mem_nil⟩⟩⟩⟩)
/-- TwoWayGrammar$Reader.readForm(II)V -/
def xc_74 : ab_C := (52, [(3, 76, 0, []), ab_top, (1, 1, 1, [])], [], [(ab_unk, [])], [(7685, 7687), (7690, 7691), (7698, 7699), (8064, 8065), (8192, 8193), (8320, 8321), (8448, 8449), (8576, 8577), (8704, 8705), (8832, 8833), (8960, 8961), (9088, 9089), (9216, 9217), (9344, 9345), (9472, 9473), (9600, 9601), (9730, 9732), (9857, 9861)], 22)
theorem xo_74 : ab_Ok sc_P sx_sk xc_74 := ab_good_ok (env := [xc_37, xc_73, xc_23, xc_25]) (heads := [(33, [(3, 76, 0, []), ab_top, (1, 1, 1, []), (1, 0, 1, []), (1, 0, 241, []), ab_top, (1, 1, 7, [])], [], [(0, 0, 0), (1, 6, 0)])]) (fuel := 49) (by decide +kernel) (List.forall_mem_cons.mpr ⟨xo_37, List.forall_mem_cons.mpr ⟨xo_73, List.forall_mem_cons.mpr ⟨xo_23, List.forall_mem_cons.mpr ⟨xo_25, fun _ h => absurd h List.not_mem_nil⟩⟩⟩⟩)
/-- TwoWayGrammar$Reader.readPart(I)I -/
def xc_75 : ab_C := (59, [(3, 76, 0, []), (1, 0, 0, [])], [], [(ab_top, [])], [(7685, 7687), (7690, 7691), (7698, 7699), (8064, 8065), (8192, 8193), (8320, 8321), (8448, 8449), (8576, 8577), (8704, 8705), (8832, 8833), (8960, 8961), (9088, 9089), (9216, 9217), (9344, 9345), (9472, 9473), (9600, 9601), (9730, 9732), (9857, 9861)], 23)
theorem xo_75 : ab_Ok sc_P sx_sk xc_75 := ab_good_ok (env := [xc_49, xc_51, xc_43, xc_23, xc_32, xc_52, xc_74]) (heads := []) (fuel := 53) (by decide +kernel) (List.forall_mem_cons.mpr ⟨xo_49, List.forall_mem_cons.mpr ⟨xo_51, List.forall_mem_cons.mpr ⟨xo_43, List.forall_mem_cons.mpr ⟨xo_23, List.forall_mem_cons.mpr ⟨xo_32, List.forall_mem_cons.mpr ⟨xo_52, List.forall_mem_cons.mpr ⟨xo_74, fun _ h => absurd h List.not_mem_nil⟩⟩⟩⟩⟩⟩⟩)
/-- TwoWayGrammar$Reader.readUnit(III)I -/
def xc_76 : ab_C := (55, [(3, 76, 0, []), ab_top, ab_top, (1, 0, 0, [])], [], [(ab_top, [])], [(7685, 7687), (7690, 7691), (7698, 7699), (8064, 8065), (8192, 8193), (8320, 8321), (8448, 8449), (8576, 8577), (8704, 8705), (8832, 8833), (8960, 8961), (9088, 9089), (9216, 9217), (9344, 9345), (9472, 9473), (9600, 9601), (9730, 9732), (9857, 9861)], 24)
theorem xo_76 : ab_Ok sc_P sx_sk xc_76 := ab_good_ok (env := [xc_38, xc_25, xc_41, xc_75, xc_59, xc_46, xc_47, xc_23]) (heads := []) (fuel := 60) (by decide +kernel) (List.forall_mem_cons.mpr ⟨xo_38, List.forall_mem_cons.mpr ⟨xo_25, List.forall_mem_cons.mpr ⟨xo_41, List.forall_mem_cons.mpr ⟨xo_75, List.forall_mem_cons.mpr ⟨xo_59, List.forall_mem_cons.mpr ⟨xo_46, List.forall_mem_cons.mpr ⟨xo_47, List.forall_mem_cons.mpr ⟨xo_23, fun _ h => absurd h List.not_mem_nil⟩⟩⟩⟩⟩⟩⟩⟩)
/-- TwoWayGrammar$Reader.readItems(II)V -/
def xc_77 : ab_C := (54, [(3, 76, 0, []), ab_top, (1, 0, 0, [])], [], [(ab_unk, [])], [(7685, 7687), (7690, 7691), (7698, 7699), (8064, 8065), (8192, 8193), (8320, 8321), (8448, 8449), (8576, 8577), (8704, 8705), (8832, 8833), (8960, 8961), (9088, 9089), (9216, 9217), (9344, 9345), (9472, 9473), (9600, 9601), (9730, 9732), (9857, 9861)], 25)
theorem xo_77 : ab_Ok sc_P sx_sk xc_77 := ab_good_ok (env := [xc_76, xc_48, xc_23, xc_38]) (heads := [(11, [(3, 76, 0, []), ab_top, (1, 0, 0, []), (1, 0, 1, []), (1, 0, 1, []), ab_top, (1, 0, 61, [])], [], [(0, 0, 0), (1, 6, 0)])]) (fuel := 51) (by decide +kernel) (List.forall_mem_cons.mpr ⟨xo_76, List.forall_mem_cons.mpr ⟨xo_48, List.forall_mem_cons.mpr ⟨xo_23, List.forall_mem_cons.mpr ⟨xo_38, fun _ h => absurd h List.not_mem_nil⟩⟩⟩⟩)
/-- TwoWayGrammar$Reader.readForm(II)V -/
def xc_78 : ab_C := (52, [(3, 76, 0, []), ab_top, (1, 0, 0, [])], [], [(ab_unk, [])], [(7685, 7687), (7690, 7691), (7698, 7699), (8064, 8065), (8192, 8193), (8320, 8321), (8448, 8449), (8576, 8577), (8704, 8705), (8832, 8833), (8960, 8961), (9088, 9089), (9216, 9217), (9344, 9345), (9472, 9473), (9600, 9601), (9730, 9732), (9857, 9861)], 26)
theorem xo_78 : ab_Ok sc_P sx_sk xc_78 := ab_good_ok (env := [xc_37, xc_77, xc_23, xc_25]) (heads := [(33, [(3, 76, 0, []), ab_top, (1, 0, 0, []), (1, 0, 1, []), (1, 0, 241, []), ab_top, (1, 1, 7, [])], [], [(0, 0, 0), (1, 6, 0)])]) (fuel := 49) (by decide +kernel) (List.forall_mem_cons.mpr ⟨xo_37, List.forall_mem_cons.mpr ⟨xo_77, List.forall_mem_cons.mpr ⟨xo_23, List.forall_mem_cons.mpr ⟨xo_25, fun _ h => absurd h List.not_mem_nil⟩⟩⟩⟩)
/-- TwoWayGrammar.at([II)I -/
def xc_79 : ab_C := (49, [(3, 68, 0, []), ab_top], [], [(ab_top, [])], [], 0)
theorem xo_79 : ab_Ok sc_P sx_sk xc_79 := ab_good_ok (env := []) (heads := []) (fuel := 16) (by decide +kernel) (fun _ h => absurd h List.not_mem_nil)
/-- TwoWayGrammar.at([II)I -/
def xc_80 : ab_C := (49, [(3, 69, 0, []), ab_top], [], [(ab_top, [])], [], 0)
theorem xo_80 : ab_Ok sc_P sx_sk xc_80 := ab_good_ok (env := []) (heads := []) (fuel := 16) (by decide +kernel) (fun _ h => absurd h List.not_mem_nil)
/-- TwoWayGrammar.at([II)I -/
def xc_81 : ab_C := (49, [(3, 70, 0, []), ab_top], [], [(ab_top, [])], [], 0)
theorem xo_81 : ab_Ok sc_P sx_sk xc_81 := ab_good_ok (env := []) (heads := []) (fuel := 16) (by decide +kernel) (fun _ h => absurd h List.not_mem_nil)
/-- TwoWayGrammar$Reader.nameUses()V -/
def xc_82 : ab_C := (64, [(3, 76, 0, [])], [], [(ab_unk, [])], [(8832, 8833), (9730, 9732)], 2)
theorem xo_82 : ab_Ok sc_P sx_sk xc_82 := ab_good_ok (env := [xc_79, xc_80, xc_30, xc_43, xc_81, xc_25]) (heads := [(2, [(3, 76, 0, []), (1, 0, 2147483647, []), ab_unk], [], [(0, 0, 0), (1, 1, 0)])]) (fuel := 49) (by decide +kernel) (List.forall_mem_cons.mpr ⟨xo_79, List.forall_mem_cons.mpr ⟨xo_80, List.forall_mem_cons.mpr ⟨xo_30, List.forall_mem_cons.mpr ⟨xo_43, List.forall_mem_cons.mpr ⟨xo_81, List.forall_mem_cons.mpr ⟨xo_25, fun _ h => absurd h List.not_mem_nil⟩⟩⟩⟩⟩⟩)
/-- TwoWayGrammar$Reader.read()I -/
def xc_83 : ab_C := (14, [(3, 76, 0, [])], [], [(ab_top, [])], [(7680, 7681), (7685, 7687), (7690, 7691), (7698, 7699), (7808, 7809), (7936, 7937), (8064, 8065), (8192, 8193), (8320, 8321), (8448, 8449), (8576, 8577), (8704, 8705), (8832, 8833), (8960, 8961), (9088, 9089), (9216, 9217), (9344, 9345), (9472, 9473), (9600, 9601), (9730, 9732), (9857, 9861)], 27)
theorem xo_83 : ab_Ok sc_P sx_sk xc_83 := ab_good_ok (env := [xc_4, xc_24, xc_31, xc_32, xc_78, xc_82]) (heads := [(26, [(3, 76, 0, []), (1, 0, 11, []), ab_unk], [], [(0, 0, 0), (1, 1, 0)])]) (fuel := 33) (by decide +kernel) (List.forall_mem_cons.mpr ⟨xo_4, List.forall_mem_cons.mpr ⟨xo_24, List.forall_mem_cons.mpr ⟨xo_31, List.forall_mem_cons.mpr ⟨xo_32, List.forall_mem_cons.mpr ⟨xo_78, List.forall_mem_cons.mpr ⟨xo_82, fun _ h => absurd h List.not_mem_nil⟩⟩⟩⟩⟩⟩)
/-- TwoWayGrammar.put([III)V -/
def xc_84 : ab_C := (16, [(3, 79, 0, []), ab_top, ab_top], [], [(ab_unk, [])], [(10112, 10113)], 0)
theorem xo_84 : ab_Ok sc_P sx_sk xc_84 := ab_good_ok (env := []) (heads := []) (fuel := 16) (by decide +kernel) (fun _ h => absurd h List.not_mem_nil)
/-- TwoWayGrammar.put([JIJ)V -/
def xc_85 : ab_C := (66, [(3, 80, 0, []), ab_top, ab_topL], [], [(ab_unk, [])], [(10240, 10241)], 0)
theorem xo_85 : ab_Ok sc_P sx_sk xc_85 := ab_good_ok (env := []) (heads := []) (fuel := 16) (by decide +kernel) (fun _ h => absurd h List.not_mem_nil)
/-- TwoWayGrammar.put([JIJ)V -/
def xc_86 : ab_C := (66, [(3, 81, 0, []), ab_top, ab_topL], [], [(ab_unk, [])], [(10368, 10369)], 0)
theorem xo_86 : ab_Ok sc_P sx_sk xc_86 := ab_good_ok (env := []) (heads := []) (fuel := 16) (by decide +kernel) (fun _ h => absurd h List.not_mem_nil)
/-- TwoWayGrammar.put([III)V -/
def xc_87 : ab_C := (16, [(3, 82, 0, []), ab_top, ab_top], [], [(ab_unk, [])], [(10496, 10497)], 0)
theorem xo_87 : ab_Ok sc_P sx_sk xc_87 := ab_good_ok (env := []) (heads := []) (fuel := 16) (by decide +kernel) (fun _ h => absurd h List.not_mem_nil)
/-- TwoWayGrammar.put([III)V -/
def xc_88 : ab_C := (16, [(3, 83, 0, []), ab_top, ab_top], [], [(ab_unk, [])], [(10624, 10625)], 0)
theorem xo_88 : ab_Ok sc_P sx_sk xc_88 := ab_good_ok (env := []) (heads := []) (fuel := 16) (by decide +kernel) (fun _ h => absurd h List.not_mem_nil)
/-- TwoWayGrammar.at([II)I -/
def xc_89 : ab_C := (49, [(3, 63, 0, []), ab_top], [], [(ab_top, [])], [], 0)
theorem xo_89 : ab_Ok sc_P sx_sk xc_89 := ab_good_ok (env := []) (heads := []) (fuel := 16) (by decide +kernel) (fun _ h => absurd h List.not_mem_nil)
/-- TwoWayGrammar.at([II)I -/
def xc_90 : ab_C := (49, [(3, 65, 0, []), ab_top], [], [(ab_top, [])], [], 0)
theorem xo_90 : ab_Ok sc_P sx_sk xc_90 := ab_good_ok (env := []) (heads := []) (fuel := 16) (by decide +kernel) (fun _ h => absurd h List.not_mem_nil)
/-- TwoWayGrammar$Grammar.formIn(I)I -/
def xc_91 : ab_C := (71, [(3, 60, 0, []), ab_top], [], [(ab_top, [])], [], 1)
theorem xo_91 : ab_Ok sc_P sx_sk xc_91 := ab_good_ok (env := [xc_79, xc_80]) (heads := []) (fuel := 22) (by decide +kernel) (List.forall_mem_cons.mpr ⟨xo_79, List.forall_mem_cons.mpr ⟨xo_80, fun _ h => absurd h List.not_mem_nil⟩⟩)
/-- TwoWayGrammar.at([II)I -/
def xc_92 : ab_C := (49, [(3, 79, 0, []), ab_top], [], [(ab_top, [])], [], 0)
theorem xo_92 : ab_Ok sc_P sx_sk xc_92 := ab_good_ok (env := []) (heads := []) (fuel := 16) (by decide +kernel) (fun _ h => absurd h List.not_mem_nil)
/-- TwoWayGrammar.put([III)V -/
def xc_93 : ab_C := (16, [(3, 89, 0, []), ab_top, ab_top], [], [(ab_unk, [])], [(11392, 11393)], 0)
theorem xo_93 : ab_Ok sc_P sx_sk xc_93 := ab_good_ok (env := []) (heads := []) (fuel := 16) (by decide +kernel) (fun _ h => absurd h List.not_mem_nil)
/-- TwoWayGrammar.at([JI)J -/
def xc_94 : ab_C := (72, [(3, 80, 0, []), ab_top], [], [(ab_topL, [])], [], 0)
theorem xo_94 : ab_Ok sc_P sx_sk xc_94 := ab_good_ok (env := []) (heads := []) (fuel := 16) (by decide +kernel) (fun _ h => absurd h List.not_mem_nil)
/-- TwoWayGrammar.put([JIJ)V -/
def xc_95 : ab_C := (66, [(3, 90, 0, []), ab_top, ab_topL], [], [(ab_unk, [])], [(11520, 11521)], 0)
theorem xo_95 : ab_Ok sc_P sx_sk xc_95 := ab_good_ok (env := []) (heads := []) (fuel := 16) (by decide +kernel) (fun _ h => absurd h List.not_mem_nil)
/-- TwoWayGrammar$Sets.refreshPart(I)V -/
def xc_96 : ab_C := (70, [(3, 78, 0, []), ab_top], [], [(ab_unk, [])], [(11392, 11393), (11520, 11521)], 2)
theorem xo_96 : ab_Ok sc_P sx_sk xc_96 := ab_good_ok (env := [xc_91, xc_92, xc_93, xc_94, xc_95, xc_79, xc_80]) (heads := []) (fuel := 58) (by decide +kernel) (List.forall_mem_cons.mpr ⟨xo_91, List.forall_mem_cons.mpr ⟨xo_92, List.forall_mem_cons.mpr ⟨xo_93, List.forall_mem_cons.mpr ⟨xo_94, List.forall_mem_cons.mpr ⟨xo_95, List.forall_mem_cons.mpr ⟨xo_79, List.forall_mem_cons.mpr ⟨xo_80, fun _ h => absurd h List.not_mem_nil⟩⟩⟩⟩⟩⟩⟩)
/-- TwoWayGrammar.at([JI)J -/
def xc_97 : ab_C := (72, [(3, 90, 0, []), ab_top], [], [(ab_topL, [])], [], 0)
theorem xo_97 : ab_Ok sc_P sx_sk xc_97 := ab_good_ok (env := []) (heads := []) (fuel := 16) (by decide +kernel) (fun _ h => absurd h List.not_mem_nil)
/-- TwoWayGrammar.at([II)I -/
def xc_98 : ab_C := (49, [(3, 83, 0, []), ab_top], [], [(ab_top, [])], [], 0)
theorem xo_98 : ab_Ok sc_P sx_sk xc_98 := ab_good_ok (env := []) (heads := []) (fuel := 16) (by decide +kernel) (fun _ h => absurd h List.not_mem_nil)
/-- TwoWayGrammar$Sets.begins(I)I -/
def xc_99 : ab_C := (73, [(3, 78, 0, []), ab_top], [], [(ab_top, [])], [], 2)
theorem xo_99 : ab_Ok sc_P sx_sk xc_99 := ab_good_ok (env := [xc_91, xc_79, xc_98]) (heads := []) (fuel := 32) (by decide +kernel) (List.forall_mem_cons.mpr ⟨xo_91, List.forall_mem_cons.mpr ⟨xo_79, List.forall_mem_cons.mpr ⟨xo_98, fun _ h => absurd h List.not_mem_nil⟩⟩⟩)
/-- TwoWayGrammar.at([II)I -/
def xc_100 : ab_C := (49, [(3, 72, 0, []), ab_top], [], [(ab_top, [])], [], 0)
theorem xo_100 : ab_Ok sc_P sx_sk xc_100 := ab_good_ok (env := []) (heads := []) (fuel := 16) (by decide +kernel) (fun _ h => absurd h List.not_mem_nil)
/-- TwoWayGrammar.at([II)I -/
def xc_101 : ab_C := (49, [(3, 89, 0, []), ab_top], [], [(ab_top, [])], [], 0)
theorem xo_101 : ab_Ok sc_P sx_sk xc_101 := ab_good_ok (env := []) (heads := []) (fuel := 16) (by decide +kernel) (fun _ h => absurd h List.not_mem_nil)
/-- TwoWayGrammar$Sets.mayBePassed(I)Z -/
def xc_102 : ab_C := (74, [(3, 78, 0, []), ab_top], [], [((1, 0, 1, []), [])], [], 1)
theorem xo_102 : ab_Ok sc_P sx_sk xc_102 := ab_good_ok (env := [xc_100, xc_101]) (heads := []) (fuel := 20) (by decide +kernel) (List.forall_mem_cons.mpr ⟨xo_100, List.forall_mem_cons.mpr ⟨xo_101, fun _ h => absurd h List.not_mem_nil⟩⟩)
/-- TwoWayGrammar.at([II)I -/
def xc_103 : ab_C := (49, [(3, 82, 0, []), ab_top], [], [(ab_top, [])], [], 0)
theorem xo_103 : ab_Ok sc_P sx_sk xc_103 := ab_good_ok (env := []) (heads := []) (fuel := 16) (by decide +kernel) (fun _ h => absurd h List.not_mem_nil)
/-- TwoWayGrammar$Sets.height(I)I -/
def xc_104 : ab_C := (75, [(3, 78, 0, []), ab_top], [], [(ab_top, [])], [], 2)
theorem xo_104 : ab_Ok sc_P sx_sk xc_104 := ab_good_ok (env := [xc_91, xc_100, xc_103, xc_79]) (heads := []) (fuel := 38) (by decide +kernel) (List.forall_mem_cons.mpr ⟨xo_91, List.forall_mem_cons.mpr ⟨xo_100, List.forall_mem_cons.mpr ⟨xo_103, List.forall_mem_cons.mpr ⟨xo_79, fun _ h => absurd h List.not_mem_nil⟩⟩⟩⟩)
/-- TwoWayGrammar.at([II)I -/
def xc_105 : ab_C := (49, [(3, 71, 0, []), ab_top], [], [(ab_top, [])], [], 0)
theorem xo_105 : ab_Ok sc_P sx_sk xc_105 := ab_good_ok (env := []) (heads := []) (fuel := 16) (by decide +kernel) (fun _ h => absurd h List.not_mem_nil)
/-- TwoWayGrammar.put([III)V -/
def xc_106 : ab_C := (16, [(3, 84, 0, []), ab_top, ab_top], [], [(ab_unk, [])], [(10752, 10753)], 0)
theorem xo_106 : ab_Ok sc_P sx_sk xc_106 := ab_good_ok (env := []) (heads := []) (fuel := 16) (by decide +kernel) (fun _ h => absurd h List.not_mem_nil)
/-- TwoWayGrammar.put([JIJ)V -/
def xc_107 : ab_C := (66, [(3, 85, 0, []), ab_top, ab_topL], [], [(ab_unk, [])], [(10880, 10881)], 0)
theorem xo_107 : ab_Ok sc_P sx_sk xc_107 := ab_good_ok (env := []) (heads := []) (fuel := 16) (by decide +kernel) (fun _ h => absurd h List.not_mem_nil)
/-- TwoWayGrammar.put([III)V -/
def xc_108 : ab_C := (16, [(3, 86, 0, []), ab_top, ab_top], [], [(ab_unk, [])], [(11008, 11009)], 0)
theorem xo_108 : ab_Ok sc_P sx_sk xc_108 := ab_good_ok (env := []) (heads := []) (fuel := 16) (by decide +kernel) (fun _ h => absurd h List.not_mem_nil)
/-- TwoWayGrammar.put([III)V -/
def xc_109 : ab_C := (16, [(3, 87, 0, []), ab_top, ab_top], [], [(ab_unk, [])], [(11136, 11137)], 0)
theorem xo_109 : ab_Ok sc_P sx_sk xc_109 := ab_good_ok (env := []) (heads := []) (fuel := 16) (by decide +kernel) (fun _ h => absurd h List.not_mem_nil)
/-- TwoWayGrammar$Sets.refreshAlternative(I)V -/
def xc_110 : ab_C := (69, [(3, 78, 0, []), ab_top], [], [(ab_unk, [])], [(10752, 10753), (10880, 10881), (11008, 11009), (11136, 11137), (11392, 11393), (11520, 11521)], 3)
theorem xo_110 : ab_Ok sc_P sx_sk xc_110 := ab_good_ok (env := [xc_90, xc_96, xc_97, xc_99, xc_102, xc_104, xc_105, xc_106, xc_107, xc_108, xc_109]) (heads := [(26, [(3, 78, 0, []), ab_top, (1, 0, 1, []), ab_topL, ab_unk, ab_top, (1, 0, 2147483647, []), ab_top, (1, 0, 60, [])], [], [(0, 0, 0), (1, 8, 0)])]) (fuel := 53) (by decide +kernel) (List.forall_mem_cons.mpr ⟨xo_90, List.forall_mem_cons.mpr ⟨xo_96, List.forall_mem_cons.mpr ⟨xo_97, List.forall_mem_cons.mpr ⟨xo_99, List.forall_mem_cons.mpr ⟨xo_102, List.forall_mem_cons.mpr ⟨xo_104, List.forall_mem_cons.mpr ⟨xo_105, List.forall_mem_cons.mpr ⟨xo_106, List.forall_mem_cons.mpr ⟨xo_107, List.forall_mem_cons.mpr ⟨xo_108, List.forall_mem_cons.mpr ⟨xo_109, fun _ h => absurd h List.not_mem_nil⟩⟩⟩⟩⟩⟩⟩⟩⟩⟩⟩)
/-- TwoWayGrammar.at([II)I -/
def xc_111 : ab_C := (49, [(3, 84, 0, []), ab_top], [], [(ab_top, [])], [], 0)
theorem xo_111 : ab_Ok sc_P sx_sk xc_111 := ab_good_ok (env := []) (heads := []) (fuel := 16) (by decide +kernel) (fun _ h => absurd h List.not_mem_nil)
/-- TwoWayGrammar.at([JI)J -/
def xc_112 : ab_C := (72, [(3, 85, 0, []), ab_top], [], [(ab_topL, [])], [], 0)
theorem xo_112 : ab_Ok sc_P sx_sk xc_112 := ab_good_ok (env := []) (heads := []) (fuel := 16) (by decide +kernel) (fun _ h => absurd h List.not_mem_nil)
/-- TwoWayGrammar.at([II)I -/
def xc_113 : ab_C := (49, [(3, 86, 0, []), ab_top], [], [(ab_top, [])], [], 0)
theorem xo_113 : ab_Ok sc_P sx_sk xc_113 := ab_good_ok (env := []) (heads := []) (fuel := 16) (by decide +kernel) (fun _ h => absurd h List.not_mem_nil)
/-- TwoWayGrammar.at([II)I -/
def xc_114 : ab_C := (49, [(3, 87, 0, []), ab_top], [], [(ab_top, [])], [], 0)
theorem xo_114 : ab_Ok sc_P sx_sk xc_114 := ab_good_ok (env := []) (heads := []) (fuel := 16) (by decide +kernel) (fun _ h => absurd h List.not_mem_nil)
/-- TwoWayGrammar.at([II)I -/
def xc_115 : ab_C := (49, [(3, 66, 0, []), ab_top], [], [(ab_top, [])], [], 0)
theorem xo_115 : ab_Ok sc_P sx_sk xc_115 := ab_good_ok (env := []) (heads := []) (fuel := 16) (by decide +kernel) (fun _ h => absurd h List.not_mem_nil)
/-- TwoWayGrammar$Sets.refreshForm(I)V -/
def xc_116 : ab_C := (68, [(3, 78, 0, []), ab_top], [], [(ab_unk, [])], [(9999, 10000), (10112, 10113), (10240, 10241), (10496, 10497), (10624, 10625), (10752, 10753), (10880, 10881), (11008, 11009), (11136, 11137), (11392, 11393), (11520, 11521)], 4)
theorem xo_116 : ab_Ok sc_P sx_sk xc_116 := ab_good_ok (env := [xc_89, xc_36, xc_110, xc_111, xc_112, xc_113, xc_114, xc_115, xc_92, xc_94, xc_98, xc_103, xc_84, xc_85, xc_88, xc_87]) (heads := [(28, [(3, 78, 0, []), ab_top, ab_top, ab_topL, ab_unk, ab_top, (1, (-2147483648), 1000, []), ab_top, (1, 0, 6, [])], [], [(0, 0, 0), (1, 8, 0)])]) (fuel := 68) (by decide +kernel) (List.forall_mem_cons.mpr ⟨xo_89, List.forall_mem_cons.mpr ⟨xo_36, List.forall_mem_cons.mpr ⟨xo_110, List.forall_mem_cons.mpr ⟨xo_111, List.forall_mem_cons.mpr ⟨xo_112, List.forall_mem_cons.mpr ⟨xo_113, List.forall_mem_cons.mpr ⟨xo_114, List.forall_mem_cons.mpr ⟨xo_115, List.forall_mem_cons.mpr ⟨xo_92, List.forall_mem_cons.mpr ⟨xo_94, List.forall_mem_cons.mpr ⟨xo_98, List.forall_mem_cons.mpr ⟨xo_103, List.forall_mem_cons.mpr ⟨xo_84, List.forall_mem_cons.mpr ⟨xo_85, List.forall_mem_cons.mpr ⟨xo_88, List.forall_mem_cons.mpr ⟨xo_87, fun _ h => absurd h List.not_mem_nil⟩⟩⟩⟩⟩⟩⟩⟩⟩⟩⟩⟩⟩⟩⟩⟩)
/-- TwoWayGrammar$Sets.spreadStarts()V -/
def xc_117 : ab_C := (67, [(3, 78, 0, [])], [], [(ab_unk, [])], [(9999, 10000), (10112, 10113), (10240, 10241), (10496, 10497), (10624, 10625), (10752, 10753), (10880, 10881), (11008, 11009), (11136, 11137), (11392, 11393), (11520, 11521)], 5)
theorem xo_117 : ab_Ok sc_P sx_sk xc_117 := ab_good_ok (env := [xc_116]) (heads := [(7, [(3, 78, 0, []), (1, 0, 100000, []), ab_unk], [], [(0, 0, 0), (1, 1, 0)]), (28, [(3, 78, 0, []), (1, 0, 99999, []), (1, (-1), 69, [])], [], [(0, 0, 0), (1, 1, 0), (0, 0, 0), (2, 2, 0)])]) (fuel := 17) (by decide +kernel) (List.forall_mem_cons.mpr ⟨xo_116, fun _ h => absurd h List.not_mem_nil⟩)
/-- TwoWayGrammar.at([JI)J -/
def xc_118 : ab_C := (72, [(3, 81, 0, []), ab_top], [], [(ab_topL, [])], [], 0)
theorem xo_118 : ab_Ok sc_P sx_sk xc_118 := ab_good_ok (env := []) (heads := []) (fuel := 16) (by decide +kernel) (fun _ h => absurd h List.not_mem_nil)
/-- TwoWayGrammar$Sets.startsFrom(IJ)J -/
def xc_119 : ab_C := (78, [(3, 78, 0, []), ab_top, ab_topL], [], [(ab_topL, [])], [], 2)
theorem xo_119 : ab_Ok sc_P sx_sk xc_119 := ab_good_ok (env := [xc_97, xc_102, xc_105]) (heads := [(12, [(3, 78, 0, []), ab_top, ab_topL, ab_unk, ab_topL, ab_unk, (1, 0, 1, []), ab_top, (1, 0, 60, [])], [], [(0, 0, 0), (1, 8, 0)])]) (fuel := 33) (by decide +kernel) (List.forall_mem_cons.mpr ⟨xo_97, List.forall_mem_cons.mpr ⟨xo_102, List.forall_mem_cons.mpr ⟨xo_105, fun _ h => absurd h List.not_mem_nil⟩⟩⟩)
/-- TwoWayGrammar.put([JIJ)V -/
def xc_120 : ab_C := (66, [(3, 91, 0, []), ab_top, ab_topL], [], [(ab_unk, [])], [(11648, 11649)], 0)
theorem xo_120 : ab_Ok sc_P sx_sk xc_120 := ab_good_ok (env := []) (heads := []) (fuel := 16) (by decide +kernel) (fun _ h => absurd h List.not_mem_nil)
/-- TwoWayGrammar$Sets.spreadInto(IJ)V -/
def xc_121 : ab_C := (77, [(3, 78, 0, []), ab_top, ab_topL], [], [(ab_unk, [])], [(9999, 10000), (10368, 10369), (11648, 11649)], 3)
theorem xo_121 : ab_Ok sc_P sx_sk xc_121 := ab_good_ok (env := [xc_90, xc_105, xc_119, xc_120, xc_100, xc_97, xc_91, xc_118, xc_86]) (heads := [(16, [(3, 78, 0, []), ab_top, ab_topL, ab_unk, ab_top, (1, 0, 60, []), ab_unk, ab_unk, ab_unk, ab_unk, ab_unk, ab_unk], [], [(0, 0, 0), (1, 5, 0)])]) (fuel := 79) (by decide +kernel) (List.forall_mem_cons.mpr ⟨xo_90, List.forall_mem_cons.mpr ⟨xo_105, List.forall_mem_cons.mpr ⟨xo_119, List.forall_mem_cons.mpr ⟨xo_120, List.forall_mem_cons.mpr ⟨xo_100, List.forall_mem_cons.mpr ⟨xo_97, List.forall_mem_cons.mpr ⟨xo_91, List.forall_mem_cons.mpr ⟨xo_118, List.forall_mem_cons.mpr ⟨xo_86, fun _ h => absurd h List.not_mem_nil⟩⟩⟩⟩⟩⟩⟩⟩⟩)
/-- TwoWayGrammar$Sets.spreadFollows()V -/
def xc_122 : ab_C := (76, [(3, 78, 0, [])], [], [(ab_unk, [])], [(9999, 10000), (10368, 10369), (11648, 11649)], 4)
theorem xo_122 : ab_Ok sc_P sx_sk xc_122 := ab_good_ok (env := [xc_89, xc_36, xc_118, xc_121, xc_115]) (heads := [(7, [(3, 78, 0, []), (1, 0, 100000, []), ab_unk, ab_unk, ab_unk], [], [(0, 0, 0), (1, 1, 0)]), (27, [(3, 78, 0, []), (1, 0, 99999, []), (1, 0, 70, []), ab_unk, ab_unk], [], [(0, 0, 0), (1, 1, 0), (0, 0, 0), (1, 2, 0)]), (48, [(3, 78, 0, []), (1, 0, 99999, []), (1, 0, 69, []), ab_top, (1, 0, 6, [])], [], [(0, 0, 0), (1, 1, 0), (0, 0, 0), (1, 2, 0), (0, 0, 0), (1, 4, 0)])]) (fuel := 31) (by decide +kernel) (List.forall_mem_cons.mpr ⟨xo_89, List.forall_mem_cons.mpr ⟨xo_36, List.forall_mem_cons.mpr ⟨xo_118, List.forall_mem_cons.mpr ⟨xo_121, List.forall_mem_cons.mpr ⟨xo_115, fun _ h => absurd h List.not_mem_nil⟩⟩⟩⟩⟩)
/-- TwoWayGrammar.put([JIJ)V -/
def xc_123 : ab_C := (66, [(3, 88, 0, []), ab_top, ab_topL], [], [(ab_unk, [])], [(11264, 11265)], 0)
theorem xo_123 : ab_Ok sc_P sx_sk xc_123 := ab_good_ok (env := []) (heads := []) (fuel := 16) (by decide +kernel) (fun _ h => absurd h List.not_mem_nil)
/-- TwoWayGrammar$Sets.findDirectors()V -/
def xc_124 : ab_C := (79, [(3, 78, 0, [])], [], [(ab_unk, [])], [(11264, 11265)], 1)
theorem xo_124 : ab_Ok sc_P sx_sk xc_124 := ab_good_ok (env := [xc_89, xc_36, xc_111, xc_118, xc_112, xc_123, xc_115]) (heads := [(2, [(3, 78, 0, []), (1, 0, 70, []), ab_unk, ab_unk, ab_unk, ab_unk], [], [(0, 0, 0), (1, 1, 0)]), (22, [(3, 78, 0, []), (1, 0, 69, []), ab_top, (1, 0, 6, []), ab_unk, ab_unk], [], [(0, 0, 0), (1, 1, 0), (0, 0, 0), (1, 3, 0)])]) (fuel := 46) (by decide +kernel) (List.forall_mem_cons.mpr ⟨xo_89, List.forall_mem_cons.mpr ⟨xo_36, List.forall_mem_cons.mpr ⟨xo_111, List.forall_mem_cons.mpr ⟨xo_118, List.forall_mem_cons.mpr ⟨xo_112, List.forall_mem_cons.mpr ⟨xo_123, List.forall_mem_cons.mpr ⟨xo_115, fun _ h => absurd h List.not_mem_nil⟩⟩⟩⟩⟩⟩⟩)
/-- TwoWayGrammar.put([III)V -/
def xc_125 : ab_C := (16, [(3, 92, 0, []), ab_top, ab_top], [], [(ab_unk, [])], [(11776, 11777)], 0)
theorem xo_125 : ab_Ok sc_P sx_sk xc_125 := ab_good_ok (env := []) (heads := []) (fuel := 16) (by decide +kernel) (fun _ h => absurd h List.not_mem_nil)
/-- TwoWayGrammar.at([II)I -/
def xc_126 : ab_C := (49, [(3, 92, 0, []), ab_top], [], [(ab_top, [])], [], 0)
theorem xo_126 : ab_Ok sc_P sx_sk xc_126 := ab_good_ok (env := []) (heads := []) (fuel := 16) (by decide +kernel) (fun _ h => absurd h List.not_mem_nil)
/-- TwoWayGrammar$Sets.groupTops(I)I -/
def xc_127 : ab_C := (81, [(3, 78, 0, []), ab_top], [], [(ab_top, [])], [], 1)
theorem xo_127 : ab_Ok sc_P sx_sk xc_127 := ab_good_ok (env := [xc_36, xc_89, xc_90, xc_126, xc_105]) (heads := [(44, [(3, 78, 0, []), ab_top, ab_top, ab_top, (1, 0, 60, [])], [], [(0, 0, 0), (1, 4, 0)])]) (fuel := 27) (by decide +kernel) (List.forall_mem_cons.mpr ⟨xo_36, List.forall_mem_cons.mpr ⟨xo_89, List.forall_mem_cons.mpr ⟨xo_90, List.forall_mem_cons.mpr ⟨xo_126, List.forall_mem_cons.mpr ⟨xo_105, fun _ h => absurd h List.not_mem_nil⟩⟩⟩⟩⟩)
/-- TwoWayGrammar$Sets.findTops()V -/
def xc_128 : ab_C := (80, [(3, 78, 0, [])], [], [(ab_unk, [])], [(11776, 11777)], 2)
theorem xo_128 : ab_Ok sc_P sx_sk xc_128 := ab_good_ok (env := [xc_79, xc_100, xc_125, xc_80, xc_127]) (heads := [(10, [(3, 78, 0, []), ab_top, ab_unk, ab_unk], [(7690, ab_top)], [(0, 0, 0), (2, 1, 0)])]) (fuel := 50) (by decide +kernel) (List.forall_mem_cons.mpr ⟨xo_79, List.forall_mem_cons.mpr ⟨xo_100, List.forall_mem_cons.mpr ⟨xo_125, List.forall_mem_cons.mpr ⟨xo_80, List.forall_mem_cons.mpr ⟨xo_127, fun _ h => absurd h List.not_mem_nil⟩⟩⟩⟩⟩)
/-- TwoWayGrammar$Sets.work()V -/
def xc_129 : ab_C := (65, [(3, 78, 0, [])], [], [(ab_unk, [])], [(9999, 10000), (10112, 10113), (10240, 10241), (10368, 10369), (10496, 10497), (10624, 10625), (10752, 10753), (10880, 10881), (11008, 11009), (11136, 11137), (11264, 11265), (11392, 11393), (11520, 11521), (11648, 11649), (11776, 11777)], 6)
theorem xo_129 : ab_Ok sc_P sx_sk xc_129 := ab_good_ok (env := [xc_84, xc_85, xc_86, xc_87, xc_88, xc_117, xc_122, xc_124, xc_128]) (heads := [(2, [(3, 78, 0, []), (1, 0, 70, [])], [], [(0, 0, 0), (1, 1, 0)])]) (fuel := 39) (by decide +kernel) (List.forall_mem_cons.mpr ⟨xo_84, List.forall_mem_cons.mpr ⟨xo_85, List.forall_mem_cons.mpr ⟨xo_86, List.forall_mem_cons.mpr ⟨xo_87, List.forall_mem_cons.mpr ⟨xo_88, List.forall_mem_cons.mpr ⟨xo_117, List.forall_mem_cons.mpr ⟨xo_122, List.forall_mem_cons.mpr ⟨xo_124, List.forall_mem_cons.mpr ⟨xo_128, fun _ h => absurd h List.not_mem_nil⟩⟩⟩⟩⟩⟩⟩⟩⟩)
/-- TwoWayGrammar.at([II)I -/
def xc_130 : ab_C := (49, [(3, 62, 0, []), ab_top], [], [(ab_top, [])], [], 0)
theorem xo_130 : ab_Ok sc_P sx_sk xc_130 := ab_good_ok (env := []) (heads := []) (fuel := 16) (by decide +kernel) (fun _ h => absurd h List.not_mem_nil)
/-- TwoWayGrammar$Checks.blame(II)V -/
def xc_131 : ab_C := (84, [(3, 93, 0, []), ab_top, ab_top], [], [(ab_unk, [])], [(11906, 11907)], 0)
theorem xo_131 : ab_Ok sc_P sx_sk xc_131 := ab_good_ok (env := []) (heads := []) (fuel := 22) (by decide +kernel) (fun _ h => absurd h List.not_mem_nil)
/-- TwoWayGrammar$Sets.isFinite(I)Z -/
def xc_132 : ab_C := (85, [(3, 78, 0, []), ab_top], [], [((1, 0, 1, []), [])], [], 1)
theorem xo_132 : ab_Ok sc_P sx_sk xc_132 := ab_good_ok (env := [xc_103]) (heads := []) (fuel := 14) (by decide +kernel) (List.forall_mem_cons.mpr ⟨xo_103, fun _ h => absurd h List.not_mem_nil⟩)
/-- TwoWayGrammar$Checks.checkRules()V -/
def xc_133 : ab_C := (83, [(3, 93, 0, [])], [], [(ab_unk, [])], [(11906, 11907)], 2)
theorem xo_133 : ab_Ok sc_P sx_sk xc_133 := ab_good_ok (env := [xc_130, xc_98, xc_131, xc_132]) (heads := [(2, [(3, 93, 0, []), (1, 0, 2147483647, []), ab_unk], [], [(0, 0, 0), (1, 1, 0)])]) (fuel := 42) (by decide +kernel) (List.forall_mem_cons.mpr ⟨xo_130, List.forall_mem_cons.mpr ⟨xo_98, List.forall_mem_cons.mpr ⟨xo_131, List.forall_mem_cons.mpr ⟨xo_132, fun _ h => absurd h List.not_mem_nil⟩⟩⟩⟩)
/-- TwoWayGrammar.at([II)I -/
def xc_134 : ab_C := (49, [(3, 73, 0, []), ab_top], [], [(ab_top, [])], [], 0)
theorem xo_134 : ab_Ok sc_P sx_sk xc_134 := ab_good_ok (env := []) (heads := []) (fuel := 16) (by decide +kernel) (fun _ h => absurd h List.not_mem_nil)
/-- TwoWayGrammar.at([JI)J -/
def xc_135 : ab_C := (72, [(3, 91, 0, []), ab_top], [], [(ab_topL, [])], [], 0)
theorem xo_135 : ab_Ok sc_P sx_sk xc_135 := ab_good_ok (env := []) (heads := []) (fuel := 16) (by decide +kernel) (fun _ h => absurd h List.not_mem_nil)
/-- TwoWayGrammar$Checks.checkRepeats()V -/
def xc_136 : ab_C := (86, [(3, 93, 0, [])], [], [(ab_unk, [])], [(11906, 11907)], 1)
theorem xo_136 : ab_Ok sc_P sx_sk xc_136 := ab_good_ok (env := [xc_100, xc_134, xc_101, xc_131, xc_97, xc_135]) (heads := [(2, [(3, 93, 0, []), (1, 0, 2147483647, []), ab_unk], [], [(0, 0, 0), (1, 1, 0)])]) (fuel := 54) (by decide +kernel) (List.forall_mem_cons.mpr ⟨xo_100, List.forall_mem_cons.mpr ⟨xo_134, List.forall_mem_cons.mpr ⟨xo_101, List.forall_mem_cons.mpr ⟨xo_131, List.forall_mem_cons.mpr ⟨xo_97, List.forall_mem_cons.mpr ⟨xo_135, fun _ h => absurd h List.not_mem_nil⟩⟩⟩⟩⟩⟩)
/-- TwoWayGrammar.at([JI)J -/
def xc_137 : ab_C := (72, [(3, 88, 0, []), ab_top], [], [(ab_topL, [])], [], 0)
theorem xo_137 : ab_Ok sc_P sx_sk xc_137 := ab_good_ok (env := []) (heads := []) (fuel := 16) (by decide +kernel) (fun _ h => absurd h List.not_mem_nil)
/-- TwoWayGrammar.at([II)I -/
def xc_138 : ab_C := (49, [(3, 67, 0, []), ab_top], [], [(ab_top, [])], [], 0)
theorem xo_138 : ab_Ok sc_P sx_sk xc_138 := ab_good_ok (env := []) (heads := []) (fuel := 16) (by decide +kernel) (fun _ h => absurd h List.not_mem_nil)
/-- TwoWayGrammar$Checks.checkChoice(I)V -/
def xc_139 : ab_C := (87, [(3, 93, 0, []), ab_top], [], [(ab_unk, [])], [(11906, 11907)], 1)
theorem xo_139 : ab_Ok sc_P sx_sk xc_139 := ab_good_ok (env := [xc_89, xc_36, xc_137, xc_138, xc_131, xc_115]) (heads := [(18, [(3, 93, 0, []), ab_top, ab_topL, ab_unk, ab_top, (1, 0, 6, []), ab_unk, ab_unk], [], [(0, 0, 0), (1, 5, 0)])]) (fuel := 48) (by decide +kernel) (List.forall_mem_cons.mpr ⟨xo_89, List.forall_mem_cons.mpr ⟨xo_36, List.forall_mem_cons.mpr ⟨xo_137, List.forall_mem_cons.mpr ⟨xo_138, List.forall_mem_cons.mpr ⟨xo_131, List.forall_mem_cons.mpr ⟨xo_115, fun _ h => absurd h List.not_mem_nil⟩⟩⟩⟩⟩⟩)
/-- TwoWayGrammar$Checks.firstFault()I -/
def xc_140 : ab_C := (82, [(3, 93, 0, [])], [], [(ab_top, [])], [(11906, 11907)], 3)
theorem xo_140 : ab_Ok sc_P sx_sk xc_140 := ab_good_ok (env := [xc_133, xc_136, xc_139]) (heads := [(15, [(3, 93, 0, []), (1, 0, 70, [])], [], [(0, 0, 0), (1, 1, 0)])]) (fuel := 15) (by decide +kernel) (List.forall_mem_cons.mpr ⟨xo_133, List.forall_mem_cons.mpr ⟨xo_136, List.forall_mem_cons.mpr ⟨xo_139, fun _ h => absurd h List.not_mem_nil⟩⟩⟩)
/-- TwoWayGrammar.compile()I -/
def xc_141 : ab_C := (12, [(3, 51, 0, [])], [], [(ab_top, [])], [(6542, 6544), (7680, 7681), (7685, 7687), (7690, 7691), (7698, 7699), (7808, 7809), (7936, 7937), (8064, 8065), (8192, 8193), (8320, 8321), (8448, 8449), (8576, 8577), (8704, 8705), (8832, 8833), (8960, 8961), (9088, 9089), (9216, 9217), (9344, 9345), (9472, 9473), (9600, 9601), (9730, 9732), (9857, 9861), (9999, 10000), (10112, 10113), (10240, 10241), (10368, 10369), (10496, 10497), (10624, 10625), (10752, 10753), (10880, 10881), (11008, 11009), (11136, 11137), (11264, 11265), (11392, 11393), (11520, 11521), (11648, 11649), (11776, 11777), (11906, 11907), (12032, 12033), (12544, 12545)], 28)
/-- TwoWayGrammar$Text.length()I -/
def xc_143 : ab_C := (22, [(3, 56, 0, [])], [], [((1, 0, 160, []), [])], [], 0)
theorem xo_143 : ab_Ok sc_P sx_sk xc_143 := ab_good_ok (env := []) (heads := []) (fuel := 8) (by decide +kernel) (fun _ h => absurd h List.not_mem_nil)
/-- TwoWayGrammar$Text.at(I)C -/
def xc_144 : ab_C := (20, [(3, 56, 0, []), ab_top], [], [((1, 0, 65535, []), [])], [], 0)
theorem xo_144 : ab_Ok sc_P sx_sk xc_144 := ab_good_ok (env := []) (heads := []) (fuel := 22) (by decide +kernel) (fun _ h => absurd h List.not_mem_nil)
/-- TwoWayGrammar$Text.length()I -/
def xc_147 : ab_C := (22, [(3, 54, 0, [])], [], [((1, 0, 160, []), [])], [], 0)
theorem xo_147 : ab_Ok sc_P sx_sk xc_147 := ab_good_ok (env := []) (heads := []) (fuel := 8) (by decide +kernel) (fun _ h => absurd h List.not_mem_nil)
/-- TwoWayGrammar.at([II)I -/
def xc_149 : ab_C := (49, [(3, 95, 0, []), ab_top], [], [(ab_top, [])], [], 0)
theorem xo_149 : ab_Ok sc_P sx_sk xc_149 := ab_good_ok (env := []) (heads := []) (fuel := 16) (by decide +kernel) (fun _ h => absurd h List.not_mem_nil)
