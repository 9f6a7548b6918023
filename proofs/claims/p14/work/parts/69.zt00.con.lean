/-- TwoWayGrammar$Tree.drop()V -/
def xc_0 : ab_C := (13, [(3, 94, 0, [])], [], [(ab_unk, [])], [(12032, 12033)], 0)
theorem xo_0 : ab_Ok sc_P sx_sk xc_0 := ab_good_ok (env := []) (heads := []) (fuel := 9) (by decide +kernel) (fun _ h => absurd h List.not_mem_nil)
/-- TwoWayGrammar$Tree.drop()V -/
def xc_1 : ab_C := (13, [(3, 98, 0, [])], [], [(ab_unk, [])], [(12544, 12545)], 0)
theorem xo_1 : ab_Ok sc_P sx_sk xc_1 := ab_good_ok (env := []) (heads := []) (fuel := 9) (by decide +kernel) (fun _ h => absurd h List.not_mem_nil)
/-- TwoWayGrammar.put([III)V -/
def xc_2 : ab_C := (16, [(3, 63, 0, []), ab_top, ab_top], [], [(ab_unk, [])], [(8064, 8065)], 0)
theorem xo_2 : ab_Ok sc_P sx_sk xc_2 := ab_good_ok (env := []) (heads := []) (fuel := 16) (by decide +kernel) (fun _ h => absurd h List.not_mem_nil)
/-- TwoWayGrammar.put([III)V -/
def xc_3 : ab_C := (16, [(3, 64, 0, []), ab_top, ab_top], [], [(ab_unk, [])], [(8192, 8193)], 0)
theorem xo_3 : ab_Ok sc_P sx_sk xc_3 := ab_good_ok (env := []) (heads := []) (fuel := 16) (by decide +kernel) (fun _ h => absurd h List.not_mem_nil)
/-- TwoWayGrammar$Grammar.drop()V -/
def xc_4 : ab_C := (15, [(3, 60, 0, [])], [], [(ab_unk, [])], [(7680, 7681), (7685, 7687), (7690, 7691), (7698, 7699), (8064, 8065), (8192, 8193)], 1)
theorem xo_4 : ab_Ok sc_P sx_sk xc_4 := ab_good_ok (env := [xc_2, xc_3]) (heads := [(27, [(3, 60, 0, []), (1, 0, 70, [])], [(7698, (1, 0, 0, [])), (7690, (1, 0, 0, [])), (7686, (1, 0, 0, [])), (7685, (1, 0, 0, [])), (7680, (1, 0, 0, []))], [(0, 0, 0), (1, 1, 0)])]) (fuel := 23) (by decide +kernel) (List.forall_mem_cons.mpr ⟨xo_2, List.forall_mem_cons.mpr ⟨xo_3, fun _ h => absurd h List.not_mem_nil⟩⟩)
/-- TwoWayGrammar$Text.at(I)C -/
def xc_5 : ab_C := (20, [(3, 52, 0, []), ab_top], [], [((1, 0, 65535, []), [])], [], 0)
theorem xo_5 : ab_Ok sc_P sx_sk xc_5 := ab_good_ok (env := []) (heads := []) (fuel := 22) (by decide +kernel) (fun _ h => absurd h List.not_mem_nil)
/-- TwoWayGrammar.isBlank(I)Z -/
def xc_6 : ab_C := (21, [ab_top], [], [((1, 0, 1, []), [])], [], 0)
theorem xo_6 : ab_Ok sc_P sx_sk xc_6 := ab_good_ok (env := []) (heads := []) (fuel := 14) (by decide +kernel) (fun _ h => absurd h List.not_mem_nil)
/-- TwoWayGrammar$Text.behindBlanks(I)I -/
def xc_7 : ab_C := (19, [(3, 52, 0, []), (1, 0, 241, [])], [], [((1, 0, 241, []), [])], [], 1)
theorem xo_7 : ab_Ok sc_P sx_sk xc_7 := ab_good_ok (env := [xc_5, xc_6]) (heads := [(2, [(3, 52, 0, []), (1, 0, 241, []), (1, 0, 241, [])], [], [(0, 0, 0), (1, 2, 0)])]) (fuel := 17) (by decide +kernel) (List.forall_mem_cons.mpr ⟨xo_5, List.forall_mem_cons.mpr ⟨xo_6, fun _ h => absurd h List.not_mem_nil⟩⟩)
/-- TwoWayGrammar$Text.length()I -/
def xc_8 : ab_C := (22, [(3, 52, 0, [])], [], [((1, 0, 240, []), [])], [], 0)
theorem xo_8 : ab_Ok sc_P sx_sk xc_8 := ab_good_ok (env := []) (heads := []) (fuel := 8) (by decide +kernel) (fun _ h => absurd h List.not_mem_nil)
/-- TwoWayGrammar.isSmall(I)Z -/
def xc_9 : ab_C := (23, [ab_top], [], [((1, 0, 1, []), [])], [], 0)
theorem xo_9 : ab_Ok sc_P sx_sk xc_9 := ab_good_ok (env := []) (heads := []) (fuel := 14) (by decide +kernel) (fun _ h => absurd h List.not_mem_nil)
/-- TwoWayGrammar$Text.behindLetters(I)I -/
def xc_10 : ab_C := (25, [(3, 52, 0, []), (1, 0, 239, [])], [], [((1, 0, 240, []), [])], [], 1)
theorem xo_10 : ab_Ok sc_P sx_sk xc_10 := ab_good_ok (env := [xc_5, xc_9]) (heads := [(2, [(3, 52, 0, []), (1, 0, 239, []), (1, 0, 240, [])], [], [(0, 0, 0), (1, 2, 0)])]) (fuel := 17) (by decide +kernel) (List.forall_mem_cons.mpr ⟨xo_5, List.forall_mem_cons.mpr ⟨xo_9, fun _ h => absurd h List.not_mem_nil⟩⟩)
/-- TwoWayGrammar$Text.has(Ljava/lang/String;II)Z -/
def xc_11 : ab_C := (26, [(3, 52, 0, []), (3, 1, 0, []), ab_top, ab_top], [], [((1, 0, 1, []), [])], [], 2)
theorem xo_11 : ab_Ok sc_P sx_sk xc_11 := ab_good_ok (env := [xc_5]) (heads := [(20, [(3, 52, 0, []), (3, 1, 0, []), ab_top, ab_top, (1, 0, 1, []), (1, 0, 6, [])], [(129, (1, 0, 0, []))], [(0, 0, 0), (1, 5, 0)])]) (fuel := 66) (by decide +kernel) (List.forall_mem_cons.mpr ⟨xo_5, fun _ h => absurd h List.not_mem_nil⟩)
/-- TwoWayGrammar$Text.has(Ljava/lang/String;II)Z -/
def xc_12 : ab_C := (26, [(3, 52, 0, []), (3, 2, 0, []), ab_top, ab_top], [], [((1, 0, 1, []), [])], [], 2)
theorem xo_12 : ab_Ok sc_P sx_sk xc_12 := ab_good_ok (env := [xc_5]) (heads := [(20, [(3, 52, 0, []), (3, 2, 0, []), ab_top, ab_top, (1, 0, 1, []), (1, 0, 4, [])], [(257, (1, 0, 0, []))], [(0, 0, 0), (1, 5, 0)])]) (fuel := 66) (by decide +kernel) (List.forall_mem_cons.mpr ⟨xo_5, fun _ h => absurd h List.not_mem_nil⟩)
/-- TwoWayGrammar$Text.has(Ljava/lang/String;II)Z -/
def xc_13 : ab_C := (26, [(3, 52, 0, []), (3, 3, 0, []), ab_top, ab_top], [], [((1, 0, 1, []), [])], [], 2)
theorem xo_13 : ab_Ok sc_P sx_sk xc_13 := ab_good_ok (env := [xc_5]) (heads := [(20, [(3, 52, 0, []), (3, 3, 0, []), ab_top, ab_top, (1, 0, 1, []), (1, 0, 5, [])], [(385, (1, 0, 0, []))], [(0, 0, 0), (1, 5, 0)])]) (fuel := 66) (by decide +kernel) (List.forall_mem_cons.mpr ⟨xo_5, fun _ h => absurd h List.not_mem_nil⟩)
/-- TwoWayGrammar$Text.has(Ljava/lang/String;II)Z -/
def xc_14 : ab_C := (26, [(3, 52, 0, []), (3, 4, 0, []), ab_top, ab_top], [], [((1, 0, 1, []), [])], [], 2)
theorem xo_14 : ab_Ok sc_P sx_sk xc_14 := ab_good_ok (env := [xc_5]) (heads := [(20, [(3, 52, 0, []), (3, 4, 0, []), ab_top, ab_top, (1, 0, 1, []), (1, 0, 5, [])], [(513, (1, 0, 0, []))], [(0, 0, 0), (1, 5, 0)])]) (fuel := 66) (by decide +kernel) (List.forall_mem_cons.mpr ⟨xo_5, fun _ h => absurd h List.not_mem_nil⟩)
/-- TwoWayGrammar$Text.has(Ljava/lang/String;II)Z -/
def xc_15 : ab_C := (26, [(3, 52, 0, []), (3, 5, 0, []), ab_top, ab_top], [], [((1, 0, 1, []), [])], [], 2)
theorem xo_15 : ab_Ok sc_P sx_sk xc_15 := ab_good_ok (env := [xc_5]) (heads := [(20, [(3, 52, 0, []), (3, 5, 0, []), ab_top, ab_top, (1, 0, 1, []), (1, 0, 4, [])], [(641, (1, 0, 0, []))], [(0, 0, 0), (1, 5, 0)])]) (fuel := 66) (by decide +kernel) (List.forall_mem_cons.mpr ⟨xo_5, fun _ h => absurd h List.not_mem_nil⟩)
/-- TwoWayGrammar$Text.has(Ljava/lang/String;II)Z -/
def xc_16 : ab_C := (26, [(3, 52, 0, []), (3, 6, 0, []), ab_top, ab_top], [], [((1, 0, 1, []), [])], [], 2)
theorem xo_16 : ab_Ok sc_P sx_sk xc_16 := ab_good_ok (env := [xc_5]) (heads := [(20, [(3, 52, 0, []), (3, 6, 0, []), ab_top, ab_top, (1, 0, 1, []), (1, 0, 6, [])], [(769, (1, 0, 0, []))], [(0, 0, 0), (1, 5, 0)])]) (fuel := 66) (by decide +kernel) (List.forall_mem_cons.mpr ⟨xo_5, fun _ h => absurd h List.not_mem_nil⟩)
/-- TwoWayGrammar$Text.has(Ljava/lang/String;II)Z -/
def xc_17 : ab_C := (26, [(3, 52, 0, []), (3, 7, 0, []), ab_top, ab_top], [], [((1, 0, 1, []), [])], [], 2)
theorem xo_17 : ab_Ok sc_P sx_sk xc_17 := ab_good_ok (env := [xc_5]) (heads := [(20, [(3, 52, 0, []), (3, 7, 0, []), ab_top, ab_top, (1, 0, 1, []), (1, 0, 4, [])], [(897, (1, 0, 0, []))], [(0, 0, 0), (1, 5, 0)])]) (fuel := 66) (by decide +kernel) (List.forall_mem_cons.mpr ⟨xo_5, fun _ h => absurd h List.not_mem_nil⟩)
/-- TwoWayGrammar$Text.behindLetters(I)I -/
def xc_18 : ab_C := (25, [(3, 52, 0, []), (1, 1, 240, [])], [], [((1, 1, 240, []), [])], [], 1)
theorem xo_18 : ab_Ok sc_P sx_sk xc_18 := ab_good_ok (env := [xc_5, xc_9]) (heads := [(2, [(3, 52, 0, []), (1, 1, 240, []), (1, 1, 240, [])], [], [(0, 0, 0), (1, 2, 0)])]) (fuel := 17) (by decide +kernel) (List.forall_mem_cons.mpr ⟨xo_5, List.forall_mem_cons.mpr ⟨xo_9, fun _ h => absurd h List.not_mem_nil⟩⟩)
/-- TwoWayGrammar$Text.letterCode(II)I -/
def xc_19 : ab_C := (34, [(3, 52, 0, []), (1, 1, 240, []), (1, 1, 240, [])], [], [(ab_top, [])], [], 1)
theorem xo_19 : ab_Ok sc_P sx_sk xc_19 := ab_good_ok (env := [xc_5]) (heads := [(7, [(3, 52, 0, []), (1, 1, 240, []), (1, 1, 240, []), ab_top, (1, 0, 239, [])], [], [(0, 0, 0), (2, 4, 0)])]) (fuel := 23) (by decide +kernel) (List.forall_mem_cons.mpr ⟨xo_5, fun _ h => absurd h List.not_mem_nil⟩)
/-- TwoWayGrammar.isCapital(I)Z -/
def xc_20 : ab_C := (36, [ab_top], [], [((1, 0, 1, []), [])], [], 0)
theorem xo_20 : ab_Ok sc_P sx_sk xc_20 := ab_good_ok (env := []) (heads := []) (fuel := 14) (by decide +kernel) (fun _ h => absurd h List.not_mem_nil)
/-- TwoWayGrammar.isDigit(I)Z -/
def xc_21 : ab_C := (37, [ab_top], [], [((1, 0, 1, []), [])], [], 0)
theorem xo_21 : ab_Ok sc_P sx_sk xc_21 := ab_good_ok (env := []) (heads := []) (fuel := 14) (by decide +kernel) (fun _ h => absurd h List.not_mem_nil)
/-- TwoWayGrammar.signCode(C)I -/
def xc_22 : ab_C := (38, [(1, 0, 65535, [])], [], [(ab_top, [])], [], 0)
theorem xo_22 : ab_Ok sc_P sx_sk xc_22 := ab_good_ok (env := []) (heads := []) (fuel := 8) (by decide +kernel) (fun _ h => absurd h List.not_mem_nil)
/-- TwoWayGrammar$Tokens.advance()V -/
def xc_23 : ab_C := (18, [(3, 77, 0, [])], [], [(ab_unk, [])], [(9857, 9861)], 5)
theorem xo_23 : ab_Ok sc_P sx_sk xc_23 := ab_good_ok (env := [xc_7, xc_5, xc_8, xc_9, xc_10, xc_11, xc_12, xc_13, xc_14, xc_15, xc_16, xc_17, xc_18, xc_19, xc_6, xc_20, xc_21, xc_22]) (heads := []) (fuel := 224) (by decide +kernel) (List.forall_mem_cons.mpr ⟨xo_7, List.forall_mem_cons.mpr ⟨xo_5, List.forall_mem_cons.mpr ⟨xo_8, List.forall_mem_cons.mpr ⟨xo_9, List.forall_mem_cons.mpr ⟨xo_10, List.forall_mem_cons.mpr ⟨xo_11, List.forall_mem_cons.mpr ⟨xo_12, List.forall_mem_cons.mpr ⟨xo_13, List.forall_mem_cons.mpr ⟨xo_14, List.forall_mem_cons.mpr ⟨xo_15, List.forall_mem_cons.mpr ⟨xo_16, List.forall_mem_cons.mpr ⟨xo_17, List.forall_mem_cons.mpr ⟨xo_18, List.forall_mem_cons.mpr ⟨xo_19, List.forall_mem_cons.mpr ⟨xo_6, List.forall_mem_cons.mpr ⟨xo_20, List.forall_mem_cons.mpr ⟨xo_21, List.forall_mem_cons.mpr ⟨xo_22, fun _ h => absurd h List.not_mem_nil⟩⟩⟩⟩⟩⟩⟩⟩⟩⟩⟩⟩⟩⟩⟩⟩⟩⟩)
/-- TwoWayGrammar$Tokens.rewind()V -/
def xc_24 : ab_C := (17, [(3, 77, 0, [])], [], [(ab_unk, [])], [(9857, 9861)], 6)
theorem xo_24 : ab_Ok sc_P sx_sk xc_24 := ab_good_ok (env := [xc_23]) (heads := []) (fuel := 11) (by decide +kernel) (List.forall_mem_cons.mpr ⟨xo_23, fun _ h => absurd h List.not_mem_nil⟩)
/-- TwoWayGrammar$Reader.blame(II)V -/
def xc_25 : ab_C := (47, [(3, 76, 0, []), ab_top, ab_top], [], [(ab_unk, [])], [(9730, 9732)], 0)
theorem xo_25 : ab_Ok sc_P sx_sk xc_25 := ab_good_ok (env := []) (heads := []) (fuel := 12) (by decide +kernel) (fun _ h => absurd h List.not_mem_nil)
/-- TwoWayGrammar.put([III)V -/
def xc_26 : ab_C := (16, [(3, 61, 0, []), ab_top, ab_top], [], [(ab_unk, [])], [(7808, 7809)], 0)
theorem xo_26 : ab_Ok sc_P sx_sk xc_26 := ab_good_ok (env := []) (heads := []) (fuel := 16) (by decide +kernel) (fun _ h => absurd h List.not_mem_nil)
/-- TwoWayGrammar.put([III)V -/
def xc_27 : ab_C := (16, [(3, 62, 0, []), ab_top, ab_top], [], [(ab_unk, [])], [(7936, 7937)], 0)
theorem xo_27 : ab_Ok sc_P sx_sk xc_27 := ab_good_ok (env := []) (heads := []) (fuel := 16) (by decide +kernel) (fun _ h => absurd h List.not_mem_nil)
/-- TwoWayGrammar$Grammar.addRule(II)I -/
def xc_28 : ab_C := (50, [(3, 60, 0, []), ab_top, ab_top], [], [(ab_top, [])], [(7680, 7681), (7808, 7809), (7936, 7937)], 1)
theorem xo_28 : ab_Ok sc_P sx_sk xc_28 := ab_good_ok (env := [xc_26, xc_27]) (heads := []) (fuel := 28) (by decide +kernel) (List.forall_mem_cons.mpr ⟨xo_26, List.forall_mem_cons.mpr ⟨xo_27, fun _ h => absurd h List.not_mem_nil⟩⟩)
/-- TwoWayGrammar.at([II)I -/
def xc_29 : ab_C := (49, [(3, 61, 0, []), ab_top], [], [(ab_top, [])], [], 0)
theorem xo_29 : ab_Ok sc_P sx_sk xc_29 := ab_good_ok (env := []) (heads := []) (fuel := 16) (by decide +kernel) (fun _ h => absurd h List.not_mem_nil)
/-- TwoWayGrammar$Grammar.ruleNamed(I)I -/
def xc_30 : ab_C := (48, [(3, 60, 0, []), ab_top], [], [(ab_top, [])], [], 1)
theorem xo_30 : ab_Ok sc_P sx_sk xc_30 := ab_good_ok (env := [xc_29]) (heads := [(2, [(3, 60, 0, []), ab_top, (1, 0, 2147483647, [])], [], [(0, 0, 0), (1, 2, 0)])]) (fuel := 18) (by decide +kernel) (List.forall_mem_cons.mpr ⟨xo_29, fun _ h => absurd h List.not_mem_nil⟩)
/-- TwoWayGrammar$Reader.beginRule()I -/
def xc_31 : ab_C := (46, [(3, 76, 0, [])], [], [(ab_top, [])], [(7680, 7681), (7808, 7809), (7936, 7937), (9730, 9732), (9857, 9861)], 6)
theorem xo_31 : ab_Ok sc_P sx_sk xc_31 := ab_good_ok (env := [xc_25, xc_28, xc_23, xc_30]) (heads := []) (fuel := 47) (by decide +kernel) (List.forall_mem_cons.mpr ⟨xo_25, List.forall_mem_cons.mpr ⟨xo_28, List.forall_mem_cons.mpr ⟨xo_23, List.forall_mem_cons.mpr ⟨xo_30, fun _ h => absurd h List.not_mem_nil⟩⟩⟩⟩)
/-- TwoWayGrammar$Reader.expect(I)V -/
def xc_32 : ab_C := (51, [(3, 76, 0, []), ab_top], [], [(ab_unk, [])], [(9730, 9732), (9857, 9861)], 6)
theorem xo_32 : ab_Ok sc_P sx_sk xc_32 := ab_good_ok (env := [xc_25, xc_23]) (heads := []) (fuel := 20) (by decide +kernel) (List.forall_mem_cons.mpr ⟨xo_25, List.forall_mem_cons.mpr ⟨xo_23, fun _ h => absurd h List.not_mem_nil⟩⟩)
/-- TwoWayGrammar.put([III)V -/
def xc_33 : ab_C := (16, [(3, 65, 0, []), ab_top, ab_top], [], [(ab_unk, [])], [(8320, 8321)], 0)
theorem xo_33 : ab_Ok sc_P sx_sk xc_33 := ab_good_ok (env := []) (heads := []) (fuel := 16) (by decide +kernel) (fun _ h => absurd h List.not_mem_nil)
/-- TwoWayGrammar.put([III)V -/
def xc_34 : ab_C := (16, [(3, 66, 0, []), ab_top, ab_top], [], [(ab_unk, [])], [(8448, 8449)], 0)
theorem xo_34 : ab_Ok sc_P sx_sk xc_34 := ab_good_ok (env := []) (heads := []) (fuel := 16) (by decide +kernel) (fun _ h => absurd h List.not_mem_nil)
/-- TwoWayGrammar.put([III)V -/
def xc_35 : ab_C := (16, [(3, 67, 0, []), ab_top, ab_top], [], [(ab_unk, [])], [(8576, 8577)], 0)
theorem xo_35 : ab_Ok sc_P sx_sk xc_35 := ab_good_ok (env := []) (heads := []) (fuel := 16) (by decide +kernel) (fun _ h => absurd h List.not_mem_nil)
/-- TwoWayGrammar.at([II)I -/
def xc_36 : ab_C := (49, [(3, 64, 0, []), ab_top], [], [(ab_top, [])], [], 0)
theorem xo_36 : ab_Ok sc_P sx_sk xc_36 := ab_good_ok (env := []) (heads := []) (fuel := 16) (by decide +kernel) (fun _ h => absurd h List.not_mem_nil)
/-- TwoWayGrammar$Grammar.addAlternative(III)I -/
def xc_37 : ab_C := (53, [(3, 60, 0, []), ab_top, ab_top, ab_top], [], [(ab_top, [])], [(7686, 7687), (8064, 8065), (8192, 8193), (8320, 8321), (8448, 8449), (8576, 8577)], 1)
theorem xo_37 : ab_Ok sc_P sx_sk xc_37 := ab_good_ok (env := [xc_33, xc_34, xc_35, xc_36, xc_3, xc_2]) (heads := []) (fuel := 50) (by decide +kernel) (List.forall_mem_cons.mpr ⟨xo_33, List.forall_mem_cons.mpr ⟨xo_34, List.forall_mem_cons.mpr ⟨xo_35, List.forall_mem_cons.mpr ⟨xo_36, List.forall_mem_cons.mpr ⟨xo_3, List.forall_mem_cons.mpr ⟨xo_2, fun _ h => absurd h List.not_mem_nil⟩⟩⟩⟩⟩⟩)
/-- TwoWayGrammar$Tokens.beginsPart()Z -/
def xc_38 : ab_C := (56, [(3, 77, 0, [])], [], [((1, 0, 1, []), [])], [], 0)
theorem xo_38 : ab_Ok sc_P sx_sk xc_38 := ab_good_ok (env := []) (heads := []) (fuel := 16) (by decide +kernel) (fun _ h => absurd h List.not_mem_nil)
/-- TwoWayGrammar.at([II)I -/
def xc_39 : ab_C := (49, [(3, 75, 0, []), ab_top], [], [(ab_top, [])], [], 0)
theorem xo_39 : ab_Ok sc_P sx_sk xc_39 := ab_good_ok (env := []) (heads := []) (fuel := 16) (by decide +kernel) (fun _ h => absurd h List.not_mem_nil)
/-- TwoWayGrammar$Grammar.literal(I)I -/
def xc_40 : ab_C := (58, [(3, 60, 0, []), ab_top], [], [(ab_top, [])], [], 1)
theorem xo_40 : ab_Ok sc_P sx_sk xc_40 := ab_good_ok (env := [xc_39]) (heads := [(2, [(3, 60, 0, []), ab_top, (1, 0, 2147483647, [])], [], [(0, 0, 0), (1, 2, 0)])]) (fuel := 18) (by decide +kernel) (List.forall_mem_cons.mpr ⟨xo_39, fun _ h => absurd h List.not_mem_nil⟩)
/-- TwoWayGrammar$Reader.isOneTooMany(I)Z -/
def xc_41 : ab_C := (57, [(3, 76, 0, []), (1, 0, 0, [])], [], [((1, 0, 1, []), [])], [], 2)
theorem xo_41 : ab_Ok sc_P sx_sk xc_41 := ab_good_ok (env := [xc_40]) (heads := []) (fuel := 41) (by decide +kernel) (List.forall_mem_cons.mpr ⟨xo_40, fun _ h => absurd h List.not_mem_nil⟩)
/-- TwoWayGrammar.put([III)V -/
def xc_42 : ab_C := (16, [(3, 68, 0, []), ab_top, ab_top], [], [(ab_unk, [])], [(8704, 8705)], 0)
theorem xo_42 : ab_Ok sc_P sx_sk xc_42 := ab_good_ok (env := []) (heads := []) (fuel := 16) (by decide +kernel) (fun _ h => absurd h List.not_mem_nil)
/-- TwoWayGrammar.put([III)V -/
def xc_43 : ab_C := (16, [(3, 69, 0, []), ab_top, ab_top], [], [(ab_unk, [])], [(8832, 8833)], 0)
theorem xo_43 : ab_Ok sc_P sx_sk xc_43 := ab_good_ok (env := []) (heads := []) (fuel := 16) (by decide +kernel) (fun _ h => absurd h List.not_mem_nil)
/-- TwoWayGrammar.put([III)V -/
def xc_44 : ab_C := (16, [(3, 70, 0, []), ab_top, ab_top], [], [(ab_unk, [])], [(8960, 8961)], 0)
theorem xo_44 : ab_Ok sc_P sx_sk xc_44 := ab_good_ok (env := []) (heads := []) (fuel := 16) (by decide +kernel) (fun _ h => absurd h List.not_mem_nil)
/-- TwoWayGrammar.put([III)V -/
def xc_45 : ab_C := (16, [(3, 71, 0, []), ab_top, ab_top], [], [(ab_unk, [])], [(9088, 9089)], 0)
theorem xo_45 : ab_Ok sc_P sx_sk xc_45 := ab_good_ok (env := []) (heads := []) (fuel := 16) (by decide +kernel) (fun _ h => absurd h List.not_mem_nil)
/-- TwoWayGrammar.put([III)V -/
def xc_46 : ab_C := (16, [(3, 72, 0, []), ab_top, ab_top], [], [(ab_unk, [])], [(9216, 9217)], 0)
theorem xo_46 : ab_Ok sc_P sx_sk xc_46 := ab_good_ok (env := []) (heads := []) (fuel := 16) (by decide +kernel) (fun _ h => absurd h List.not_mem_nil)
/-- TwoWayGrammar.put([III)V -/
def xc_47 : ab_C := (16, [(3, 73, 0, []), ab_top, ab_top], [], [(ab_unk, [])], [(9344, 9345)], 0)
theorem xo_47 : ab_Ok sc_P sx_sk xc_47 := ab_good_ok (env := []) (heads := []) (fuel := 16) (by decide +kernel) (fun _ h => absurd h List.not_mem_nil)
/-- TwoWayGrammar.put([III)V -/
def xc_48 : ab_C := (16, [(3, 74, 0, []), ab_top, ab_top], [], [(ab_unk, [])], [(9472, 9473)], 0)
theorem xo_48 : ab_Ok sc_P sx_sk xc_48 := ab_good_ok (env := []) (heads := []) (fuel := 16) (by decide +kernel) (fun _ h => absurd h List.not_mem_nil)
/-- TwoWayGrammar$Grammar.addPart(III)I -/
def xc_49 : ab_C := (60, [(3, 60, 0, []), ab_top, ab_top, ab_top], [], [(ab_top, [])], [(7690, 7691), (8704, 8705), (8832, 8833), (8960, 8961), (9088, 9089), (9216, 9217), (9344, 9345), (9472, 9473)], 1)
theorem xo_49 : ab_Ok sc_P sx_sk xc_49 := ab_good_ok (env := [xc_42, xc_43, xc_44, xc_45, xc_46, xc_47, xc_48]) (heads := []) (fuel := 51) (by decide +kernel) (List.forall_mem_cons.mpr ⟨xo_42, List.forall_mem_cons.mpr ⟨xo_43, List.forall_mem_cons.mpr ⟨xo_44, List.forall_mem_cons.mpr ⟨xo_45, List.forall_mem_cons.mpr ⟨xo_46, List.forall_mem_cons.mpr ⟨xo_47, List.forall_mem_cons.mpr ⟨xo_48, fun _ h => absurd h List.not_mem_nil⟩⟩⟩⟩⟩⟩⟩)
/-- TwoWayGrammar.put([III)V -/
def xc_50 : ab_C := (16, [(3, 75, 0, []), ab_top, ab_top], [], [(ab_unk, [])], [(9600, 9601)], 0)
theorem xo_50 : ab_Ok sc_P sx_sk xc_50 := ab_good_ok (env := []) (heads := []) (fuel := 16) (by decide +kernel) (fun _ h => absurd h List.not_mem_nil)
/-- TwoWayGrammar$Grammar.addLiteral(I)I -/
def xc_51 : ab_C := (61, [(3, 60, 0, []), ab_top], [], [(ab_top, [])], [(7698, 7699), (9600, 9601)], 2)
theorem xo_51 : ab_Ok sc_P sx_sk xc_51 := ab_good_ok (env := [xc_40, xc_50]) (heads := []) (fuel := 29) (by decide +kernel) (List.forall_mem_cons.mpr ⟨xo_40, List.forall_mem_cons.mpr ⟨xo_50, fun _ h => absurd h List.not_mem_nil⟩⟩)
/-- TwoWayGrammar$Grammar.addGroup()I -/
def xc_52 : ab_C := (62, [(3, 60, 0, [])], [], [(ab_top, [])], [(7685, 7686)], 0)
theorem xo_52 : ab_Ok sc_P sx_sk xc_52 := ab_good_ok (env := []) (heads := []) (fuel := 18) (by decide +kernel) (fun _ h => absurd h List.not_mem_nil)
/-- TwoWayGrammar$Reader.isOneTooMany(I)Z -/
def xc_53 : ab_C := (57, [(3, 76, 0, []), (1, 1, 1, [])], [], [((1, 0, 1, []), [])], [], 2)
theorem xo_53 : ab_Ok sc_P sx_sk xc_53 := ab_good_ok (env := [xc_40]) (heads := []) (fuel := 41) (by decide +kernel) (List.forall_mem_cons.mpr ⟨xo_40, fun _ h => absurd h List.not_mem_nil⟩)
/-- TwoWayGrammar$Reader.isOneTooMany(I)Z -/
def xc_54 : ab_C := (57, [(3, 76, 0, []), (1, 2, 2, [])], [], [((1, 0, 1, []), [])], [], 2)
theorem xo_54 : ab_Ok sc_P sx_sk xc_54 := ab_good_ok (env := [xc_40]) (heads := []) (fuel := 41) (by decide +kernel) (List.forall_mem_cons.mpr ⟨xo_40, fun _ h => absurd h List.not_mem_nil⟩)
/-- TwoWayGrammar$Reader.isOneTooMany(I)Z -/
def xc_55 : ab_C := (57, [(3, 76, 0, []), (1, 3, 3, [])], [], [((1, 0, 1, []), [])], [], 2)
theorem xo_55 : ab_Ok sc_P sx_sk xc_55 := ab_good_ok (env := [xc_40]) (heads := []) (fuel := 41) (by decide +kernel) (List.forall_mem_cons.mpr ⟨xo_40, fun _ h => absurd h List.not_mem_nil⟩)
/-- TwoWayGrammar$Reader.isOneTooMany(I)Z -/
def xc_56 : ab_C := (57, [(3, 76, 0, []), (1, 4, 4, [])], [], [((1, 0, 1, []), [])], [], 2)
theorem xo_56 : ab_Ok sc_P sx_sk xc_56 := ab_good_ok (env := [xc_40]) (heads := []) (fuel := 41) (by decide +kernel) (List.forall_mem_cons.mpr ⟨xo_40, fun _ h => absurd h List.not_mem_nil⟩)
/-- TwoWayGrammar$Reader.readForm(II)V -/
def xc_57 : ab_C := (52, [(3, 76, 0, []), ab_top, (1, 5, 5, [])], [], [(ab_unk, [])], [], 0)
theorem xo_57 : ab_Ok sc_P sx_sk xc_57 := ab_good_ok (env := []) (heads := [(33, [(3, 76, 0, []), ab_top, (1, 5, 5, []), (1, 0, 0, []), (1, 0, 241, []), (1, (-1), (-1), []), (1, 1, 1, [])], [(9858, (1, 0, 241, [])), (9730, ab_top)], [(0, 0, 0), (1, 1, 0)])]) (fuel := 22) (by decide +kernel) (fun _ h => absurd h List.not_mem_nil)
/-- TwoWayGrammar$Reader.readPart(I)I -/
def xc_58 : ab_C := (59, [(3, 76, 0, []), (1, 4, 4, [])], [], [(ab_top, [])], [(7685, 7686), (7690, 7691), (7698, 7699), (8704, 8705), (8832, 8833), (8960, 8961), (9088, 9089), (9216, 9217), (9344, 9345), (9472, 9473), (9600, 9601), (9730, 9732), (9857, 9861)], 7)
theorem xo_58 : ab_Ok sc_P sx_sk xc_58 := ab_good_ok (env := [xc_49, xc_51, xc_43, xc_23, xc_32, xc_52, xc_57]) (heads := []) (fuel := 53) (by decide +kernel) (List.forall_mem_cons.mpr ⟨xo_49, List.forall_mem_cons.mpr ⟨xo_51, List.forall_mem_cons.mpr ⟨xo_43, List.forall_mem_cons.mpr ⟨xo_23, List.forall_mem_cons.mpr ⟨xo_32, List.forall_mem_cons.mpr ⟨xo_52, List.forall_mem_cons.mpr ⟨xo_57, fun _ h => absurd h List.not_mem_nil⟩⟩⟩⟩⟩⟩⟩)
/-- TwoWayGrammar$Grammar.attach(III)V -/
def xc_59 : ab_C := (63, [(3, 60, 0, []), ab_top, ab_top, ab_top], [], [(ab_unk, [])], [(8320, 8321), (9088, 9089)], 1)
theorem xo_59 : ab_Ok sc_P sx_sk xc_59 := ab_good_ok (env := [xc_33, xc_45]) (heads := []) (fuel := 15) (by decide +kernel) (List.forall_mem_cons.mpr ⟨xo_33, List.forall_mem_cons.mpr ⟨xo_45, fun _ h => absurd h List.not_mem_nil⟩⟩)
/-- TwoWayGrammar$Reader.readUnit(III)I -/
def xc_60 : ab_C := (55, [(3, 76, 0, []), ab_top, ab_top, (1, 4, 4, [])], [], [(ab_top, [])], [(7685, 7686), (7690, 7691), (7698, 7699), (8320, 8321), (8704, 8705), (8832, 8833), (8960, 8961), (9088, 9089), (9216, 9217), (9344, 9345), (9472, 9473), (9600, 9601), (9730, 9732), (9857, 9861)], 8)
theorem xo_60 : ab_Ok sc_P sx_sk xc_60 := ab_good_ok (env := [xc_38, xc_25, xc_56, xc_58, xc_59, xc_46, xc_47, xc_23]) (heads := []) (fuel := 60) (by decide +kernel) (List.forall_mem_cons.mpr ⟨xo_38, List.forall_mem_cons.mpr ⟨xo_25, List.forall_mem_cons.mpr ⟨xo_56, List.forall_mem_cons.mpr ⟨xo_58, List.forall_mem_cons.mpr ⟨xo_59, List.forall_mem_cons.mpr ⟨xo_46, List.forall_mem_cons.mpr ⟨xo_47, List.forall_mem_cons.mpr ⟨xo_23, fun _ h => absurd h List.not_mem_nil⟩⟩⟩⟩⟩⟩⟩⟩)
/-- TwoWayGrammar$Reader.readItems(II)V -/
def xc_61 : ab_C := (54, [(3, 76, 0, []), ab_top, (1, 4, 4, [])], [], [(ab_unk, [])], [(7685, 7686), (7690, 7691), (7698, 7699), (8320, 8321), (8704, 8705), (8832, 8833), (8960, 8961), (9088, 9089), (9216, 9217), (9344, 9345), (9472, 9473), (9600, 9601), (9730, 9732), (9857, 9861)], 9)
theorem xo_61 : ab_Ok sc_P sx_sk xc_61 := ab_good_ok (env := [xc_60, xc_48, xc_23, xc_38]) (heads := [(11, [(3, 76, 0, []), ab_top, (1, 4, 4, []), (1, 0, 1, []), (1, 0, 1, []), ab_top, (1, 0, 61, [])], [], [(0, 0, 0), (1, 6, 0)])]) (fuel := 51) (by decide +kernel) (List.forall_mem_cons.mpr ⟨xo_60, List.forall_mem_cons.mpr ⟨xo_48, List.forall_mem_cons.mpr ⟨xo_23, List.forall_mem_cons.mpr ⟨xo_38, fun _ h => absurd h List.not_mem_nil⟩⟩⟩⟩)
/-- TwoWayGrammar$Reader.readForm(II)V -/
def xc_62 : ab_C := (52, [(3, 76, 0, []), ab_top, (1, 4, 4, [])], [], [(ab_unk, [])], [(7685, 7687), (7690, 7691), (7698, 7699), (8064, 8065), (8192, 8193), (8320, 8321), (8448, 8449), (8576, 8577), (8704, 8705), (8832, 8833), (8960, 8961), (9088, 9089), (9216, 9217), (9344, 9345), (9472, 9473), (9600, 9601), (9730, 9732), (9857, 9861)], 10)
theorem xo_62 : ab_Ok sc_P sx_sk xc_62 := ab_good_ok (env := [xc_37, xc_61, xc_23, xc_25]) (heads := [(33, [(3, 76, 0, []), ab_top, (1, 4, 4, []), (1, 0, 1, []), (1, 0, 241, []), ab_top, (1, 1, 7, [])], [], [(0, 0, 0), (1, 6, 0)])]) (fuel := 49) (by decide +kernel) (List.forall_mem_cons.mpr ⟨xo_37, List.forall_mem_cons.mpr ⟨xo_61, List.forall_mem_cons.mpr ⟨xo_23, List.forall_mem_cons.mpr ⟨xo_25, fun _ h => absurd h List.not_mem_nil⟩⟩⟩⟩)
/-- TwoWayGrammar$Reader.readPart(I)I -/
def xc_63 : ab_C := (59, [(3, 76, 0, []), (1, 3, 3, [])], [], [(ab_top, [])], [(7685, 7687), (7690, 7691), (7698, 7699), (8064, 8065), (8192, 8193), (8320, 8321), (8448, 8449), (8576, 8577), (8704, 8705), (8832, 8833), (8960, 8961), (9088, 9089), (9216, 9217), (9344, 9345), (9472, 9473), (9600, 9601), (9730, 9732), (9857, 9861)], 11)
theorem xo_63 : ab_Ok sc_P sx_sk xc_63 := ab_good_ok (env := [xc_49, xc_51, xc_43, xc_23, xc_32, xc_52, xc_62]) (heads := []) (fuel := 53) (by decide +kernel) (List.forall_mem_cons.mpr ⟨xo_49, List.forall_mem_cons.mpr ⟨xo_51, List.forall_mem_cons.mpr ⟨xo_43, List.forall_mem_cons.mpr ⟨xo_23, List.forall_mem_cons.mpr ⟨xo_32, List.forall_mem_cons.mpr ⟨xo_52, List.forall_mem_cons.mpr ⟨xo_62, fun _ h => absurd h List.not_mem_nil⟩⟩⟩⟩⟩⟩⟩)
/-- TwoWayGrammar$Reader.readUnit(III)I -/
def xc_64 : ab_C := (55, [(3, 76, 0, []), ab_top, ab_top, (1, 3, 3, [])], [], [(ab_top, [])], [(7685, 7687), (7690, 7691), (7698, 7699), (8064, 8065), (8192, 8193), (8320, 8321), (8448, 8449), (8576, 8577), (8704, 8705), (8832, 8833), (8960, 8961), (9088, 9089), (9216, 9217), (9344, 9345), (9472, 9473), (9600, 9601), (9730, 9732), (9857, 9861)], 12)
theorem xo_64 : ab_Ok sc_P sx_sk xc_64 := ab_good_ok (env := [xc_38, xc_25, xc_55, xc_63, xc_59, xc_46, xc_47, xc_23]) (heads := []) (fuel := 60) (by decide +kernel) (List.forall_mem_cons.mpr ⟨xo_38, List.forall_mem_cons.mpr ⟨xo_25, List.forall_mem_cons.mpr ⟨xo_55, List.forall_mem_cons.mpr ⟨xo_63, List.forall_mem_cons.mpr ⟨xo_59, List.forall_mem_cons.mpr ⟨xo_46, List.forall_mem_cons.mpr ⟨xo_47, List.forall_mem_cons.mpr ⟨xo_23, fun _ h => absurd h List.not_mem_nil⟩⟩⟩⟩⟩⟩⟩⟩)
/-- TwoWayGrammar$Reader.readItems(II)V -/
def xc_65 : ab_C := (54, [(3, 76, 0, []), ab_top, (1, 3, 3, [])], [], [(ab_unk, [])], [(7685, 7687), (7690, 7691), (7698, 7699), (8064, 8065), (8192, 8193), (8320, 8321), (8448, 8449), (8576, 8577), (8704, 8705), (8832, 8833), (8960, 8961), (9088, 9089), (9216, 9217), (9344, 9345), (9472, 9473), (9600, 9601), (9730, 9732), (9857, 9861)], 13)
theorem xo_65 : ab_Ok sc_P sx_sk xc_65 := ab_good_ok (env := [xc_64, xc_48, xc_23, xc_38]) (heads := [(11, [(3, 76, 0, []), ab_top, (1, 3, 3, []), (1, 0, 1, []), (1, 0, 1, []), ab_top, (1, 0, 61, [])], [], [(0, 0, 0), (1, 6, 0)])]) (fuel := 51) (by decide +kernel) (List.forall_mem_cons.mpr ⟨xo_64, List.forall_mem_cons.mpr ⟨xo_48, List.forall_mem_cons.mpr ⟨xo_23, List.forall_mem_cons.mpr ⟨xo_38, fun _ h => absurd h List.not_mem_nil⟩⟩⟩⟩)
/-- TwoWayGrammar$Reader.readForm(II)V -/
def xc_66 : ab_C := (52, [(3, 76, 0, []), ab_top, (1, 3, 3, [])], [], [(ab_unk, [])], [(7685, 7687), (7690, 7691), (7698, 7699), (8064, 8065), (8192, 8193), (8320, 8321), (8448, 8449), (8576, 8577), (8704, 8705), (8832, 8833), (8960, 8961), (9088, 9089), (9216, 9217), (9344, 9345), (9472, 9473), (9600, 9601), (9730, 9732), (9857, 9861)], 14)
theorem xo_66 : ab_Ok sc_P sx_sk xc_66 := ab_good_ok (env := [xc_37, xc_65, xc_23, xc_25]) (heads := [(33, [(3, 76, 0, []), ab_top, (1, 3, 3, []), (1, 0, 1, []), (1, 0, 241, []), ab_top, (1, 1, 7, [])], [], [(0, 0, 0), (1, 6, 0)])]) (fuel := 49) (by decide +kernel) (List.forall_mem_cons.mpr ⟨xo_37, List.forall_mem_cons.mpr ⟨xo_65, List.forall_mem_cons.mpr ⟨xo_23, List.forall_mem_cons.mpr ⟨xo_25, fun _ h => absurd h List.not_mem_nil⟩⟩⟩⟩)
/-- TwoWayGrammar$Reader.readPart(I)I -/
def xc_67 : ab_C := (59, [(3, 76, 0, []), (1, 2, 2, [])], [], [(ab_top, [])], [(7685, 7687), (7690, 7691), (7698, 7699), (8064, 8065), (8192, 8193), (8320, 8321), (8448, 8449), (8576, 8577), (8704, 8705), (8832, 8833), (8960, 8961), (9088, 9089), (9216, 9217), (9344, 9345), (9472, 9473), (9600, 9601), (9730, 9732), (9857, 9861)], 15)
theorem xo_67 : ab_Ok sc_P sx_sk xc_67 := ab_good_ok (env := [xc_49, xc_51, xc_43, xc_23, xc_32, xc_52, xc_66]) (heads := []) (fuel := 53) (by decide +kernel) (List.forall_mem_cons.mpr ⟨xo_49, List.forall_mem_cons.mpr ⟨xo_51, List.forall_mem_cons.mpr ⟨xo_43, List.forall_mem_cons.mpr ⟨xo_23, List.forall_mem_cons.mpr ⟨xo_32, List.forall_mem_cons.mpr ⟨xo_52, List.forall_mem_cons.mpr ⟨xo_66, fun _ h => absurd h List.not_mem_nil⟩⟩⟩⟩⟩⟩⟩)
/-- TwoWayGrammar$Reader.readUnit(III)I -/
def xc_68 : ab_C := (55, [(3, 76, 0, []), ab_top, ab_top, (1, 2, 2, [])], [], [(ab_top, [])], [(7685, 7687), (7690, 7691), (7698, 7699), (8064, 8065), (8192, 8193), (8320, 8321), (8448, 8449), (8576, 8577), (8704, 8705), (8832, 8833), (8960, 8961), (9088, 9089), (9216, 9217), (9344, 9345), (9472, 9473), (9600, 9601), (9730, 9732), (9857, 9861)], 16)
theorem xo_68 : ab_Ok sc_P sx_sk xc_68 := ab_good_ok (env := [xc_38, xc_25, xc_54, xc_67, xc_59, xc_46, xc_47, xc_23]) (heads := []) (fuel := 60) (by decide +kernel) (List.forall_mem_cons.mpr ⟨xo_38, List.forall_mem_cons.mpr ⟨xo_25, List.forall_mem_cons.mpr ⟨xo_54, List.forall_mem_cons.mpr ⟨xo_67, List.forall_mem_cons.mpr ⟨xo_59, List.forall_mem_cons.mpr ⟨xo_46, List.forall_mem_cons.mpr ⟨xo_47, List.forall_mem_cons.mpr ⟨xo_23, fun _ h => absurd h List.not_mem_nil⟩⟩⟩⟩⟩⟩⟩⟩)
/-- TwoWayGrammar$Reader.readItems(II)V -/
def xc_69 : ab_C := (54, [(3, 76, 0, []), ab_top, (1, 2, 2, [])], [], [(ab_unk, [])], [(7685, 7687), (7690, 7691), (7698, 7699), (8064, 8065), (8192, 8193), (8320, 8321), (8448, 8449), (8576, 8577), (8704, 8705), (8832, 8833), (8960, 8961), (9088, 9089), (9216, 9217), (9344, 9345), (9472, 9473), (9600, 9601), (9730, 9732), (9857, 9861)], 17)
theorem xo_69 : ab_Ok sc_P sx_sk xc_69 := ab_good_ok (env := [xc_68, xc_48, xc_23, xc_38]) (heads := [(11, [(3, 76, 0, []), ab_top, (1, 2, 2, []), (1, 0, 1, []), (1, 0, 1, []), ab_top, (1, 0, 61, [])], [], [(0, 0, 0), (1, 6, 0)])]) (fuel := 51) (by decide +kernel) (List.forall_mem_cons.mpr ⟨xo_68, List.forall_mem_cons.mpr ⟨xo_48, List.forall_mem_cons.mpr ⟨xo_23, List.forall_mem_cons.mpr ⟨xo_38, fun _ h => absurd h List.not_mem_nil⟩⟩⟩⟩)
/-- TwoWayGrammar$Reader.readForm(II)V -/
def xc_70 : ab_C := (52, [(3, 76, 0, []), ab_top, (1, 2, 2, [])], [], [(ab_unk, [])], [(7685, 7687), (7690, 7691), (7698, 7699), (8064, 8065), (8192, 8193), (8320, 8321), (8448, 8449), (8576, 8577), (8704, 8705), (8832, 8833), (8960, 8961), (9088, 9089), (9216, 9217), (9344, 9345), (9472, 9473), (9600, 9601), (9730, 9732), (9857, 9861)], 18)
theorem xo_70 : ab_Ok sc_P sx_sk xc_70 := ab_good_ok (env := [xc_37, xc_69, xc_23, xc_25]) (heads := [(33, [(3, 76, 0, []), ab_top, (1, 2, 2, []), (1, 0, 1, []), (1, 0, 241, []), ab_top, (1, 1, 7, [])], [], [(0, 0, 0), (1, 6, 0)])]) (fuel := 49) (by decide +kernel) (List.forall_mem_cons.mpr ⟨xo_37, List.forall_mem_cons.mpr ⟨xo_69, List.forall_mem_cons.mpr ⟨xo_23, List.forall_mem_cons.mpr ⟨xo_25, fun _ h => absurd h List.not_mem_nil⟩⟩⟩⟩)
/-- TwoWayGrammar$Reader.readPart(I)I -/
def xc_71 : ab_C := (59, [(3, 76, 0, []), (1, 1, 1, [])], [], [(ab_top, [])], [(7685, 7687), (7690, 7691), (7698, 7699), (8064, 8065), (8192, 8193), (8320, 8321), (8448, 8449), (8576, 8577), (8704, 8705), (8832, 8833), (8960, 8961), (9088, 9089), (9216, 9217), (9344, 9345), (9472, 9473), (9600, 9601), (9730, 9732), (9857, 9861)], 19)
theorem xo_71 : ab_Ok sc_P sx_sk xc_71 := ab_good_ok (env := [xc_49, xc_51, xc_43, xc_23, xc_32, xc_52, xc_70]) (heads := []) (fuel := 53) (by decide +kernel) (List.forall_mem_cons.mpr ⟨xo_49, List.forall_mem_cons.mpr ⟨xo_51, List.forall_mem_cons.mpr ⟨xo_43, List.forall_mem_cons.mpr ⟨xo_23, List.forall_mem_cons.mpr ⟨xo_32, List.forall_mem_cons.mpr ⟨xo_52, List.forall_mem_cons.mpr ⟨xo_70, fun _ h => absurd h List.not_mem_nil⟩⟩⟩⟩⟩⟩⟩)
/-- TwoWayGrammar$Reader.readUnit(III)I -/
def xc_72 : ab_C := (55, [(3, 76, 0, []), ab_top, ab_top, (1, 1, 1, [])], [], [(ab_top, [])], [(7685, 7687), (7690, 7691), (7698, 7699), (8064, 8065), (8192, 8193), (8320, 8321), (8448, 8449), (8576, 8577), (8704, 8705), (8832, 8833), (8960, 8961), (9088, 9089), (9216, 9217), (9344, 9345), (9472, 9473), (9600, 9601), (9730, 9732), (9857, 9861)], 20)
theorem xo_72 : ab_Ok sc_P sx_sk xc_72 := ab_good_ok (env := [xc_38, xc_25, xc_53, xc_71, xc_59, xc_46, xc_47, xc_23]) (heads := []) (fuel := 60) (by decide +kernel) (List.forall_mem_cons.mpr ⟨xo_38, List.forall_mem_cons.mpr ⟨xo_25, List.forall_mem_cons.mpr ⟨xo_53, List.forall_mem_cons.mpr ⟨xo_71, List.forall_mem_cons.mpr ⟨xo_59, List.forall_mem_cons.mpr ⟨xo_46, List.forall_mem_cons.mpr ⟨xo_47, List.forall_mem_cons.mpr ⟨xo_23, fun _ h => absurd h List.not_mem_nil⟩⟩⟩⟩⟩⟩⟩⟩)
/-- TwoWayGrammar$Reader.readItems(II)V -/
def xc_73 : ab_C := (54, [(3, 76, 0, []), ab_top, (1, 1, 1, [])], [], [(ab_unk, [])], [(7685, 7687), (7690, 7691), (7698, 7699), (8064, 8065), (8192, 8193), (8320, 8321), (8448, 8449), (8576, 8577), (8704, 8705), (8832, 8833), (8960, 8961), (9088, 9089), (9216, 9217), (9344, 9345), (9472, 9473), (9600, 9601), (9730, 9732), (9857, 9861)], 21)
theorem xo_73 : ab_Ok sc_P sx_sk xc_73 := ab_good_ok (env := [xc_72, xc_48, xc_23, xc_38]) (heads := [(11, [(3, 76, 0, []), ab_top, (1, 1, 1, []), (1, 0, 1, []), (1, 0, 1, []), ab_top, (1, 0, 61, [])], [], [(0, 0, 0), (1, 6, 0)])]) (fuel := 51) (by decide +kernel) (List.forall_mem_cons.mpr ⟨xo_72, List.forall_mem_cons.mpr ⟨xo_48, List.forall_mem_cons.mpr ⟨xo_23, List.forall_mem_cons.mpr ⟨xo_38, fun _ h => absurd h List.not_mem_nil⟩⟩⟩⟩)
/-- TwoWayGrammar$Reader.readForm(II)V -/
def xc_74 : ab_C := (52, [(3, 76, 0, []), ab_top, (1, 1, 1, [])], [], [(ab_unk, [])], [(7685, 7687), (7690, 7691), (7698, 7699), (8064, 8065), (8192, 8193), (8320, 8321), (8448, 8449), (8576, 8577), (8704, 8705), (8832, 8833), (8960, 8961), (9088, 9089), (9216, 9217), (9344, 9345), (9472, 9473), (9600, 9601), (9730, 9732), (9857, 9861)], 22)
theorem xo_74 : ab_Ok sc_P sx_sk xc_74 := ab_good_ok (env := [xc_37, xc_73, xc_23, xc_25]) (heads := [(33, [(3, 76, 0, []), ab_top, (1, 1, 1, []), (1, 0, 1, []), (1, 0, 241, []), ab_top, (1, 1, 7, [])], [], [(0, 0, 0), (1, 6, 0)])]) (fuel := 49) (by decide +kernel) (List.forall_mem_cons.mpr ⟨xo_37, List.forall_mem_cons.mpr ⟨xo_73, List.forall_mem_cons.mpr ⟨xo_23, List.forall_mem_cons.mpr ⟨xo_25, fun _ h => absurd h List.not_mem_nil⟩⟩⟩⟩)
/-- TwoWayGrammar$Reader.readPart(I)I -/
def xc_75 : ab_C := (59, [(3, 76, 0, []), (1, 0, 0, [])], [], [(ab_top, [])], [(7685, 7687), (7690, 7691), (7698, 7699), (8064, 8065), (8192, 8193), (8320, 8321), (8448, 8449), (8576, 8577), (8704, 8705), (8832, 8833), (8960, 8961), (9088, 9089), (9216, 9217), (9344, 9345), (9472, 9473), (9600, 9601), (9730, 9732), (9857, 9861)], 23)
theorem xo_75 : ab_Ok sc_P sx_sk xc_75 := ab_good_ok (env := [xc_49, xc_51, xc_43, xc_23, xc_32, xc_52, xc_74]) (heads := []) (fuel := 53) (by decide +kernel) (List.forall_mem_cons.mpr ⟨xo_49, List.forall_mem_cons.mpr ⟨xo_51, List.forall_mem_cons.mpr ⟨xo_43, List.forall_mem_cons.mpr ⟨xo_23, List.forall_mem_cons.mpr ⟨xo_32, List.forall_mem_cons.mpr ⟨xo_52, List.forall_mem_cons.mpr ⟨xo_74, fun _ h => absurd h List.not_mem_nil⟩⟩⟩⟩⟩⟩⟩)
/-- TwoWayGrammar$Reader.readUnit(III)I -/
def xc_76 : ab_C := (55, [(3, 76, 0, []), ab_top, ab_top, (1, 0, 0, [])], [], [(ab_top, [])], [(7685, 7687), (7690, 7691), (7698, 7699), (8064, 8065), (8192, 8193), (8320, 8321), (8448, 8449), (8576, 8577), (8704, 8705), (8832, 8833), (8960, 8961), (9088, 9089), (9216, 9217), (9344, 9345), (9472, 9473), (9600, 9601), (9730, 9732), (9857, 9861)], 24)
theorem xo_76 : ab_Ok sc_P sx_sk xc_76 := ab_good_ok (env := [xc_38, xc_25, xc_41, xc_75, xc_59, xc_46, xc_47, xc_23]) (heads := []) (fuel := 60) (by decide +kernel) (List.forall_mem_cons.mpr ⟨xo_38, List.forall_mem_cons.mpr ⟨xo_25, List.forall_mem_cons.mpr ⟨xo_41, List.forall_mem_cons.mpr ⟨xo_75, List.forall_mem_cons.mpr ⟨xo_59, List.forall_mem_cons.mpr ⟨xo_46, List.forall_mem_cons.mpr ⟨xo_47, List.forall_mem_cons.mpr ⟨xo_23, fun _ h => absurd h List.not_mem_nil⟩⟩⟩⟩⟩⟩⟩⟩)
/-- TwoWayGrammar$Reader.readItems(II)V -/
def xc_77 : ab_C := (54, [(3, 76, 0, []), ab_top, (1, 0, 0, [])], [], [(ab_unk, [])], [(7685, 7687), (7690, 7691), (7698, 7699), (8064, 8065), (8192, 8193), (8320, 8321), (8448, 8449), (8576, 8577), (8704, 8705), (8832, 8833), (8960, 8961), (9088, 9089), (9216, 9217), (9344, 9345), (9472, 9473), (9600, 9601), (9730, 9732), (9857, 9861)], 25)
theorem xo_77 : ab_Ok sc_P sx_sk xc_77 := ab_good_ok (env := [xc_76, xc_48, xc_23, xc_38]) (heads := [(11, [(3, 76, 0, []), ab_top, (1, 0, 0, []), (1, 0, 1, []), (1, 0, 1, []), ab_top, (1, 0, 61, [])], [], [(0, 0, 0), (1, 6, 0)])]) (fuel := 51) (by decide +kernel) (List.forall_mem_cons.mpr ⟨xo_76, List.forall_mem_cons.mpr ⟨xo_48, List.forall_mem_cons.mpr ⟨xo_23, List.forall_mem_cons.mpr ⟨xo_38, fun _ h => absurd h List.not_mem_nil⟩⟩⟩⟩)
/-- TwoWayGrammar$Reader.readForm(II)V -/
def xc_78 : ab_C := (52, [(3, 76, 0, []), ab_top, (1, 0, 0, [])], [], [(ab_unk, [])], [(7685, 7687), (7690, 7691), (7698, 7699), (8064, 8065), (8192, 8193), (8320, 8321), (8448, 8449), (8576, 8577), (8704, 8705), (8832, 8833), (8960, 8961), (9088, 9089), (9216, 9217), (9344, 9345), (9472, 9473), (9600, 9601), (9730, 9732), (9857, 9861)], 26)
theorem xo_78 : ab_Ok sc_P sx_sk xc_78 := ab_good_ok (env := [xc_37, xc_77, xc_23, xc_25]) (heads := [(33, [(3, 76, 0, []), ab_top, (1, 0, 0, []), (1, 0, 1, []), (1, 0, 241, []), ab_top, (1, 1, 7, [])], [], [(0, 0, 0), (1, 6, 0)])]) (fuel := 49) (by decide +kernel) (List.forall_mem_cons.mpr ⟨xo_37, List.forall_mem_cons.mpr ⟨xo_77, List.forall_mem_cons.mpr ⟨xo_23, List.forall_mem_cons.mpr ⟨xo_25, fun _ h => absurd h List.not_mem_nil⟩⟩⟩⟩)
/-- TwoWayGrammar.at([II)I -/
def xc_79 : ab_C := (49, [(3, 68, 0, []), ab_top], [], [(ab_top, [])], [], 0)
theorem xo_79 : ab_Ok sc_P sx_sk xc_79 := ab_good_ok (env := []) (heads := []) (fuel := 16) (by decide +kernel) (fun _ h => absurd h List.not_mem_nil)
/-- TwoWayGrammar.at([II)I -/
def xc_80 : ab_C := (49, [(3, 69, 0, []), ab_top], [], [(ab_top, [])], [], 0)
theorem xo_80 : ab_Ok sc_P sx_sk xc_80 := ab_good_ok (env := []) (heads := []) (fuel := 16) (by decide +kernel) (fun _ h => absurd h List.not_mem_nil)
/-- TwoWayGrammar.at([II)I -/
def xc_81 : ab_C := (49, [(3, 70, 0, []), ab_top], [], [(ab_top, [])], [], 0)
theorem xo_81 : ab_Ok sc_P sx_sk xc_81 := ab_good_ok (env := []) (heads := []) (fuel := 16) (by decide +kernel) (fun _ h => absurd h List.not_mem_nil)
/-- TwoWayGrammar$Reader.nameUses()V -/
def xc_82 : ab_C := (64, [(3, 76, 0, [])], [], [(ab_unk, [])], [(8832, 8833), (9730, 9732)], 2)
theorem xo_82 : ab_Ok sc_P sx_sk xc_82 := ab_good_ok (env := [xc_79, xc_80, xc_30, xc_43, xc_81, xc_25]) (heads := [(2, [(3, 76, 0, []), (1, 0, 2147483647, []), ab_unk], [], [(0, 0, 0), (1, 1, 0)])]) (fuel := 49) (by decide +kernel) (List.forall_mem_cons.mpr ⟨xo_79, List.forall_mem_cons.mpr ⟨xo_80, List.forall_mem_cons.mpr ⟨xo_30, List.forall_mem_cons.mpr ⟨xo_43, List.forall_mem_cons.mpr ⟨xo_81, List.forall_mem_cons.mpr ⟨xo_25, fun _ h => absurd h List.not_mem_nil⟩⟩⟩⟩⟩⟩)
/-- TwoWayGrammar$Reader.read()I -/
def xc_83 : ab_C := (14, [(3, 76, 0, [])], [], [(ab_top, [])], [(7680, 7681), (7685, 7687), (7690, 7691), (7698, 7699), (7808, 7809), (7936, 7937), (8064, 8065), (8192, 8193), (8320, 8321), (8448, 8449), (8576, 8577), (8704, 8705), (8832, 8833), (8960, 8961), (9088, 9089), (9216, 9217), (9344, 9345), (9472, 9473), (9600, 9601), (9730, 9732), (9857, 9861)], 27)
theorem xo_83 : ab_Ok sc_P sx_sk xc_83 := ab_good_ok (env := [xc_4, xc_24, xc_31, xc_32, xc_78, xc_82]) (heads := [(26, [(3, 76, 0, []), (1, 0, 11, []), ab_unk], [], [(0, 0, 0), (1, 1, 0)])]) (fuel := 33) (by decide +kernel) (List.forall_mem_cons.mpr ⟨xo_4, List.forall_mem_cons.mpr ⟨xo_24, List.forall_mem_cons.mpr ⟨xo_31, List.forall_mem_cons.mpr ⟨xo_32, List.forall_mem_cons.mpr ⟨xo_78, List.forall_mem_cons.mpr ⟨xo_82, fun _ h => absurd h List.not_mem_nil⟩⟩⟩⟩⟩⟩)
/-- TwoWayGrammar.put([III)V -/
def xc_84 : ab_C := (16, [(3, 79, 0, []), ab_top, ab_top], [], [(ab_unk, [])], [(10112, 10113)], 0)
theorem xo_84 : ab_Ok sc_P sx_sk xc_84 := ab_good_ok (env := []) (heads := []) (fuel := 16) (by decide +kernel) (fun _ h => absurd h List.not_mem_nil)
/-- TwoWayGrammar.put([JIJ)V -/
def xc_85 : ab_C := (66, [(3, 80, 0, []), ab_top, ab_topL], [], [(ab_unk, [])], [(10240, 10241)], 0)
theorem xo_85 : ab_Ok sc_P sx_sk xc_85 := ab_good_ok (env := []) (heads := []) (fuel := 16) (by decide +kernel) (fun _ h => absurd h List.not_mem_nil)
/-- TwoWayGrammar.put([JIJ)V -/
def xc_86 : ab_C := (66, [(3, 81, 0, []), ab_top, ab_topL], [], [(ab_unk, [])], [(10368, 10369)], 0)
theorem xo_86 : ab_Ok sc_P sx_sk xc_86 := ab_good_ok (env := []) (heads := []) (fuel := 16) (by decide +kernel) (fun _ h => absurd h List.not_mem_nil)
/-- TwoWayGrammar.put([III)V -/
def xc_87 : ab_C := (16, [(3, 82, 0, []), ab_top, ab_top], [], [(ab_unk, [])], [(10496, 10497)], 0)
theorem xo_87 : ab_Ok sc_P sx_sk xc_87 := ab_good_ok (env := []) (heads := []) (fuel := 16) (by decide +kernel) (fun _ h => absurd h List.not_mem_nil)
/-- TwoWayGrammar.put([III)V -/
def xc_88 : ab_C := (16, [(3, 83, 0, []), ab_top, ab_top], [], [(ab_unk, [])], [(10624, 10625)], 0)
theorem xo_88 : ab_Ok sc_P sx_sk xc_88 := ab_good_ok (env := []) (heads := []) (fuel := 16) (by decide +kernel) (fun _ h => absurd h List.not_mem_nil)
/-- TwoWayGrammar.at([II)I -/
def xc_89 : ab_C := (49, [(3, 63, 0, []), ab_top], [], [(ab_top, [])], [], 0)
theorem xo_89 : ab_Ok sc_P sx_sk xc_89 := ab_good_ok (env := []) (heads := []) (fuel := 16) (by decide +kernel) (fun _ h => absurd h List.not_mem_nil)
/-- TwoWayGrammar.at([II)I -/
def xc_90 : ab_C := (49, [(3, 65, 0, []), ab_top], [], [(ab_top, [])], [], 0)
theorem xo_90 : ab_Ok sc_P sx_sk xc_90 := ab_good_ok (env := []) (heads := []) (fuel := 16) (by decide +kernel) (fun _ h => absurd h List.not_mem_nil)
/-- TwoWayGrammar$Grammar.formIn(I)I -/
def xc_91 : ab_C := (71, [(3, 60, 0, []), ab_top], [], [(ab_top, [])], [], 1)
theorem xo_91 : ab_Ok sc_P sx_sk xc_91 := ab_good_ok (env := [xc_79, xc_80]) (heads := []) (fuel := 22) (by decide +kernel) (List.forall_mem_cons.mpr ⟨xo_79, List.forall_mem_cons.mpr ⟨xo_80, fun _ h => absurd h List.not_mem_nil⟩⟩)
/-- TwoWayGrammar.at([II)I -/
def xc_92 : ab_C := (49, [(3, 79, 0, []), ab_top], [], [(ab_top, [])], [], 0)
theorem xo_92 : ab_Ok sc_P sx_sk xc_92 := ab_good_ok (env := []) (heads := []) (fuel := 16) (by decide +kernel) (fun _ h => absurd h List.not_mem_nil)
/-- TwoWayGrammar.put([III)V -/
def xc_93 : ab_C := (16, [(3, 89, 0, []), ab_top, ab_top], [], [(ab_unk, [])], [(11392, 11393)], 0)
theorem xo_93 : ab_Ok sc_P sx_sk xc_93 := ab_good_ok (env := []) (heads := []) (fuel := 16) (by decide +kernel) (fun _ h => absurd h List.not_mem_nil)
/-- TwoWayGrammar.at([JI)J -/
def xc_94 : ab_C := (72, [(3, 80, 0, []), ab_top], [], [(ab_topL, [])], [], 0)
theorem xo_94 : ab_Ok sc_P sx_sk xc_94 := ab_good_ok (env := []) (heads := []) (fuel := 16) (by decide +kernel) (fun _ h => absurd h List.not_mem_nil)
/-- TwoWayGrammar.put([JIJ)V -/
def xc_95 : ab_C := (66, [(3, 90, 0, []), ab_top, ab_topL], [], [(ab_unk, [])], [(11520, 11521)], 0)
theorem xo_95 : ab_Ok sc_P sx_sk xc_95 := ab_good_ok (env := []) (heads := []) (fuel := 16) (by decide +kernel) (fun _ h => absurd h List.not_mem_nil)
/-- TwoWayGrammar$Sets.refreshPart(I)V -/
def xc_96 : ab_C := (70, [(3, 78, 0, []), ab_top], [], [(ab_unk, [])], [(11392, 11393), (11520, 11521)], 2)
theorem xo_96 : ab_Ok sc_P sx_sk xc_96 := ab_good_ok (env := [xc_91, xc_92, xc_93, xc_94, xc_95, xc_79, xc_80]) (heads := []) (fuel := 58) (by decide +kernel) (List.forall_mem_cons.mpr ⟨xo_91, List.forall_mem_cons.mpr ⟨xo_92, List.forall_mem_cons.mpr ⟨xo_93, List.forall_mem_cons.mpr ⟨xo_94, List.forall_mem_cons.mpr ⟨xo_95, List.forall_mem_cons.mpr ⟨xo_79, List.forall_mem_cons.mpr ⟨xo_80, fun _ h => absurd h List.not_mem_nil⟩⟩⟩⟩⟩⟩⟩)
/-- TwoWayGrammar.at([JI)J -/
def xc_97 : ab_C := (72, [(3, 90, 0, []), ab_top], [], [(ab_topL, [])], [], 0)
theorem xo_97 : ab_Ok sc_P sx_sk xc_97 := ab_good_ok (env := []) (heads := []) (fuel := 16) (by decide +kernel) (fun _ h => absurd h List.not_mem_nil)
/-- TwoWayGrammar.at([II)I -/
def xc_98 : ab_C := (49, [(3, 83, 0, []), ab_top], [], [(ab_top, [])], [], 0)
theorem xo_98 : ab_Ok sc_P sx_sk xc_98 := ab_good_ok (env := []) (heads := []) (fuel := 16) (by decide +kernel) (fun _ h => absurd h List.not_mem_nil)
/-- TwoWayGrammar$Sets.begins(I)I -/
def xc_99 : ab_C := (73, [(3, 78, 0, []), ab_top], [], [(ab_top, [])], [], 2)
theorem xo_99 : ab_Ok sc_P sx_sk xc_99 := ab_good_ok (env := [xc_91, xc_79, xc_98]) (heads := []) (fuel := 32) (by decide +kernel) (List.forall_mem_cons.mpr ⟨xo_91, List.forall_mem_cons.mpr ⟨xo_79, List.forall_mem_cons.mpr ⟨xo_98, fun _ h => absurd h List.not_mem_nil⟩⟩⟩)
/-- TwoWayGrammar.at([II)I -/
def xc_100 : ab_C := (49, [(3, 72, 0, []), ab_top], [], [(ab_top, [])], [], 0)
theorem xo_100 : ab_Ok sc_P sx_sk xc_100 := ab_good_ok (env := []) (heads := []) (fuel := 16) (by decide +kernel) (fun _ h => absurd h List.not_mem_nil)
/-- TwoWayGrammar.at([II)I -/
def xc_101 : ab_C := (49, [(3, 89, 0, []), ab_top], [], [(ab_top, [])], [], 0)
theorem xo_101 : ab_Ok sc_P sx_sk xc_101 := ab_good_ok (env := []) (heads := []) (fuel := 16) (by decide +kernel) (fun _ h => absurd h List.not_mem_nil)
/-- TwoWayGrammar$Sets.mayBePassed(I)Z -/
def xc_102 : ab_C := (74, [(3, 78, 0, []), ab_top], [], [((1, 0, 1, []), [])], [], 1)
theorem xo_102 : ab_Ok sc_P sx_sk xc_102 := ab_good_ok (env := [xc_100, xc_101]) (heads := []) (fuel := 20) (by decide +kernel) (List.forall_mem_cons.mpr ⟨xo_100, List.forall_mem_cons.mpr ⟨xo_101, fun _ h => absurd h List.not_mem_nil⟩⟩)
/-- TwoWayGrammar.at([II)I -/
def xc_103 : ab_C := (49, [(3, 82, 0, []), ab_top], [], [(ab_top, [])], [], 0)
theorem xo_103 : ab_Ok sc_P sx_sk xc_103 := ab_good_ok (env := []) (heads := []) (fuel := 16) (by decide +kernel) (fun _ h => absurd h List.not_mem_nil)
/-- TwoWayGrammar$Sets.height(I)I -/
def xc_104 : ab_C := (75, [(3, 78, 0, []), ab_top], [], [(ab_top, [])], [], 2)
theorem xo_104 : ab_Ok sc_P sx_sk xc_104 := ab_good_ok (env := [xc_91, xc_100, xc_103, xc_79]) (heads := []) (fuel := 38) (by decide +kernel) (List.forall_mem_cons.mpr ⟨xo_91, List.forall_mem_cons.mpr ⟨xo_100, List.forall_mem_cons.mpr ⟨xo_103, List.forall_mem_cons.mpr ⟨xo_79, fun _ h => absurd h List.not_mem_nil⟩⟩⟩⟩)
/-- TwoWayGrammar.at([II)I -/
def xc_105 : ab_C := (49, [(3, 71, 0, []), ab_top], [], [(ab_top, [])], [], 0)
theorem xo_105 : ab_Ok sc_P sx_sk xc_105 := ab_good_ok (env := []) (heads := []) (fuel := 16) (by decide +kernel) (fun _ h => absurd h List.not_mem_nil)
/-- TwoWayGrammar.put([III)V -/
def xc_106 : ab_C := (16, [(3, 84, 0, []), ab_top, ab_top], [], [(ab_unk, [])], [(10752, 10753)], 0)
theorem xo_106 : ab_Ok sc_P sx_sk xc_106 := ab_good_ok (env := []) (heads := []) (fuel := 16) (by decide +kernel) (fun _ h => absurd h List.not_mem_nil)
/-- TwoWayGrammar.put([JIJ)V -/
def xc_107 : ab_C := (66, [(3, 85, 0, []), ab_top, ab_topL], [], [(ab_unk, [])], [(10880, 10881)], 0)
theorem xo_107 : ab_Ok sc_P sx_sk xc_107 := ab_good_ok (env := []) (heads := []) (fuel := 16) (by decide +kernel) (fun _ h => absurd h List.not_mem_nil)
/-- TwoWayGrammar.put([III)V -/
def xc_108 : ab_C := (16, [(3, 86, 0, []), ab_top, ab_top], [], [(ab_unk, [])], [(11008, 11009)], 0)
theorem xo_108 : ab_Ok sc_P sx_sk xc_108 := ab_good_ok (env := []) (heads := []) (fuel := 16) (by decide +kernel) (fun _ h => absurd h List.not_mem_nil)
/-- TwoWayGrammar.put([III)V -/
def xc_109 : ab_C := (16, [(3, 87, 0, []), ab_top, ab_top], [], [(ab_unk, [])], [(11136, 11137)], 0)
theorem xo_109 : ab_Ok sc_P sx_sk xc_109 := ab_good_ok (env := []) (heads := []) (fuel := 16) (by decide +kernel) (fun _ h => absurd h List.not_mem_nil)
/-- TwoWayGrammar$Sets.refreshAlternative(I)V -/
def xc_110 : ab_C := (69, [(3, 78, 0, []), ab_top], [], [(ab_unk, [])], [(10752, 10753), (10880, 10881), (11008, 11009), (11136, 11137), (11392, 11393), (11520, 11521)], 3)
theorem xo_110 : ab_Ok sc_P sx_sk xc_110 := ab_good_ok (env := [xc_90, xc_96, xc_97, xc_99, xc_102, xc_104, xc_105, xc_106, xc_107, xc_108, xc_109]) (heads := [(26, [(3, 78, 0, []), ab_top, (1, 0, 1, []), ab_topL, ab_unk, ab_top, (1, 0, 2147483647, []), ab_top, (1, 0, 60, [])], [], [(0, 0, 0), (1, 8, 0)])]) (fuel := 53) (by decide +kernel) (List.forall_mem_cons.mpr ⟨xo_90, List.forall_mem_cons.mpr ⟨xo_96, List.forall_mem_cons.mpr ⟨xo_97, List.forall_mem_cons.mpr ⟨xo_99, List.forall_mem_cons.mpr ⟨xo_102, List.forall_mem_cons.mpr ⟨xo_104, List.forall_mem_cons.mpr ⟨xo_105, List.forall_mem_cons.mpr ⟨xo_106, List.forall_mem_cons.mpr ⟨xo_107, List.forall_mem_cons.mpr ⟨xo_108, List.forall_mem_cons.mpr ⟨xo_109, fun _ h => absurd h List.not_mem_nil⟩⟩⟩⟩⟩⟩⟩⟩⟩⟩⟩)
/-- TwoWayGrammar.at([II)I -/
def xc_111 : ab_C := (49, [(3, 84, 0, []), ab_top], [], [(ab_top, [])], [], 0)
theorem xo_111 : ab_Ok sc_P sx_sk xc_111 := ab_good_ok (env := []) (heads := []) (fuel := 16) (by decide +kernel) (fun _ h => absurd h List.not_mem_nil)
/-- TwoWayGrammar.at([JI)J -/
def xc_112 : ab_C := (72, [(3, 85, 0, []), ab_top], [], [(ab_topL, [])], [], 0)
theorem xo_112 : ab_Ok sc_P sx_sk xc_112 := ab_good_ok (env := []) (heads := []) (fuel := 16) (by decide +kernel) (fun _ h => absurd h List.not_mem_nil)
/-- TwoWayGrammar.at([II)I -/
def xc_113 : ab_C := (49, [(3, 86, 0, []), ab_top], [], [(ab_top, [])], [], 0)
theorem xo_113 : ab_Ok sc_P sx_sk xc_113 := ab_good_ok (env := []) (heads := []) (fuel := 16) (by decide +kernel) (fun _ h => absurd h List.not_mem_nil)
/-- TwoWayGrammar.at([II)I -/
def xc_114 : ab_C := (49, [(3, 87, 0, []), ab_top], [], [(ab_top, [])], [], 0)
theorem xo_114 : ab_Ok sc_P sx_sk xc_114 := ab_good_ok (env := []) (heads := []) (fuel := 16) (by decide +kernel) (fun _ h => absurd h List.not_mem_nil)
/-- TwoWayGrammar.at([II)I -/
def xc_115 : ab_C := (49, [(3, 66, 0, []), ab_top], [], [(ab_top, [])], [], 0)
theorem xo_115 : ab_Ok sc_P sx_sk xc_115 := ab_good_ok (env := []) (heads := []) (fuel := 16) (by decide +kernel) (fun _ h => absurd h List.not_mem_nil)
/-- TwoWayGrammar$Sets.refreshForm(I)V -/
def xc_116 : ab_C := (68, [(3, 78, 0, []), ab_top], [], [(ab_unk, [])], [(9999, 10000), (10112, 10113), (10240, 10241), (10496, 10497), (10624, 10625), (10752, 10753), (10880, 10881), (11008, 11009), (11136, 11137), (11392, 11393), (11520, 11521)], 4)
theorem xo_116 : ab_Ok sc_P sx_sk xc_116 := ab_good_ok (env := [xc_89, xc_36, xc_110, xc_111, xc_112, xc_113, xc_114, xc_115, xc_92, xc_94, xc_98, xc_103, xc_84, xc_85, xc_88, xc_87]) (heads := [(28, [(3, 78, 0, []), ab_top, ab_top, ab_topL, ab_unk, ab_top, (1, (-2147483648), 1000, []), ab_top, (1, 0, 6, [])], [], [(0, 0, 0), (1, 8, 0)])]) (fuel := 68) (by decide +kernel) (List.forall_mem_cons.mpr ⟨xo_89, List.forall_mem_cons.mpr ⟨xo_36, List.forall_mem_cons.mpr ⟨xo_110, List.forall_mem_cons.mpr ⟨xo_111, List.forall_mem_cons.mpr ⟨xo_112, List.forall_mem_cons.mpr ⟨xo_113, List.forall_mem_cons.mpr ⟨xo_114, List.forall_mem_cons.mpr ⟨xo_115, List.forall_mem_cons.mpr ⟨xo_92, List.forall_mem_cons.mpr ⟨xo_94, List.forall_mem_cons.mpr ⟨xo_98, List.forall_mem_cons.mpr ⟨xo_103, List.forall_mem_cons.mpr ⟨xo_84, List.forall_mem_cons.mpr ⟨xo_85, List.forall_mem_cons.mpr ⟨xo_88, List.forall_mem_cons.mpr ⟨xo_87, fun _ h => absurd h List.not_mem_nil⟩⟩⟩⟩⟩⟩⟩⟩⟩⟩⟩⟩⟩⟩⟩⟩)
/-- TwoWayGrammar$Sets.spreadStarts()V -/
def xc_117 : ab_C := (67, [(3, 78, 0, [])], [], [(ab_unk, [])], [(9999, 10000), (10112, 10113), (10240, 10241), (10496, 10497), (10624, 10625), (10752, 10753), (10880, 10881), (11008, 11009), (11136, 11137), (11392, 11393), (11520, 11521)], 5)
theorem xo_117 : ab_Ok sc_P sx_sk xc_117 := ab_good_ok (env := [xc_116]) (heads := [(7, [(3, 78, 0, []), (1, 0, 100000, []), ab_unk], [], [(0, 0, 0), (1, 1, 0)]), (28, [(3, 78, 0, []), (1, 0, 99999, []), (1, (-1), 69, [])], [], [(0, 0, 0), (1, 1, 0), (0, 0, 0), (2, 2, 0)])]) (fuel := 17) (by decide +kernel) (List.forall_mem_cons.mpr ⟨xo_116, fun _ h => absurd h List.not_mem_nil⟩)
/-- TwoWayGrammar.at([JI)J -/
def xc_118 : ab_C := (72, [(3, 81, 0, []), ab_top], [], [(ab_topL, [])], [], 0)
theorem xo_118 : ab_Ok sc_P sx_sk xc_118 := ab_good_ok (env := []) (heads := []) (fuel := 16) (by decide +kernel) (fun _ h => absurd h List.not_mem_nil)
/-- TwoWayGrammar$Sets.startsFrom(IJ)J -/
def xc_119 : ab_C := (78, [(3, 78, 0, []), ab_top, ab_topL], [], [(ab_topL, [])], [], 2)
theorem xo_119 : ab_Ok sc_P sx_sk xc_119 := ab_good_ok (env := [xc_97, xc_102, xc_105]) (heads := [(12, [(3, 78, 0, []), ab_top, ab_topL, ab_unk, ab_topL, ab_unk, (1, 0, 1, []), ab_top, (1, 0, 60, [])], [], [(0, 0, 0), (1, 8, 0)])]) (fuel := 33) (by decide +kernel) (List.forall_mem_cons.mpr ⟨xo_97, List.forall_mem_cons.mpr ⟨xo_102, List.forall_mem_cons.mpr ⟨xo_105, fun _ h => absurd h List.not_mem_nil⟩⟩⟩)
/-- TwoWayGrammar.put([JIJ)V -/
def xc_120 : ab_C := (66, [(3, 91, 0, []), ab_top, ab_topL], [], [(ab_unk, [])], [(11648, 11649)], 0)
theorem xo_120 : ab_Ok sc_P sx_sk xc_120 := ab_good_ok (env := []) (heads := []) (fuel := 16) (by decide +kernel) (fun _ h => absurd h List.not_mem_nil)
/-- TwoWayGrammar$Sets.spreadInto(IJ)V -/
def xc_121 : ab_C := (77, [(3, 78, 0, []), ab_top, ab_topL], [], [(ab_unk, [])], [(9999, 10000), (10368, 10369), (11648, 11649)], 3)
theorem xo_121 : ab_Ok sc_P sx_sk xc_121 := ab_good_ok (env := [xc_90, xc_105, xc_119, xc_120, xc_100, xc_97, xc_91, xc_118, xc_86]) (heads := [(16, [(3, 78, 0, []), ab_top, ab_topL, ab_unk, ab_top, (1, 0, 60, []), ab_unk, ab_unk, ab_unk, ab_unk, ab_unk, ab_unk], [], [(0, 0, 0), (1, 5, 0)])]) (fuel := 79) (by decide +kernel) (List.forall_mem_cons.mpr ⟨xo_90, List.forall_mem_cons.mpr ⟨xo_105, List.forall_mem_cons.mpr ⟨xo_119, List.forall_mem_cons.mpr ⟨xo_120, List.forall_mem_cons.mpr ⟨xo_100, List.forall_mem_cons.mpr ⟨xo_97, List.forall_mem_cons.mpr ⟨xo_91, List.forall_mem_cons.mpr ⟨xo_118, List.forall_mem_cons.mpr ⟨xo_86, fun _ h => absurd h List.not_mem_nil⟩⟩⟩⟩⟩⟩⟩⟩⟩)
/-- TwoWayGrammar$Sets.spreadFollows()V -/
def xc_122 : ab_C := (76, [(3, 78, 0, [])], [], [(ab_unk, [])], [(9999, 10000), (10368, 10369), (11648, 11649)], 4)
theorem xo_122 : ab_Ok sc_P sx_sk xc_122 := ab_good_ok (env := [xc_89, xc_36, xc_118, xc_121, xc_115]) (heads := [(7, [(3, 78, 0, []), (1, 0, 100000, []), ab_unk, ab_unk, ab_unk], [], [(0, 0, 0), (1, 1, 0)]), (27, [(3, 78, 0, []), (1, 0, 99999, []), (1, 0, 70, []), ab_unk, ab_unk], [], [(0, 0, 0), (1, 1, 0), (0, 0, 0), (1, 2, 0)]), (48, [(3, 78, 0, []), (1, 0, 99999, []), (1, 0, 69, []), ab_top, (1, 0, 6, [])], [], [(0, 0, 0), (1, 1, 0), (0, 0, 0), (1, 2, 0), (0, 0, 0), (1, 4, 0)])]) (fuel := 31) (by decide +kernel) (List.forall_mem_cons.mpr ⟨xo_89, List.forall_mem_cons.mpr ⟨xo_36, List.forall_mem_cons.mpr ⟨xo_118, List.forall_mem_cons.mpr ⟨xo_121, List.forall_mem_cons.mpr ⟨xo_115, fun _ h => absurd h List.not_mem_nil⟩⟩⟩⟩⟩)
/-- TwoWayGrammar.put([JIJ)V -/
def xc_123 : ab_C := (66, [(3, 88, 0, []), ab_top, ab_topL], [], [(ab_unk, [])], [(11264, 11265)], 0)
theorem xo_123 : ab_Ok sc_P sx_sk xc_123 := ab_good_ok (env := []) (heads := []) (fuel := 16) (by decide +kernel) (fun _ h => absurd h List.not_mem_nil)
/-- TwoWayGrammar$Sets.findDirectors()V -/
def xc_124 : ab_C := (79, [(3, 78, 0, [])], [], [(ab_unk, [])], [(11264, 11265)], 1)
theorem xo_124 : ab_Ok sc_P sx_sk xc_124 := ab_good_ok (env := [xc_89, xc_36, xc_111, xc_118, xc_112, xc_123, xc_115]) (heads := [(2, [(3, 78, 0, []), (1, 0, 70, []), ab_unk, ab_unk, ab_unk, ab_unk], [], [(0, 0, 0), (1, 1, 0)]), (22, [(3, 78, 0, []), (1, 0, 69, []), ab_top, (1, 0, 6, []), ab_unk, ab_unk], [], [(0, 0, 0), (1, 1, 0), (0, 0, 0), (1, 3, 0)])]) (fuel := 46) (by decide +kernel) (List.forall_mem_cons.mpr ⟨xo_89, List.forall_mem_cons.mpr ⟨xo_36, List.forall_mem_cons.mpr ⟨xo_111, List.forall_mem_cons.mpr ⟨xo_118, List.forall_mem_cons.mpr ⟨xo_112, List.forall_mem_cons.mpr ⟨xo_123, List.forall_mem_cons.mpr ⟨xo_115, fun _ h => absurd h List.not_mem_nil⟩⟩⟩⟩⟩⟩⟩)
/-- TwoWayGrammar.put([III)V -/
def xc_125 : ab_C := (16, [(3, 92, 0, []), ab_top, ab_top], [], [(ab_unk, [])], [(11776, 11777)], 0)
theorem xo_125 : ab_Ok sc_P sx_sk xc_125 := ab_good_ok (env := []) (heads := []) (fuel := 16) (by decide +kernel) (fun _ h => absurd h List.not_mem_nil)
/-- TwoWayGrammar.at([II)I -/
def xc_126 : ab_C := (49, [(3, 92, 0, []), ab_top], [], [(ab_top, [])], [], 0)
theorem xo_126 : ab_Ok sc_P sx_sk xc_126 := ab_good_ok (env := []) (heads := []) (fuel := 16) (by decide +kernel) (fun _ h => absurd h List.not_mem_nil)
/-- TwoWayGrammar$Sets.groupTops(I)I -/
def xc_127 : ab_C := (81, [(3, 78, 0, []), ab_top], [], [(ab_top, [])], [], 1)
theorem xo_127 : ab_Ok sc_P sx_sk xc_127 := ab_good_ok (env := [xc_36, xc_89, xc_90, xc_126, xc_105]) (heads := [(44, [(3, 78, 0, []), ab_top, ab_top, ab_top, (1, 0, 60, [])], [], [(0, 0, 0), (1, 4, 0)])]) (fuel := 27) (by decide +kernel) (List.forall_mem_cons.mpr ⟨xo_36, List.forall_mem_cons.mpr ⟨xo_89, List.forall_mem_cons.mpr ⟨xo_90, List.forall_mem_cons.mpr ⟨xo_126, List.forall_mem_cons.mpr ⟨xo_105, fun _ h => absurd h List.not_mem_nil⟩⟩⟩⟩⟩)
/-- TwoWayGrammar$Sets.findTops()V -/
def xc_128 : ab_C := (80, [(3, 78, 0, [])], [], [(ab_unk, [])], [(11776, 11777)], 2)
theorem xo_128 : ab_Ok sc_P sx_sk xc_128 := ab_good_ok (env := [xc_79, xc_100, xc_125, xc_80, xc_127]) (heads := [(10, [(3, 78, 0, []), ab_top, ab_unk, ab_unk], [(7690, ab_top)], [(0, 0, 0), (2, 1, 0)])]) (fuel := 50) (by decide +kernel) (List.forall_mem_cons.mpr ⟨xo_79, List.forall_mem_cons.mpr ⟨xo_100, List.forall_mem_cons.mpr ⟨xo_125, List.forall_mem_cons.mpr ⟨xo_80, List.forall_mem_cons.mpr ⟨xo_127, fun _ h => absurd h List.not_mem_nil⟩⟩⟩⟩⟩)
/-- TwoWayGrammar$Sets.work()V -/
def xc_129 : ab_C := (65, [(3, 78, 0, [])], [], [(ab_unk, [])], [(9999, 10000), (10112, 10113), (10240, 10241), (10368, 10369), (10496, 10497), (10624, 10625), (10752, 10753), (10880, 10881), (11008, 11009), (11136, 11137), (11264, 11265), (11392, 11393), (11520, 11521), (11648, 11649), (11776, 11777)], 6)
theorem xo_129 : ab_Ok sc_P sx_sk xc_129 := ab_good_ok (env := [xc_84, xc_85, xc_86, xc_87, xc_88, xc_117, xc_122, xc_124, xc_128]) (heads := [(2, [(3, 78, 0, []), (1, 0, 70, [])], [], [(0, 0, 0), (1, 1, 0)])]) (fuel := 39) (by decide +kernel) (List.forall_mem_cons.mpr ⟨xo_84, List.forall_mem_cons.mpr ⟨xo_85, List.forall_mem_cons.mpr ⟨xo_86, List.forall_mem_cons.mpr ⟨xo_87, List.forall_mem_cons.mpr ⟨xo_88, List.forall_mem_cons.mpr ⟨xo_117, List.forall_mem_cons.mpr ⟨xo_122, List.forall_mem_cons.mpr ⟨xo_124, List.forall_mem_cons.mpr ⟨xo_128, fun _ h => absurd h List.not_mem_nil⟩⟩⟩⟩⟩⟩⟩⟩⟩)
/-- TwoWayGrammar.at([II)I -/
def xc_130 : ab_C := (49, [(3, 62, 0, []), ab_top], [], [(ab_top, [])], [], 0)
theorem xo_130 : ab_Ok sc_P sx_sk xc_130 := ab_good_ok (env := []) (heads := []) (fuel := 16) (by decide +kernel) (fun _ h => absurd h List.not_mem_nil)
/-- TwoWayGrammar$Checks.blame(II)V -/
def xc_131 : ab_C := (84, [(3, 93, 0, []), ab_top, ab_top], [], [(ab_unk, [])], [(11906, 11907)], 0)
theorem xo_131 : ab_Ok sc_P sx_sk xc_131 := ab_good_ok (env := []) (heads := []) (fuel := 22) (by decide +kernel) (fun _ h => absurd h List.not_mem_nil)
/-- TwoWayGrammar$Sets.isFinite(I)Z -/
def xc_132 : ab_C := (85, [(3, 78, 0, []), ab_top], [], [((1, 0, 1, []), [])], [], 1)
theorem xo_132 : ab_Ok sc_P sx_sk xc_132 := ab_good_ok (env := [xc_103]) (heads := []) (fuel := 14) (by decide +kernel) (List.forall_mem_cons.mpr ⟨xo_103, fun _ h => absurd h List.not_mem_nil⟩)
/-- TwoWayGrammar$Checks.checkRules()V -/
def xc_133 : ab_C := (83, [(3, 93, 0, [])], [], [(ab_unk, [])], [(11906, 11907)], 2)
theorem xo_133 : ab_Ok sc_P sx_sk xc_133 := ab_good_ok (env := [xc_130, xc_98, xc_131, xc_132]) (heads := [(2, [(3, 93, 0, []), (1, 0, 2147483647, []), ab_unk], [], [(0, 0, 0), (1, 1, 0)])]) (fuel := 42) (by decide +kernel) (List.forall_mem_cons.mpr ⟨xo_130, List.forall_mem_cons.mpr ⟨xo_98, List.forall_mem_cons.mpr ⟨xo_131, List.forall_mem_cons.mpr ⟨xo_132, fun _ h => absurd h List.not_mem_nil⟩⟩⟩⟩)
/-- TwoWayGrammar.at([II)I -/
def xc_134 : ab_C := (49, [(3, 73, 0, []), ab_top], [], [(ab_top, [])], [], 0)
theorem xo_134 : ab_Ok sc_P sx_sk xc_134 := ab_good_ok (env := []) (heads := []) (fuel := 16) (by decide +kernel) (fun _ h => absurd h List.not_mem_nil)
/-- TwoWayGrammar.at([JI)J -/
def xc_135 : ab_C := (72, [(3, 91, 0, []), ab_top], [], [(ab_topL, [])], [], 0)
theorem xo_135 : ab_Ok sc_P sx_sk xc_135 := ab_good_ok (env := []) (heads := []) (fuel := 16) (by decide +kernel) (fun _ h => absurd h List.not_mem_nil)
/-- TwoWayGrammar$Checks.checkRepeats()V -/
def xc_136 : ab_C := (86, [(3, 93, 0, [])], [], [(ab_unk, [])], [(11906, 11907)], 1)
theorem xo_136 : ab_Ok sc_P sx_sk xc_136 := ab_good_ok (env := [xc_100, xc_134, xc_101, xc_131, xc_97, xc_135]) (heads := [(2, [(3, 93, 0, []), (1, 0, 2147483647, []), ab_unk], [], [(0, 0, 0), (1, 1, 0)])]) (fuel := 54) (by decide +kernel) (List.forall_mem_cons.mpr ⟨xo_100, List.forall_mem_cons.mpr ⟨xo_134, List.forall_mem_cons.mpr ⟨xo_101, List.forall_mem_cons.mpr ⟨xo_131, List.forall_mem_cons.mpr ⟨xo_97, List.forall_mem_cons.mpr ⟨xo_135, fun _ h => absurd h List.not_mem_nil⟩⟩⟩⟩⟩⟩)
/-- TwoWayGrammar.at([JI)J -/
def xc_137 : ab_C := (72, [(3, 88, 0, []), ab_top], [], [(ab_topL, [])], [], 0)
theorem xo_137 : ab_Ok sc_P sx_sk xc_137 := ab_good_ok (env := []) (heads := []) (fuel := 16) (by decide +kernel) (fun _ h => absurd h List.not_mem_nil)
/-- TwoWayGrammar.at([II)I -/
def xc_138 : ab_C := (49, [(3, 67, 0, []), ab_top], [], [(ab_top, [])], [], 0)
theorem xo_138 : ab_Ok sc_P sx_sk xc_138 := ab_good_ok (env := []) (heads := []) (fuel := 16) (by decide +kernel) (fun _ h => absurd h List.not_mem_nil)
/-- TwoWayGrammar$Checks.checkChoice(I)V -/
def xc_139 : ab_C := (87, [(3, 93, 0, []), ab_top], [], [(ab_unk, [])], [(11906, 11907)], 1)
theorem xo_139 : ab_Ok sc_P sx_sk xc_139 := ab_good_ok (env := [xc_89, xc_36, xc_137, xc_138, xc_131, xc_115]) (heads := [(18, [(3, 93, 0, []), ab_top, ab_topL, ab_unk, ab_top, (1, 0, 6, []), ab_unk, ab_unk], [], [(0, 0, 0), (1, 5, 0)])]) (fuel := 48) (by decide +kernel) (List.forall_mem_cons.mpr ⟨xo_89, List.forall_mem_cons.mpr ⟨xo_36, List.forall_mem_cons.mpr ⟨xo_137, List.forall_mem_cons.mpr ⟨xo_138, List.forall_mem_cons.mpr ⟨xo_131, List.forall_mem_cons.mpr ⟨xo_115, fun _ h => absurd h List.not_mem_nil⟩⟩⟩⟩⟩⟩)
/-- TwoWayGrammar$Checks.firstFault()I -/
def xc_140 : ab_C := (82, [(3, 93, 0, [])], [], [(ab_top, [])], [(11906, 11907)], 3)
theorem xo_140 : ab_Ok sc_P sx_sk xc_140 := ab_good_ok (env := [xc_133, xc_136, xc_139]) (heads := [(15, [(3, 93, 0, []), (1, 0, 70, [])], [], [(0, 0, 0), (1, 1, 0)])]) (fuel := 15) (by decide +kernel) (List.forall_mem_cons.mpr ⟨xo_133, List.forall_mem_cons.mpr ⟨xo_136, List.forall_mem_cons.mpr ⟨xo_139, fun _ h => absurd h List.not_mem_nil⟩⟩⟩)
/-- TwoWayGrammar.compile()I -/
def xc_141 : ab_C := (12, [(3, 51, 0, [])], [], [(ab_top, [])], [(6542, 6544), (7680, 7681), (7685, 7687), (7690, 7691), (7698, 7699), (7808, 7809), (7936, 7937), (8064, 8065), (8192, 8193), (8320, 8321), (8448, 8449), (8576, 8577), (8704, 8705), (8832, 8833), (8960, 8961), (9088, 9089), (9216, 9217), (9344, 9345), (9472, 9473), (9600, 9601), (9730, 9732), (9857, 9861), (9999, 10000), (10112, 10113), (10240, 10241), (10368, 10369), (10496, 10497), (10624, 10625), (10752, 10753), (10880, 10881), (11008, 11009), (11136, 11137), (11264, 11265), (11392, 11393), (11520, 11521), (11648, 11649), (11776, 11777), (11906, 11907), (12032, 12033), (12544, 12545)], 28)
/-- TwoWayGrammar$Text.length()I -/
def xc_143 : ab_C := (22, [(3, 56, 0, [])], [], [((1, 0, 160, []), [])], [], 0)
theorem xo_143 : ab_Ok sc_P sx_sk xc_143 := ab_good_ok (env := []) (heads := []) (fuel := 8) (by decide +kernel) (fun _ h => absurd h List.not_mem_nil)
/-- TwoWayGrammar$Text.at(I)C -/
def xc_144 : ab_C := (20, [(3, 56, 0, []), ab_top], [], [((1, 0, 65535, []), [])], [], 0)
theorem xo_144 : ab_Ok sc_P sx_sk xc_144 := ab_good_ok (env := []) (heads := []) (fuel := 22) (by decide +kernel) (fun _ h => absurd h List.not_mem_nil)
/-- TwoWayGrammar$Text.length()I -/
def xc_147 : ab_C := (22, [(3, 54, 0, [])], [], [((1, 0, 160, []), [])], [], 0)
theorem xo_147 : ab_Ok sc_P sx_sk xc_147 := ab_good_ok (env := []) (heads := []) (fuel := 8) (by decide +kernel) (fun _ h => absurd h List.not_mem_nil)
/-- TwoWayGrammar.at([II)I -/
def xc_149 : ab_C := (49, [(3, 95, 0, []), ab_top], [], [(ab_top, [])], [], 0)
theorem xo_149 : ab_Ok sc_P sx_sk xc_149 := ab_good_ok (env := []) (heads := []) (fuel := 16) (by decide +kernel) (fun _ h => absurd h List.not_mem_nil)
/-- TwoWayGrammar.at([II)I -/
def xc_151 : ab_C := (49, [(3, 96, 0, []), ab_top], [], [(ab_top, [])], [], 0)
theorem xo_151 : ab_Ok sc_P sx_sk xc_151 := ab_good_ok (env := []) (heads := []) (fuel := 16) (by decide +kernel) (fun _ h => absurd h List.not_mem_nil)
/-- TwoWayGrammar.count(I)I -/
def xc_157 : ab_C := (94, [(3, 51, 0, []), ab_top], [], [(ab_top, [])], [], 1)
theorem xo_157 : ab_Ok sc_P sx_sk xc_157 := ab_good_ok (env := [xc_143, xc_147, xc_8]) (heads := []) (fuel := 15) (by decide +kernel) (List.forall_mem_cons.mpr ⟨xo_143, List.forall_mem_cons.mpr ⟨xo_147, List.forall_mem_cons.mpr ⟨xo_8, fun _ h => absurd h List.not_mem_nil⟩⟩⟩)
/-- TwoWayGrammar$Sets.ruleHeight(I)I -/
def xc_167 : ab_C := (101, [(3, 78, 0, []), ab_top], [], [(ab_top, [])], [], 1)
theorem xo_167 : ab_Ok sc_P sx_sk xc_167 := ab_good_ok (env := [xc_103]) (heads := []) (fuel := 12) (by decide +kernel) (List.forall_mem_cons.mpr ⟨xo_103, fun _ h => absurd h List.not_mem_nil⟩)
/-- TwoWayGrammar.rule(II)J -/
def xc_168 : ab_C := (100, [(3, 51, 0, []), ab_top, ab_top], [], [(ab_topL, [])], [], 2)
theorem xo_168 : ab_OkX sc_P sx_sk [12, 13, 14] xc_168 := ab_goodX_ok (env := [xc_132, xc_167, xc_92, xc_118, xc_94]) (heads := []) (fuel := 29) (by decide +kernel) (List.forall_mem_cons.mpr ⟨xo_132, List.forall_mem_cons.mpr ⟨xo_167, List.forall_mem_cons.mpr ⟨xo_92, List.forall_mem_cons.mpr ⟨xo_118, List.forall_mem_cons.mpr ⟨xo_94, fun _ h => absurd h List.not_mem_nil⟩⟩⟩⟩⟩)
/-- TwoWayGrammar.put([III)V -/
def xc_182 : ab_C := (16, [(3, 103, 0, []), ab_top, ab_top], [], [(ab_unk, [])], [(13184, 13185)], 0)
theorem xo_182 : ab_Ok sc_P sx_sk xc_182 := ab_good_ok (env := []) (heads := []) (fuel := 16) (by decide +kernel) (fun _ h => absurd h List.not_mem_nil)
/-- TwoWayGrammar.put([III)V -/
def xc_183 : ab_C := (16, [(3, 104, 0, []), ab_top, ab_top], [], [(ab_unk, [])], [(13312, 13313)], 0)
theorem xo_183 : ab_Ok sc_P sx_sk xc_183 := ab_good_ok (env := []) (heads := []) (fuel := 16) (by decide +kernel) (fun _ h => absurd h List.not_mem_nil)
/-- TwoWayGrammar.put([III)V -/
def xc_184 : ab_C := (16, [(3, 105, 0, []), ab_top, ab_top], [], [(ab_unk, [])], [(13440, 13441)], 0)
theorem xo_184 : ab_Ok sc_P sx_sk xc_184 := ab_good_ok (env := []) (heads := []) (fuel := 16) (by decide +kernel) (fun _ h => absurd h List.not_mem_nil)
/-- TwoWayGrammar$Tree.finish(I)V -/
def xc_194 : ab_C := (148, [(3, 102, 0, []), ab_top], [], [(ab_unk, [])], [(13440, 13441)], 1)
theorem xo_194 : ab_Ok sc_P sx_sk xc_194 := ab_good_ok (env := [xc_184]) (heads := []) (fuel := 16) (by decide +kernel) (List.forall_mem_cons.mpr ⟨xo_184, fun _ h => absurd h List.not_mem_nil⟩)
/-- TwoWayGrammar$Walk.leave(I)V -/
def xc_195 : ab_C := (147, [(3, 106, 0, []), ab_top], [], [(ab_unk, [])], [(13440, 13441)], 2)
theorem xo_195 : ab_Ok sc_P sx_sk xc_195 := ab_good_ok (env := [xc_194]) (heads := []) (fuel := 10) (by decide +kernel) (List.forall_mem_cons.mpr ⟨xo_194, fun _ h => absurd h List.not_mem_nil⟩)
/-- TwoWayGrammar.at([II)I -/
def xc_203 : ab_C := (49, [(3, 103, 0, []), ab_top], [], [(ab_top, [])], [], 0)
theorem xo_203 : ab_Ok sc_P sx_sk xc_203 := ab_good_ok (env := []) (heads := []) (fuel := 16) (by decide +kernel) (fun _ h => absurd h List.not_mem_nil)
/-- TwoWayGrammar$Tree.exchangeIn([III)V -/
def xc_204 : ab_C := (155, [(3, 103, 0, []), ab_top, ab_top], [], [(ab_unk, [])], [(13184, 13185)], 1)
theorem xo_204 : ab_Ok sc_P sx_sk xc_204 := ab_good_ok (env := [xc_203, xc_182]) (heads := []) (fuel := 20) (by decide +kernel) (List.forall_mem_cons.mpr ⟨xo_203, List.forall_mem_cons.mpr ⟨xo_182, fun _ h => absurd h List.not_mem_nil⟩⟩)
/-- TwoWayGrammar.at([II)I -/
def xc_205 : ab_C := (49, [(3, 104, 0, []), ab_top], [], [(ab_top, [])], [], 0)
theorem xo_205 : ab_Ok sc_P sx_sk xc_205 := ab_good_ok (env := []) (heads := []) (fuel := 16) (by decide +kernel) (fun _ h => absurd h List.not_mem_nil)
/-- TwoWayGrammar$Tree.exchangeIn([III)V -/
def xc_206 : ab_C := (155, [(3, 104, 0, []), ab_top, ab_top], [], [(ab_unk, [])], [(13312, 13313)], 1)
theorem xo_206 : ab_Ok sc_P sx_sk xc_206 := ab_good_ok (env := [xc_205, xc_183]) (heads := []) (fuel := 20) (by decide +kernel) (List.forall_mem_cons.mpr ⟨xo_205, List.forall_mem_cons.mpr ⟨xo_183, fun _ h => absurd h List.not_mem_nil⟩⟩)
/-- TwoWayGrammar.at([II)I -/
def xc_207 : ab_C := (49, [(3, 105, 0, []), ab_top], [], [(ab_top, [])], [], 0)
theorem xo_207 : ab_Ok sc_P sx_sk xc_207 := ab_good_ok (env := []) (heads := []) (fuel := 16) (by decide +kernel) (fun _ h => absurd h List.not_mem_nil)
/-- TwoWayGrammar$Tree.exchangeIn([III)V -/
def xc_208 : ab_C := (155, [(3, 105, 0, []), ab_top, ab_top], [], [(ab_unk, [])], [(13440, 13441)], 1)
theorem xo_208 : ab_Ok sc_P sx_sk xc_208 := ab_good_ok (env := [xc_207, xc_184]) (heads := []) (fuel := 20) (by decide +kernel) (List.forall_mem_cons.mpr ⟨xo_207, List.forall_mem_cons.mpr ⟨xo_184, fun _ h => absurd h List.not_mem_nil⟩⟩)
/-- TwoWayGrammar$Tree.turnRound(II)V -/
def xc_209 : ab_C := (154, [(3, 102, 0, []), ab_top, ab_top], [], [(ab_unk, [])], [(13184, 13185), (13312, 13313), (13440, 13441)], 2)
theorem xo_209 : ab_Ok sc_P sx_sk xc_209 := ab_good_ok (env := [xc_204, xc_206, xc_208]) (heads := [(7, [(3, 102, 0, []), ab_top, ab_top, ab_top, ab_top], [], [(0, 0, 0), (1, 3, 0)])]) (fuel := 27) (by decide +kernel) (List.forall_mem_cons.mpr ⟨xo_204, List.forall_mem_cons.mpr ⟨xo_206, List.forall_mem_cons.mpr ⟨xo_208, fun _ h => absurd h List.not_mem_nil⟩⟩⟩)
/-- TwoWayGrammar$Tree.exchange(II)V -/
def xc_210 : ab_C := (153, [(3, 102, 0, []), ab_top, ab_top], [], [(ab_unk, [])], [(13184, 13185), (13312, 13313), (13440, 13441)], 3)
theorem xo_210 : ab_Ok sc_P sx_sk xc_210 := ab_good_ok (env := [xc_209]) (heads := []) (fuel := 20) (by decide +kernel) (List.forall_mem_cons.mpr ⟨xo_209, fun _ h => absurd h List.not_mem_nil⟩)
/-- TwoWayGrammar$Walk.pairEnds(II)V -/
def xc_211 : ab_C := (152, [(3, 106, 0, []), ab_top, ab_top], [], [(ab_unk, [])], [(13184, 13185), (13312, 13313), (13440, 13441)], 4)
theorem xo_211 : ab_Ok sc_P sx_sk xc_211 := ab_good_ok (env := [xc_210]) (heads := []) (fuel := 11) (by decide +kernel) (List.forall_mem_cons.mpr ⟨xo_210, fun _ h => absurd h List.not_mem_nil⟩)
/-- TwoWayGrammar$Walk.leave(I)V -/
def xc_467 : ab_C := (147, [(3, 107, 0, []), ab_top], [], [(ab_unk, [])], [(13440, 13441)], 2)
theorem xo_467 : ab_Ok sc_P sx_sk xc_467 := ab_good_ok (env := [xc_194]) (heads := []) (fuel := 10) (by decide +kernel) (List.forall_mem_cons.mpr ⟨xo_194, fun _ h => absurd h List.not_mem_nil⟩)
/-- TwoWayGrammar$Walk.pairEnds(II)V -/
def xc_476 : ab_C := (152, [(3, 107, 0, []), ab_top, ab_top], [], [(ab_unk, [])], [(13184, 13185), (13312, 13313), (13440, 13441)], 4)
theorem xo_476 : ab_Ok sc_P sx_sk xc_476 := ab_good_ok (env := [xc_210]) (heads := []) (fuel := 11) (by decide +kernel) (List.forall_mem_cons.mpr ⟨xo_210, fun _ h => absurd h List.not_mem_nil⟩)
/-- TwoWayGrammar.output(I)C -/
def xc_992 : ab_C := (165, [(3, 51, 0, []), ab_top], [], [((1, 0, 65535, []), [])], [], 1)
theorem xo_992 : ab_OkX sc_P sx_sk [12] xc_992 := ab_goodX_ok (env := [xc_143, xc_144]) (heads := []) (fuel := 17) (by decide +kernel) (List.forall_mem_cons.mpr ⟨xo_143, List.forall_mem_cons.mpr ⟨xo_144, fun _ h => absurd h List.not_mem_nil⟩⟩)
/-- TwoWayGrammar.at([II)I -/
def xc_993 : ab_C := (49, [(3, 99, 0, []), ab_top], [], [(ab_top, [])], [], 0)
theorem xo_993 : ab_Ok sc_P sx_sk xc_993 := ab_good_ok (env := []) (heads := []) (fuel := 16) (by decide +kernel) (fun _ h => absurd h List.not_mem_nil)
/-- java/lang/Integer.compare(II)I -/
def xc_994 : ab_C := (168, [ab_top, ab_top], [], [(ab_top, [])], [], 0)
theorem xo_994 : ab_Ok sc_P sx_sk xc_994 := ab_good_ok (env := []) (heads := []) (fuel := 14) (by decide +kernel) (fun _ h => absurd h List.not_mem_nil)
/-- TwoWayGrammar.at([II)I -/
def xc_995 : ab_C := (49, [(3, 100, 0, []), ab_top], [], [(ab_top, [])], [], 0)
theorem xo_995 : ab_Ok sc_P sx_sk xc_995 := ab_good_ok (env := []) (heads := []) (fuel := 16) (by decide +kernel) (fun _ h => absurd h List.not_mem_nil)
/-- TwoWayGrammar$Tree.against(LTwoWayGrammar$Tree;)I -/
def xc_996 : ab_C := (167, [(3, 94, 0, []), (3, 98, 0, [])], [], [(ab_top, [])], [], 1)
theorem xo_996 : ab_Ok sc_P sx_sk xc_996 := ab_good_ok (env := [xc_149, xc_993, xc_994, xc_151, xc_995]) (heads := [(2, [(3, 94, 0, []), (3, 98, 0, []), (1, 0, 2147483647, []), ab_unk], [], [(0, 0, 0), (1, 2, 0)])]) (fuel := 42) (by decide +kernel) (List.forall_mem_cons.mpr ⟨xo_149, List.forall_mem_cons.mpr ⟨xo_993, List.forall_mem_cons.mpr ⟨xo_994, List.forall_mem_cons.mpr ⟨xo_151, List.forall_mem_cons.mpr ⟨xo_995, fun _ h => absurd h List.not_mem_nil⟩⟩⟩⟩⟩)
/-- TwoWayGrammar.compare()I -/
def xc_997 : ab_C := (166, [(3, 51, 0, [])], [], [(ab_top, [])], [], 2)
theorem xo_997 : ab_OkX sc_P sx_sk [14] xc_997 := ab_goodX_ok (env := [xc_996]) (heads := []) (fuel := 19) (by decide +kernel) (List.forall_mem_cons.mpr ⟨xo_996, fun _ h => absurd h List.not_mem_nil⟩)
/-- TwoWayGrammarModel.rule(II)J -/
def xc_m4 : ab_C := (204, [(3, 109, 0, []), ab_top, ab_top], [], [(ab_topL, [])], [(13952, 13953)], 0)
theorem xo_m4 : ab_Ok sc_P sx_sk xc_m4 := ab_good_ok (env := []) (heads := []) (fuel := 46) (by decide +kernel) (fun _ h => absurd h List.not_mem_nil)
/-- TwoWayGrammarModel.output(I)C -/
def xc_m8 : ab_C := (237, [(3, 109, 0, []), ab_top], [], [((1, 0, 65535, []), [])], [(13952, 13953)], 0)
theorem xo_m8 : ab_Ok sc_P sx_sk xc_m8 := ab_good_ok (env := []) (heads := []) (fuel := 23) (by decide +kernel) (fun _ h => absurd h List.not_mem_nil)
/-- TwoWayGrammarModel.compare()I -/
def xc_m11 : ab_C := (240, [(3, 109, 0, [])], [], [(ab_top, [])], [(13952, 13953)], 0)
theorem xo_m11 : ab_Ok sc_P sx_sk xc_m11 := ab_good_ok (env := []) (heads := [(34, [(3, 109, 0, []), (1, 0, 100, []), ab_unk, ab_unk, ab_unk], [(13952, (1, 0, 0, [])), (14017, (1, 1, 100, [])), (14015, (1, 1, 100, []))], [(0, 0, 0), (1, 1, 0)])]) (fuel := 52) (by decide +kernel) (fun _ h => absurd h List.not_mem_nil)
/-- TwoWayGrammarModel.count(I)I -/
def xc_m12 : ab_C := (241, [(3, 109, 0, []), ab_top], [], [(ab_top, [])], [(13952, 13953)], 0)
theorem xo_m12 : ab_Ok sc_P sx_sk xc_m12 := ab_good_ok (env := []) (heads := []) (fuel := 13) (by decide +kernel) (fun _ h => absurd h List.not_mem_nil)
/-- TwoWayGrammar.sample(I)I -/
def xc_sn : ab_C := (98, [(3, 51, 0, []), (1, (-2147483648), (-1), [])], [], [], [], 0)
set_option maxRecDepth 100000 in
theorem xo_sn : ab_OkX sc_P sx_sk [13] xc_sn := ab_goodX_ok (env := []) (heads := []) (fuel := 8) (by decide +kernel) (fun _ h => absurd h List.not_mem_nil)
/-- TwoWayGrammar.sample(I)I -/
def xc_sb : ab_C := (98, [(3, 51, 0, []), (1, 3, 2147483647, [])], [], [], [], 0)
set_option maxRecDepth 100000 in
theorem xo_sb : ab_OkX sc_P sx_sk [13] xc_sb := ab_goodX_ok (env := []) (heads := []) (fuel := 11) (by decide +kernel) (fun _ h => absurd h List.not_mem_nil)
/-! THE EXACT MACHINE: what lies in the cells is told by functions of the heap; what must hold on the way is gathered in a list -/
def mx_i (h : sm_H) (c : Nat) : Int32 := match ab_fld h c with
  | some (.int x) => x
  | _ => 0
def mx_l (h : sm_H) (c : Nat) : Int64 := match ab_fld h c with
  | some (.long x) => x
  | _ => 0
def mx_a (h : sm_H) (k i : Nat) : Int32 := match h[k]? with
  | some (.inl (_, _, .inl f)) => f i
  | _ => 0
def mx_b (h : sm_H) (k i : Nat) : Int64 := match h[k]? with
  | some (.inl (_, _, .inr (.inl f))) => f i
  | _ => 0
def mx_pf (h : sm_H) (c : Nat) (v : Value) : sm_H := match h[c / 128]? with
  | some (.inr (ci, fs)) => h.set (c / 128) (.inr (ci, fs.set (c % 128) v))
  | _ => h
def mx_pa (h : sm_H) (k i : Nat) (x : Int32) : sm_H := match h[k]? with
  | some (.inl (t, n, .inl f)) => h.set k (.inl (t, n, .inl (upd f i x)))
  | _ => h
def mx_pb (h : sm_H) (k i : Nat) (x : Int64) : sm_H := match h[k]? with
  | some (.inl (t, n, .inr (.inl f))) => h.set k (.inl (t, n, .inr (.inl (vp_updL f i x))))
  | _ => h
abbrev mx_R : Type := Nat × sm_L × List Value × sm_H × List Prop
/-- instructions that look at no cell and cannot fail but by what lies on the stack -/
def mx_pureI (i : Instr) : Bool := match i with
  | .iconst _ | .bipush _ | .sipush _ | .lconst _ | .ldc _ | .ldc_w _ | .ldc2_w _ | .getstatic _ => true
  | .iload_n _ | .iload _ | .lload_n _ | .lload _ | .aload_n _ | .aload _ | .istore_n _ | .istore _ | .astore_n _ | .astore _ | .lstore_n _ | .lstore _ | .iinc _ _ => true
  | .iadd | .isub | .imul | .iand | .ior | .ixor | .ishl | .ishr | .iushr | .ineg | .ladd | .lsub | .lmul | .land | .lor | .lxor | .lushr | .lshl | .lshr | .lcmp => true
  | .i2l | .l2i | .i2c | .i2b | .dup | .pop | .dup_x1 | .dup_x2 | .dup2 | .pop2 | .goto _ => true
  | _ => false
def mx_ald (ts : List Nat) (sk : ab_K) (pc : Nat) (ls : sm_L) (st : List Value) (h : sm_H) : Option mx_R := match st with
  | .int x :: .ref a :: r => match sk[a]? with
    | some (some (.inl (t, n, _, _, _))) => if t ∈ ts ∧ t ≠ 1 ∧ sm_C ≤ a then some (pc + 1, ls, .int (mx_a h a x.toNatClampNeg) :: r, h, [0 ≤ x.toInt ∧ x.toInt < (n : Int)]) else none
    | _ => none
  | _ => none
def mx_ast (t0 : Nat) (g : Int32 → Int32) (sk : ab_K) (pc : Nat) (ls : sm_L) (st : List Value) (h : sm_H) : Option mx_R := match st with
  | .int y :: .int x :: .ref a :: r => match sk[a]? with
    | some (some (.inl (t, n, lo, hi, ex))) => if t = t0 ∧ t ≠ 1 ∧ sm_C ≤ a ∧ ex = [] then some (pc + 1, ls, r, mx_pa h a x.toNatClampNeg (g y), [0 ≤ x.toInt ∧ x.toInt < (n : Int), lo ≤ (g y).toInt ∧ (g y).toInt ≤ hi]) else none
    | _ => none
  | _ => none
def mx_getf (sk : ab_K) (rs : List Nat) (pc : Nat) (ls : sm_L) (st : List Value) (h : sm_H) : Option mx_R := match st, rs with
  | .ref a :: r, k :: z :: cs => match sk[a]? with
    | some (some (.inr (ci, fl))) => if ci ∈ cs ∧ k < 128 ∧ z = 0 ∧ sm_C ≤ a then (match fl[k]? with
      | some (t, lo, _) => some (pc + 3, ls, (if t = 0 then .int (mx_i h (a * 128 + k)) else if t = 1 then .long (mx_l h (a * 128 + k)) else .ref lo.toNat) :: r, h, [])
      | none => none) else none
    | _ => none
  | _, _ => none
def mx_putf (sk : ab_K) (rs : List Nat) (pc : Nat) (ls : sm_L) (st : List Value) (h : sm_H) : Option mx_R := match st, rs with
  | .int x :: .ref a :: r, k :: t :: _ :: cs => match sk[a]? with
    | some (some (.inr (ci, fl))) => if ci ∈ cs ∧ k < 128 ∧ sm_C ≤ a then (match fl[k]? with
      | some (t', lo, hi) => if t' = 0 ∧ (t = 0 ∨ t = 3) then some (pc + 3, ls, r, mx_pf h (a * 128 + k) (.int x), [lo ≤ x.toInt ∧ x.toInt ≤ hi, t = 3 → 0 ≤ x.toInt ∧ x.toInt ≤ 1]) else none
      | none => none) else none
    | _ => none
  | .long x :: .ref a :: r, k :: t :: _ :: cs => match sk[a]? with
    | some (some (.inr (ci, fl))) => if ci ∈ cs ∧ k < 128 ∧ sm_C ≤ a then (match fl[k]? with
      | some (t', lo, hi) => if t' = 1 ∧ t = 1 then some (pc + 3, ls, r, mx_pf h (a * 128 + k) (.long x), [lo ≤ x.toInt ∧ x.toInt ≤ hi]) else none
      | none => none) else none
    | _ => none
  | _, _ => none
def mx_dflt (q : sm_I) (pc : Nat) (ls : sm_L) (st : List Value) (h : sm_H) : Option mx_R := if mx_pureI q.1 then (match sm_step q pc ls st [] with
  | some (.inl (pc', ls', st', _)) => some (pc', ls', st', h, [])
  | _ => none) else none
/-- one instruction; b: which way a branch goes (1: it is taken), which case of a switch (1000: none) -/
def mx_step (sk : ab_K) (q : sm_I) (pc : Nat) (ls : sm_L) (st : List Value) (h : sm_H) (b : Nat) : Option mx_R := match q with
  | (i, len, rs) => match i with
    | .getfield _ => mx_getf sk rs pc ls st h
    | .putfield _ => mx_putf sk rs pc ls st h
    | .iaload => mx_ald [0] sk pc ls st h
    | .caload => mx_ald [2] sk pc ls st h
    | .baload => mx_ald [3] sk pc ls st h
    | .iastore => mx_ast 0 (fun x => x) sk pc ls st h
    | .castore => mx_ast 2 sm_chr sk pc ls st h
    | .bastore => mx_ast 3 (fun x => x &&& 1) sk pc ls st h
    | .laload => match st with
      | .int x :: .ref a :: r => match sk[a]? with
        | some (some (.inl (t, n, _, _, _))) => if t = 1 ∧ sm_C ≤ a then some (pc + 1, ls, .long (mx_b h a x.toNatClampNeg) :: r, h, [0 ≤ x.toInt ∧ x.toInt < (n : Int)]) else none
        | _ => none
      | _ => none
    | .lastore => match st with
      | .long y :: .int x :: .ref a :: r => match sk[a]? with
        | some (some (.inl (t, n, lo, hi, _))) => if t = 1 ∧ sm_C ≤ a then some (pc + 1, ls, r, mx_pb h a x.toNatClampNeg y, [0 ≤ x.toInt ∧ x.toInt < (n : Int), lo ≤ y.toInt ∧ y.toInt ≤ hi]) else none
        | _ => none
      | _ => none
    | .if_icmp c off => match st with
      | .int y :: .int x :: r => if b = 1 then some (sm_jmp pc off, ls, r, h, [sm_cmp c x y = true]) else some (pc + 3, ls, r, h, [sm_cmp c x y = false])
      | _ => none
    | .ifCond c off => match st with
      | .int x :: r => if b = 1 then some (sm_jmp pc off, ls, r, h, [sm_cmp c x 0 = true]) else some (pc + 3, ls, r, h, [sm_cmp c x 0 = false])
      | _ => none
    | .tableswitch d lo hi offs => match st with
      | .int x :: r => if b = 1000 then some (sm_jmp pc d, ls, r, h, [x.toInt < lo ∨ hi < x.toInt]) else (match offs[b]? with
        | some off => some (sm_jmp pc off, ls, r, h, [x.toInt = lo + (b : Int) ∧ x.toInt ≤ hi])
        | none => none)
      | _ => none
    | .idiv => match st with
      | .int y :: .int x :: r => some (pc + 1, ls, .int (x / y) :: r, h, [y ≠ 0])
      | _ => none
    | .irem => match st with
      | .int y :: .int x :: r => some (pc + 1, ls, .int (x - x / y * y) :: r, h, [y ≠ 0])
      | _ => none
    | .lrem => match st with
      | .long y :: .long x :: r => some (pc + 1, ls, .long (x - x / y * y) :: r, h, [y ≠ 0])
      | _ => none
    | _ => mx_dflt (i, len, rs) pc ls st h
section MXS
variable {sk : ab_K} {h : sm_H} {ls : sm_L} {st : List Value} {pc : Nat}
theorem mx_pure_ok {q : sm_I} {pc' : Nat} {ls' : sm_L} {st' : List Value} {h1 : sm_H} (hp : mx_pureI q.1 = true) (hs : sm_step q pc ls st [] = some (.inl (pc', ls', st', h1))) : sm_step q pc ls st h = some (.inl (pc', ls', st', h)) := by
  obtain ⟨i, len, rs⟩ := q
  cases i <;> first
    | (simp [mx_pureI] at hp; done)
    | (simp only [sm_step, sm_bin, sm_binL, sm_loadK, sm_store1, sm_store2, sm_nx, Option.bind] at hs ⊢
       repeat' split at hs
       all_goals first
         | (cases hs; done)
         | (cases hs; simp_all; done)
         | (simp at hs; simp_all; done))
theorem mx_ix {x : Int32} {n : Nat} (h0 : 0 ≤ x.toInt ∧ x.toInt < (n : Int)) : sm_ix x n = true ∧ x.toNatClampNeg < n := by
  have e : x.toNatClampNeg = x.toInt.toNat := rfl
  have hlt : x.toNatClampNeg < n := by rw [e]; omega
  refine ⟨?_, hlt⟩
  simp only [sm_ix, decide_eq_true_eq]
  refine ⟨fun hn => ?_, hlt⟩
  rw [Int32.lt_iff_toInt_lt] at hn
  have e2 : (0 : Int32).toInt = 0 := rfl
  omega
theorem mx_arr {a t n : Nat} {lo hi : Int} {ex : List Int} (hS : ab_Sh sk h) (hk : sk[a]? = some (some (.inl (t, n, lo, hi, ex)))) (ht : t ≠ 1) : ∃ f, h[a]? = some (.inl (t, n, .inl f)) ∧ ∀ i, i < n → lo ≤ (f i).toInt ∧ (f i).toInt ≤ hi ∧ ∀ z, ex[i]? = some z → (f i).toInt = z := by
  obtain ⟨c, e1, e2⟩ := hS _ _ hk
  rcases c with f | f | f | f | f
  · exact ⟨f, e1, e2.2⟩
  · exact absurd e2.1 ht
  · exact (show False from e2).elim
  · exact (show False from e2).elim
  · exact (show False from e2).elim
theorem mx_arrL {a n : Nat} {lo hi : Int} {ex : List Int} (hS : ab_Sh sk h) (hk : sk[a]? = some (some (.inl (1, n, lo, hi, ex)))) : ∃ f, h[a]? = some (.inl (1, n, .inr (.inl f))) ∧ ∀ i, i < n → lo ≤ (f i).toInt ∧ (f i).toInt ≤ hi := by
  obtain ⟨c, e1, e2⟩ := hS _ _ hk
  rcases c with f | f | f | f | f
  · exact absurd rfl e2.1
  · exact ⟨f, e1, e2.2⟩
  · exact (show False from e2).elim
  · exact (show False from e2).elim
  · exact (show False from e2).elim
theorem mx_ald_ok {ts : List Nat} {R : mx_R} {t0 : Nat} (ht0 : ts = [t0]) (hs : mx_ald ts sk pc ls st h = some R) (hS : ab_Sh sk h) (ho : ∀ p ∈ R.2.2.2.2, p) : sm_ald t0 pc ls st h = some (.inl (R.1, R.2.1, R.2.2.1, R.2.2.2.1)) ∧ ab_Sh sk R.2.2.2.1 := by
  subst ht0
  unfold mx_ald at hs
  split at hs
  · next x a r =>
    split at hs
    · next t n lo hi ex hk =>
      split at hs
      · next hc =>
        cases hs
        have ht := List.mem_singleton.mp hc.1
        subst ht
        have hi1 := mx_ix (ho _ List.mem_cons_self)
        obtain ⟨f, e1, -⟩ := mx_arr hS hk hc.2.1
        refine ⟨?_, hS⟩
        simp only [sm_ald, mx_a]
        rw [e1]
        dsimp only
        rw [if_pos ⟨rfl, hi1.1, Or.inl hc.2.2⟩]
        rfl
      · cases hs
    · cases hs
  · cases hs
theorem mx_ast_ok {t0 : Nat} {g : Int32 → Int32} {R : mx_R} (hs : mx_ast t0 g sk pc ls st h = some R) (hS : ab_Sh sk h) (ho : ∀ p ∈ R.2.2.2.2, p) : sm_ast t0 g pc ls st h = some (.inl (R.1, R.2.1, R.2.2.1, R.2.2.2.1)) ∧ ab_Sh sk R.2.2.2.1 := by
  unfold mx_ast at hs
  split at hs
  · next y x a r =>
    split at hs
    · next t n lo hi ex hk =>
      split at hs
      · next hc =>
        cases hs
        obtain ⟨rfl, ht, hC, rfl⟩ := hc
        have hi1 := mx_ix (ho _ List.mem_cons_self)
        have hv := ho _ (List.mem_cons_of_mem _ List.mem_cons_self)
        obtain ⟨f, e1, e2⟩ := mx_arr hS hk ht
        dsimp only
        simp only [sm_ast, mx_pa]
        rw [e1]
        dsimp only
        rw [if_pos ⟨rfl, hi1.1, hC⟩]
        refine ⟨rfl, ab_Sh_set hS (List.getElem?_eq_some_iff.mp e1).1 fun s hs => ?_⟩
        rw [hk] at hs
        cases hs
        refine ⟨_, rfl, ht, fun j hj => ?_⟩
        obtain ⟨f1, f2, f3⟩ := e2 j hj
        refine ⟨?_, ?_, fun z hz => by simp at hz⟩
        · unfold upd
          split
          · exact hv.1
          · exact f1
        · unfold upd
          split
          · exact hv.2
          · exact f2
      · cases hs
    · cases hs
  · cases hs
theorem mx_obj {a ci : Nat} {fl : List (Nat × Int × Int)} (hS : ab_Sh sk h) (hk : sk[a]? = some (some (.inr (ci, fl)))) : ∃ fs, h[a]? = some (.inr (ci, fs)) ∧ fs.length = fl.length ∧ ∀ (i : Nat) (x : Nat × Int × Int) (v : Value), fl[i]? = some x → fs[i]? = some v → ab_fv x v := hS _ _ hk
theorem mx_getf_ok {rs : List Nat} {R : mx_R} (hs : mx_getf sk rs pc ls st h = some R) (hS : ab_Sh sk h) : sm_getf rs pc ls st h = some (.inl (R.1, R.2.1, R.2.2.1, R.2.2.2.1)) ∧ ab_Sh sk R.2.2.2.1 := by
  unfold mx_getf at hs
  split at hs
  · next a r k z cs =>
    split at hs
    · next ci fl hk =>
      split at hs
      · next hc =>
        obtain ⟨g1, g2, g3, g4⟩ := hc
        split at hs
        · next t lo hi hf =>
          cases hs
          obtain ⟨fs, e1, e2, e3⟩ := mx_obj hS hk
          have hlt : k < fs.length := by rw [e2]; exact (List.getElem?_eq_some_iff.mp hf).1
          have hv : fs[k]? = some fs[k] := List.getElem?_eq_getElem hlt
          have hfv := e3 k _ _ hf hv
          have hfld : ab_fld h (a * 128 + k) = some fs[k] := by rw [ab_fld_at g2 e1]; exact hv
          refine ⟨?_, hS⟩
          simp only [sm_getf]
          rw [e1]
          dsimp only
          rw [if_pos ⟨g1, Or.inl ⟨g3, g4⟩⟩, hv]
          dsimp only
          split
          · next ht =>
            subst ht
            obtain ⟨x, ex, -⟩ := hfv
            unfold mx_i
            rw [hfld, ex]
            rfl
          · split
            · next ht =>
              subst ht
              obtain ⟨x, ex, -⟩ := hfv
              unfold mx_l
              rw [hfld, ex]
              rfl
            · next ht0 ht1 =>
              have ex : fs[k] = .ref lo.toNat := by
                rcases t with _ | _ | t
                · exact absurd rfl ht0
                · exact absurd rfl ht1
                · exact hfv
              rw [ex]
              rfl
        · cases hs
      · cases hs
    · cases hs
  · cases hs
theorem mx_pf_ok {a k ci : Nat} {fl : List (Nat × Int × Int)} {x : Nat × Int × Int} {v : Value} {fs : List Value} (hS : ab_Sh sk h) (hk : sk[a]? = some (some (.inr (ci, fl)))) (hf : fl[k]? = some x) (h128 : k < 128) (e1 : h[a]? = some (.inr (ci, fs))) (e2 : fs.length = fl.length) (hv : ab_fv x v)
    (e3 : ∀ (i : Nat) (x : Nat × Int × Int) (v : Value), fl[i]? = some x → fs[i]? = some v → ab_fv x v) : mx_pf h (a * 128 + k) v = h.set a (.inr (ci, fs.set k v)) ∧ ab_Sh sk (mx_pf h (a * 128 + k) v) := by
  have ea : (a * 128 + k) / 128 = a := by omega
  have eb : (a * 128 + k) % 128 = k := by omega
  have e : mx_pf h (a * 128 + k) v = h.set a (.inr (ci, fs.set k v)) := by
    unfold mx_pf
    rw [ea, eb, e1]
  refine ⟨e, ?_⟩
  rw [e]
  have hlt : k < fs.length := by rw [e2]; exact (List.getElem?_eq_some_iff.mp hf).1
  refine ab_Sh_set hS (List.getElem?_eq_some_iff.mp e1).1 fun s hs => ?_
  rw [hk] at hs
  cases hs
  refine ⟨fs.set k v, rfl, by rw [List.length_set]; exact e2, fun i y u hy hu => ?_⟩
  by_cases ei : k = i
  · subst ei
    rw [List.getElem?_set_self hlt] at hu
    cases hu
    rw [hf] at hy
    cases hy
    exact hv
  · rw [List.getElem?_set_ne ei] at hu
    exact e3 i y u hy hu
theorem mx_putf_ok {rs : List Nat} {R : mx_R} (hs : mx_putf sk rs pc ls st h = some R) (hS : ab_Sh sk h) (ho : ∀ p ∈ R.2.2.2.2, p) : sm_putf rs pc ls st h = some (.inl (R.1, R.2.1, R.2.2.1, R.2.2.2.1)) ∧ ab_Sh sk R.2.2.2.1 := by
  unfold mx_putf at hs
  split at hs
  · next x a r k t fin cs =>
    split at hs
    · next ci fl hk =>
      split at hs
      · next hc =>
        obtain ⟨g1, g2, g3⟩ := hc
        split at hs
        · next t' lo hi hf =>
          split at hs
          · next hc2 =>
            cases hs
            obtain ⟨rfl, ht⟩ := hc2
            have o1 := ho _ List.mem_cons_self
            have o2 := ho _ (List.mem_cons_of_mem _ List.mem_cons_self)
            obtain ⟨fs, e1, e2, e3⟩ := mx_obj hS hk
            have hlt : k < fs.length := by rw [e2]; exact (List.getElem?_eq_some_iff.mp hf).1
            obtain ⟨p1, p2⟩ := mx_pf_ok (v := .int x) hS hk hf g2 e1 e2 ⟨x, rfl, o1.1, o1.2⟩ e3
            refine ⟨?_, p2⟩
            dsimp only
            rw [p1]
            simp only [sm_putf]
            rw [e1]
            dsimp only
            have hfit : sm_fit t (.int x) = true := by
              rcases ht with rfl | rfl
              · rfl
              · have := o2 rfl
                simp only [sm_fit, decide_eq_true_eq, ← Int32.toInt_inj]
                have e0 : (0 : Int32).toInt = 0 := rfl
                have e1 : (1 : Int32).toInt = 1 := rfl
                omega
            rw [if_pos ⟨g1, hlt, hfit, g3⟩]
            rfl
          · cases hs
        · cases hs
      · cases hs
    · cases hs
  · next x a r k t fin cs =>
    split at hs
    · next ci fl hk =>
      split at hs
      · next hc =>
        obtain ⟨g1, g2, g3⟩ := hc
        split at hs
        · next t' lo hi hf =>
          split at hs
          · next hc2 =>
            cases hs
            obtain ⟨rfl, rfl⟩ := hc2
            have o1 := ho _ List.mem_cons_self
            obtain ⟨fs, e1, e2, e3⟩ := mx_obj hS hk
            have hlt : k < fs.length := by rw [e2]; exact (List.getElem?_eq_some_iff.mp hf).1
            obtain ⟨p1, p2⟩ := mx_pf_ok (v := .long x) hS hk hf g2 e1 e2 ⟨x, rfl, o1.1, o1.2⟩ e3
            refine ⟨?_, p2⟩
            dsimp only
            rw [p1]
            simp only [sm_putf]
            rw [e1]
            dsimp only
            rw [if_pos ⟨g1, hlt, rfl, g3⟩]
            rfl
          · cases hs
        · cases hs
      · cases hs
    · cases hs
  · cases hs
end MXS
/-! a step of the exact machine is a step -/
section MXO
variable {sk : ab_K} {h : sm_H} {ls : sm_L} {st : List Value} {pc : Nat}
theorem mx_dflt_ok {q : sm_I} {R : mx_R} (hs : mx_dflt q pc ls st h = some R) (hS : ab_Sh sk h) : sm_step q pc ls st h = some (.inl (R.1, R.2.1, R.2.2.1, R.2.2.2.1)) ∧ ab_Sh sk R.2.2.2.1 := by
  unfold mx_dflt at hs
  split at hs
  · next hp =>
    split at hs
    · next hq =>
      cases hs
      exact ⟨mx_pure_ok hp hq, hS⟩
    · cases hs
  · cases hs
set_option maxHeartbeats 1000000 in
theorem mx_step_ok {q : sm_I} {b : Nat} {R : mx_R} (hs : mx_step sk q pc ls st h b = some R) (hS : ab_Sh sk h) (ho : ∀ p ∈ R.2.2.2.2, p) : sm_step q pc ls st h = some (.inl (R.1, R.2.1, R.2.2.1, R.2.2.2.1)) ∧ ab_Sh sk R.2.2.2.1 := by
  obtain ⟨i, len, rs⟩ := q
  cases i with
  | getfield n => exact mx_getf_ok hs hS
  | putfield n => exact mx_putf_ok hs hS ho
  | iaload => exact mx_ald_ok rfl hs hS ho
  | caload => exact mx_ald_ok rfl hs hS ho
  | baload =>
    obtain ⟨e, z⟩ := mx_ald_ok rfl hs hS ho
    simp only [sm_step]
    rw [e]
    exact ⟨rfl, z⟩
  | iastore => exact mx_ast_ok hs hS ho
  | castore => exact mx_ast_ok hs hS ho
  | bastore => exact mx_ast_ok hs hS ho
  | laload =>
    simp only [mx_step] at hs
    split at hs
    · next x a r =>
      split at hs
      · next t n lo hi ex hk =>
        split at hs
        · next hc =>
          cases hs
          obtain ⟨rfl, hC⟩ := hc
          have hi1 := mx_ix (ho _ List.mem_cons_self)
          obtain ⟨f, e1, -⟩ := mx_arrL hS hk
          refine ⟨?_, hS⟩
          simp only [sm_step, sm_aldL, mx_b]
          rw [e1]
          dsimp only
          rw [if_pos ⟨rfl, hi1.1, hC⟩]
          rfl
        · cases hs
      · cases hs
    · cases hs
  | lastore =>
    simp only [mx_step] at hs
    split at hs
    · next y x a r =>
      split at hs
      · next t n lo hi ex hk =>
        split at hs
        · next hc =>
          cases hs
          obtain ⟨rfl, hC⟩ := hc
          have hi1 := mx_ix (ho _ List.mem_cons_self)
          have hv := ho _ (List.mem_cons_of_mem _ List.mem_cons_self)
          obtain ⟨f, e1, e2⟩ := mx_arrL hS hk
          dsimp only
          simp only [sm_step, sm_astL, mx_pb]
          rw [e1]
          dsimp only
          rw [if_pos ⟨rfl, hi1.1, hC⟩]
          refine ⟨rfl, ab_Sh_set hS (List.getElem?_eq_some_iff.mp e1).1 fun s hs => ?_⟩
          rw [hk] at hs
          cases hs
          refine ⟨_, rfl, rfl, fun j hj => ?_⟩
          obtain ⟨f1, f2⟩ := e2 j hj
          refine ⟨?_, ?_⟩
          · unfold vp_updL
            split
            · exact hv.1
            · exact f1
          · unfold vp_updL
            split
            · exact hv.2
            · exact f2
        · cases hs
      · cases hs
    · cases hs
  | if_icmp c off =>
    simp only [mx_step] at hs
    split at hs
    · split at hs
      · cases hs
        have := ho _ List.mem_cons_self
        refine ⟨?_, hS⟩
        simp only [sm_step, sm_if]
        rw [this]
        rfl
      · cases hs
        have := ho _ List.mem_cons_self
        refine ⟨?_, hS⟩
        simp only [sm_step, sm_if]
        rw [this]
        rfl
    · cases hs
  | ifCond c off =>
    simp only [mx_step] at hs
    split at hs
    · split at hs
      · cases hs
        have := ho _ List.mem_cons_self
        refine ⟨?_, hS⟩
        simp only [sm_step, sm_if]
        rw [this]
        rfl
      · cases hs
        have := ho _ List.mem_cons_self
        refine ⟨?_, hS⟩
        simp only [sm_step, sm_if]
        rw [this]
        rfl
    · cases hs
  | tableswitch d lo hi offs =>
    simp only [mx_step] at hs
    split at hs
    · next x r =>
      split at hs
      · cases hs
        have := ho _ List.mem_cons_self
        refine ⟨?_, hS⟩
        simp only [sm_step]
        rw [if_pos this]
        rfl
      · split at hs
        · next off hoff =>
          cases hs
          have h1 := ho _ List.mem_cons_self
          refine ⟨?_, hS⟩
          simp only [sm_step]
          have e : (x.toInt - lo).toNat = b := by omega
          rw [if_neg (by omega), e, hoff]
          rfl
        · cases hs
    · cases hs
  | idiv =>
    simp only [mx_step] at hs
    split at hs
    · cases hs
      refine ⟨?_, hS⟩
      simp only [sm_step]
      rw [if_neg (ho _ List.mem_cons_self)]
      rfl
    · cases hs
  | irem =>
    simp only [mx_step] at hs
    split at hs
    · cases hs
      refine ⟨?_, hS⟩
      simp only [sm_step]
      rw [if_neg (ho _ List.mem_cons_self)]
      rfl
    · cases hs
  | lrem =>
    simp only [mx_step] at hs
    split at hs
    · cases hs
      refine ⟨?_, hS⟩
      simp only [sm_step]
      rw [if_neg (ho _ List.mem_cons_self)]
      rfl
    · cases hs
  | _ => exact mx_dflt_ok hs hS
end MXO
/-! WHAT LIES IN THE CELLS behind a store; the shape alone is asked for -/
def mx_sp1 (s : ab_S) (e : Option sm_E) : Prop := match s with
  | .inl (t, n, _, _, _) => ∃ c, e = some (.inl (t, n, c)) ∧ ((t = 1 ∧ ∃ f, c = .inr (.inl f)) ∨ (t ≠ 1 ∧ ∃ f, c = .inl f))
  | .inr (ci, fl) => ∃ fs, e = some (.inr (ci, fs)) ∧ fs.length = fl.length
def mx_Sp (sk : ab_K) (h : sm_H) : Prop := ∀ (k : Nat) (s : ab_S), sk[k]? = some (some s) → mx_sp1 s h[k]?
def mx_isF (sk : ab_K) (c : Nat) : Bool := match sk[c / 128]? with
  | some (some (.inr (_, fl))) => decide (c % 128 < fl.length)
  | _ => false
/-- an array of ints (chars, booleans); of longs -/
def mx_isA (sk : ab_K) (k : Nat) : Bool := match sk[k]? with
  | some (some (.inl (t, _, _, _, _))) => decide (t ≠ 1)
  | _ => false
def mx_isB (sk : ab_K) (k : Nat) : Bool := match sk[k]? with
  | some (some (.inl (t, _, _, _, _))) => decide (t = 1)
  | _ => false
section MXR
variable {sk : ab_K} {h : sm_H}
theorem mx_Sh_Sp (hS : ab_Sh sk h) : mx_Sp sk h := by
  intro k s hk
  have := hS k s hk
  rcases s with ⟨t, n, lo, hi, ex⟩ | ⟨ci, fl⟩
  · obtain ⟨c, e1, e2⟩ := this
    refine ⟨c, e1, ?_⟩
    rcases c with f | f | f | f | f
    · exact Or.inr ⟨e2.1, f, rfl⟩
    · exact Or.inl ⟨e2.1, f, rfl⟩
    · exact (show False from e2).elim
    · exact (show False from e2).elim
    · exact (show False from e2).elim
  · obtain ⟨fs, e1, e2, -⟩ := this
    exact ⟨fs, e1, e2⟩
theorem mx_Sp_set {k : Nat} {e' : sm_E} (hS : mx_Sp sk h) (hk : k < h.length) (he : ∀ s, sk[k]? = some (some s) → mx_sp1 s (some e')) : mx_Sp sk (h.set k e') := fun j s hj => by
  by_cases e : k = j
  · subst e
    rw [List.getElem?_set_self hk]
    exact he s hj
  · rw [List.getElem?_set_ne e]
    exact hS j s hj
theorem mx_Sp_pf {c : Nat} {v : Value} (hS : mx_Sp sk h) : mx_Sp sk (mx_pf h c v) := by
  unfold mx_pf
  split
  · next ci fs hk =>
    refine mx_Sp_set hS (List.getElem?_eq_some_iff.mp hk).1 fun s hs => ?_
    have := hS _ _ hs
    rw [hk] at this
    rcases s with ⟨t, n, lo, hi, ex⟩ | ⟨ci', fl⟩
    · obtain ⟨c, e1, -⟩ := this
      cases e1
    · obtain ⟨fs', e1, e2⟩ := this
      cases e1
      exact ⟨_, rfl, by rw [List.length_set]; exact e2⟩
  · exact hS
theorem mx_Sp_pa {k i : Nat} {x : Int32} (hS : mx_Sp sk h) : mx_Sp sk (mx_pa h k i x) := by
  unfold mx_pa
  split
  · next t n f hk =>
    refine mx_Sp_set hS (List.getElem?_eq_some_iff.mp hk).1 fun s hs => ?_
    have := hS _ _ hs
    rw [hk] at this
    rcases s with ⟨t', n', lo, hi, ex⟩ | ⟨ci', fl⟩
    · obtain ⟨c, e1, e2⟩ := this
      cases e1
      refine ⟨_, rfl, ?_⟩
      rcases e2 with ⟨-, g, e3⟩ | ⟨e3, -⟩
      · cases e3
      · exact Or.inr ⟨e3, _, rfl⟩
    · obtain ⟨fs', e1, e2⟩ := this
      cases e1
  · exact hS
theorem mx_Sp_pb {k i : Nat} {x : Int64} (hS : mx_Sp sk h) : mx_Sp sk (mx_pb h k i x) := by
  unfold mx_pb
  split
  · next t n f hk =>
    refine mx_Sp_set hS (List.getElem?_eq_some_iff.mp hk).1 fun s hs => ?_
    have := hS _ _ hs
    rw [hk] at this
    rcases s with ⟨t', n', lo, hi, ex⟩ | ⟨ci', fl⟩
    · obtain ⟨c, e1, e2⟩ := this
      cases e1
      refine ⟨_, rfl, ?_⟩
      rcases e2 with ⟨e3, -⟩ | ⟨-, g, e3⟩
      · exact Or.inl ⟨e3, _, rfl⟩
      · cases e3
    · obtain ⟨fs', e1, e2⟩ := this
      cases e1
  · exact hS
theorem mx_fld_pf {c0 c : Nat} {v : Value} (hS : mx_Sp sk h) (hk : mx_isF sk c0 = true) : ab_fld (mx_pf h c0 v) c = if c = c0 then some v else ab_fld h c := by
  unfold mx_isF at hk
  split at hk
  · next ci fl hsk =>
    rw [decide_eq_true_eq] at hk
    obtain ⟨fs, e1, e2⟩ := hS _ _ hsk
    have hlt : c0 % 128 < fs.length := by rw [e2]; exact hk
    have e : mx_pf h c0 v = h.set (c0 / 128) (.inr (ci, fs.set (c0 % 128) v)) := by
      unfold mx_pf
      rw [e1]
    have e0 : c0 / 128 * 128 + c0 % 128 = c0 := by omega
    rw [e]
    split
    · next hc =>
      subst hc
      have := ab_fld_at (h := h.set (c / 128) (.inr (ci, fs.set (c % 128) v))) (k := c / 128) (f := c % 128) (ci := ci) (fs := fs.set (c % 128) v) (by omega) (List.getElem?_set_self (List.getElem?_eq_some_iff.mp e1).1)
      rw [e0] at this
      rw [this, List.getElem?_set_self hlt]
    · next hc => exact ab_fld_ne e1 (by rw [e0]; exact hc) (by omega)
  · cases hk
theorem mx_fld_pa {k i c : Nat} {x : Int32} : ab_fld (mx_pa h k i x) c = ab_fld h c := by
  unfold mx_pa
  split
  · next hk => exact ab_fld_arr hk
  · rfl
theorem mx_fld_pb {k i c : Nat} {x : Int64} : ab_fld (mx_pb h k i x) c = ab_fld h c := by
  unfold mx_pb
  split
  · next hk => exact ab_fld_arr hk
  · rfl
theorem mx_i_pa {k i c : Nat} {x : Int32} : mx_i (mx_pa h k i x) c = mx_i h c := by unfold mx_i; rw [mx_fld_pa]
theorem mx_i_pb {k i c : Nat} {x : Int64} : mx_i (mx_pb h k i x) c = mx_i h c := by unfold mx_i; rw [mx_fld_pb]
theorem mx_l_pa {k i c : Nat} {x : Int32} : mx_l (mx_pa h k i x) c = mx_l h c := by unfold mx_l; rw [mx_fld_pa]
theorem mx_l_pb {k i c : Nat} {x : Int64} : mx_l (mx_pb h k i x) c = mx_l h c := by unfold mx_l; rw [mx_fld_pb]
theorem mx_a_pf {c k i : Nat} {v : Value} : mx_a (mx_pf h c v) k i = mx_a h k i := by
  unfold mx_pf
  split
  · next ci fs hk =>
    unfold mx_a
    by_cases e : c / 128 = k
    · subst e
      rw [List.getElem?_set_self (List.getElem?_eq_some_iff.mp hk).1, hk]
    · rw [List.getElem?_set_ne e]
  · rfl
theorem mx_b_pf {c k i : Nat} {v : Value} : mx_b (mx_pf h c v) k i = mx_b h k i := by
  unfold mx_pf
  split
  · next ci fs hk =>
    unfold mx_b
    by_cases e : c / 128 = k
    · subst e
      rw [List.getElem?_set_self (List.getElem?_eq_some_iff.mp hk).1, hk]
    · rw [List.getElem?_set_ne e]
  · rfl
theorem mx_a_pa {k0 i0 k i : Nat} {x : Int32} (hS : mx_Sp sk h) (hk : mx_isA sk k0 = true) : mx_a (mx_pa h k0 i0 x) k i = if k = k0 ∧ i = i0 then x else mx_a h k i := by
  unfold mx_isA at hk
  split at hk
  · next t n lo hi ex hsk =>
    rw [decide_eq_true_eq] at hk
    obtain ⟨c, e1, e2⟩ := hS _ _ hsk
    rcases e2 with ⟨e2, -⟩ | ⟨-, f, rfl⟩
    · exact absurd e2 hk
    · have e : mx_pa h k0 i0 x = h.set k0 (.inl (t, n, .inl (upd f i0 x))) := by
        unfold mx_pa
        rw [e1]
      rw [e]
      unfold mx_a
      by_cases ek : k0 = k
      · subst ek
        rw [List.getElem?_set_self (List.getElem?_eq_some_iff.mp e1).1, e1]
        dsimp only
        unfold upd
        by_cases ei : i = i0
        · rw [if_pos ei, if_pos ⟨rfl, ei⟩]
        · rw [if_neg ei, if_neg (fun z => ei z.2)]
      · rw [List.getElem?_set_ne ek, if_neg (fun z => ek z.1.symm)]
  · cases hk
theorem mx_b_pb {k0 i0 k i : Nat} {x : Int64} (hS : mx_Sp sk h) (hk : mx_isB sk k0 = true) : mx_b (mx_pb h k0 i0 x) k i = if k = k0 ∧ i = i0 then x else mx_b h k i := by
  unfold mx_isB at hk
  split at hk
  · next t n lo hi ex hsk =>
    rw [decide_eq_true_eq] at hk
    obtain ⟨c, e1, e2⟩ := hS _ _ hsk
    rcases e2 with ⟨-, f, rfl⟩ | ⟨e2, -⟩
    · have e : mx_pb h k0 i0 x = h.set k0 (.inl (t, n, .inr (.inl (vp_updL f i0 x)))) := by
        unfold mx_pb
        rw [e1]
      rw [e]
      unfold mx_b
      by_cases ek : k0 = k
      · subst ek
        rw [List.getElem?_set_self (List.getElem?_eq_some_iff.mp e1).1, e1]
        dsimp only
        unfold vp_updL
        by_cases ei : i = i0
        · rw [if_pos ei, if_pos ⟨rfl, ei⟩]
        · rw [if_neg ei, if_neg (fun z => ei z.2)]
      · rw [List.getElem?_set_ne ek, if_neg (fun z => ek z.1.symm)]
    · exact absurd hk e2
  · cases hk
theorem mx_a_pb {k0 i0 k i : Nat} {x : Int64} : mx_a (mx_pb h k0 i0 x) k i = mx_a h k i := by
  unfold mx_pb
  split
  · next t n f hk =>
    unfold mx_a
    by_cases e : k0 = k
    · subst e
      rw [List.getElem?_set_self (List.getElem?_eq_some_iff.mp hk).1, hk]
    · rw [List.getElem?_set_ne e]
  · rfl
theorem mx_b_pa {k0 i0 k i : Nat} {x : Int32} : mx_b (mx_pa h k0 i0 x) k i = mx_b h k i := by
  unfold mx_pa
  split
  · next t n f hk =>
    unfold mx_b
    by_cases e : k0 = k
    · subst e
      rw [List.getElem?_set_self (List.getElem?_eq_some_iff.mp hk).1, hk]
    · rw [List.getElem?_set_ne e]
  · rfl
/-- bounds of what lies in a field, in an array -/
theorem mx_i_bd {c : Nat} {lo hi : Int} (hS : ab_Sh sk h) (hd : ab_dflt sk c = some (1, lo, hi, [])) : lo ≤ (mx_i h c).toInt ∧ (mx_i h c).toInt ≤ hi := by
  obtain ⟨x, e, h1, h2, -⟩ := ab_kd1 (ab_dflt_ok (ls := []) (L0 := []) (h0 := []) hS hd) rfl
  unfold mx_i
  rw [e]
  exact ⟨h1, h2⟩
theorem mx_a_bd {k t n i : Nat} {lo hi : Int} {ex : List Int} (hS : ab_Sh sk h) (hk : sk[k]? = some (some (.inl (t, n, lo, hi, ex)))) (ht : t ≠ 1) (hi' : i < n) : lo ≤ (mx_a h k i).toInt ∧ (mx_a h k i).toInt ≤ hi := by
  obtain ⟨f, e1, e2⟩ := mx_arr hS hk ht
  unfold mx_a
  rw [e1]
  exact ⟨(e2 i hi').1, (e2 i hi').2.1⟩
end MXR
/-! THE SAME OVER WHAT WAS WRITTEN, the newest first: a field, an int in an array, a long in an array -/
abbrev mx_U : Type := (Nat × Value) ⊕ (Nat × Nat × Int32) ⊕ (Nat × Nat × Int64)
def mx_ap1 (u : mx_U) (h : sm_H) : sm_H := match u with
  | .inl (c, v) => mx_pf h c v
  | .inr (.inl (k, i, x)) => mx_pa h k i x
  | .inr (.inr (k, i, x)) => mx_pb h k i x
def mx_ap : List mx_U → sm_H → sm_H
  | [], h => h
  | u :: r, h => mx_ap1 u (mx_ap r h)
def mx_o1 (sk : ab_K) (u : mx_U) : Bool := match u with
  | .inl (c, _) => mx_isF sk c
  | .inr (.inl (k, _, _)) => mx_isA sk k
  | .inr (.inr (k, _, _)) => mx_isB sk k
def mx_oO (sk : ab_K) (O : List mx_U) : Prop := ∀ u ∈ O, mx_o1 sk u = true
def mx_ri : List mx_U → Nat → sm_H → Int32
  | [], c, h => mx_i h c
  | .inl (c0, v) :: r, c, h => if c = c0 then (match v with
    | .int x => x
    | _ => 0) else mx_ri r c h
  | .inr _ :: r, c, h => mx_ri r c h
def mx_rl : List mx_U → Nat → sm_H → Int64
  | [], c, h => mx_l h c
  | .inl (c0, v) :: r, c, h => if c = c0 then (match v with
    | .long x => x
    | _ => 0) else mx_rl r c h
  | .inr _ :: r, c, h => mx_rl r c h
def mx_ra : List mx_U → Nat → Nat → sm_H → Int32
  | [], k, i, h => mx_a h k i
  | .inr (.inl (k0, i0, x)) :: r, k, i, h => if k = k0 then (if i = i0 then x else mx_ra r k i h) else mx_ra r k i h
  | .inl _ :: r, k, i, h => mx_ra r k i h
  | .inr (.inr _) :: r, k, i, h => mx_ra r k i h
def mx_rb : List mx_U → Nat → Nat → sm_H → Int64
  | [], k, i, h => mx_b h k i
  | .inr (.inr (k0, i0, x)) :: r, k, i, h => if k = k0 then (if i = i0 then x else mx_rb r k i h) else mx_rb r k i h
  | .inl _ :: r, k, i, h => mx_rb r k i h
  | .inr (.inl _) :: r, k, i, h => mx_rb r k i h
section MXV
variable {sk : ab_K} {h : sm_H}
theorem mx_Sp_ap (hS : mx_Sp sk h) : ∀ O : List mx_U, mx_Sp sk (mx_ap O h) := by
  intro O
  induction O with
  | nil => exact hS
  | cons u r ih =>
    rcases u with ⟨c, v⟩ | ⟨k, i, x⟩ | ⟨k, i, x⟩
    · exact mx_Sp_pf ih
    · exact mx_Sp_pa ih
    · exact mx_Sp_pb ih
theorem mx_oO_tl {u : mx_U} {r : List mx_U} (ho : mx_oO sk (u :: r)) : mx_oO sk r := fun v hv => ho v (List.mem_cons_of_mem _ hv)
theorem mx_i_ap {c : Nat} (hS : mx_Sp sk h) : ∀ O : List mx_U, mx_oO sk O → mx_i (mx_ap O h) c = mx_ri O c h := by
  intro O
  induction O with
  | nil => intro _; rfl
  | cons u r ih =>
    intro ho
    have ih := ih (mx_oO_tl ho)
    have h1 := ho u List.mem_cons_self
    rcases u with ⟨c0, v⟩ | ⟨k, i, x⟩ | ⟨k, i, x⟩
    · show mx_i (mx_pf (mx_ap r h) c0 v) c = _
      unfold mx_ri mx_i
      rw [mx_fld_pf (mx_Sp_ap hS r) h1]
      by_cases hc : c = c0
      · rw [if_pos hc, if_pos hc]
        cases v <;> rfl
      · rw [if_neg hc, if_neg hc]
        exact ih
    · exact mx_i_pa.trans ih
    · exact mx_i_pb.trans ih
theorem mx_l_ap {c : Nat} (hS : mx_Sp sk h) : ∀ O : List mx_U, mx_oO sk O → mx_l (mx_ap O h) c = mx_rl O c h := by
  intro O
  induction O with
  | nil => intro _; rfl
  | cons u r ih =>
    intro ho
    have ih := ih (mx_oO_tl ho)
    have h1 := ho u List.mem_cons_self
    rcases u with ⟨c0, v⟩ | ⟨k, i, x⟩ | ⟨k, i, x⟩
    · show mx_l (mx_pf (mx_ap r h) c0 v) c = _
      unfold mx_rl mx_l
      rw [mx_fld_pf (mx_Sp_ap hS r) h1]
      by_cases hc : c = c0
      · rw [if_pos hc, if_pos hc]
        cases v <;> rfl
      · rw [if_neg hc, if_neg hc]
        exact ih
    · exact mx_l_pa.trans ih
    · exact mx_l_pb.trans ih
theorem mx_a_ap {k i : Nat} (hS : mx_Sp sk h) : ∀ O : List mx_U, mx_oO sk O → mx_a (mx_ap O h) k i = mx_ra O k i h := by
  intro O
  induction O with
  | nil => intro _; rfl
  | cons u r ih =>
    intro ho
    have ih := ih (mx_oO_tl ho)
    have h1 := ho u List.mem_cons_self
    rcases u with ⟨c0, v⟩ | ⟨k0, i0, x⟩ | ⟨k0, i0, x⟩
    · exact mx_a_pf.trans ih
    · show mx_a (mx_pa (mx_ap r h) k0 i0 x) k i = _
      unfold mx_ra
      rw [mx_a_pa (mx_Sp_ap hS r) h1, ih]
      by_cases ek : k = k0
      · rw [if_pos ek]
        by_cases ei : i = i0
        · rw [if_pos ei, if_pos ⟨ek, ei⟩]
        · rw [if_neg ei, if_neg (fun z => ei z.2)]
      · rw [if_neg ek, if_neg (fun z => ek z.1)]
    · exact mx_a_pb.trans ih
theorem mx_b_ap {k i : Nat} (hS : mx_Sp sk h) : ∀ O : List mx_U, mx_oO sk O → mx_b (mx_ap O h) k i = mx_rb O k i h := by
  intro O
  induction O with
  | nil => intro _; rfl
  | cons u r ih =>
    intro ho
    have ih := ih (mx_oO_tl ho)
    have h1 := ho u List.mem_cons_self
    rcases u with ⟨c0, v⟩ | ⟨k0, i0, x⟩ | ⟨k0, i0, x⟩
    · exact mx_b_pf.trans ih
    · exact mx_b_pa.trans ih
    · show mx_b (mx_pb (mx_ap r h) k0 i0 x) k i = _
      unfold mx_rb
      rw [mx_b_pb (mx_Sp_ap hS r) h1, ih]
      by_cases ek : k = k0
      · rw [if_pos ek]
        by_cases ei : i = i0
        · rw [if_pos ei, if_pos ⟨ek, ei⟩]
        · rw [if_neg ei, if_neg (fun z => ei z.2)]
      · rw [if_neg ek, if_neg (fun z => ek z.1)]
end MXV
/-! one instruction over what was written -/
abbrev mo_R : Type := Nat × sm_L × List Value × List mx_U × List Prop
def mo_fk (sk : ab_K) (a k : Nat) (cs : List Nat) : Option (Nat × Int × Int) := match sk[a]? with
  | some (some (.inr (ci, fl))) => if ci ∈ cs ∧ k < 128 ∧ sm_C ≤ a then fl[k]? else none
  | _ => none
def mo_ak (sk : ab_K) (a : Nat) : Option (Nat × Nat × Int × Int) := match sk[a]? with
  | some (some (.inl (t, n, lo, hi, ex))) => if sm_C ≤ a ∧ ex = [] then some (t, n, lo, hi) else none
  | _ => none
def mo_step (sk : ab_K) (q : sm_I) (pc : Nat) (ls : sm_L) (st : List Value) (h : sm_H) (O : List mx_U) (b : Nat) : Option mo_R := match q with
  | (i, len, rs) => match i with
    | .getfield _ => match st, rs with
      | .ref a :: r, k :: z :: cs => if z = 0 then (match mo_fk sk a k cs with
        | some (t, lo, _) => some (pc + 3, ls, (if t = 0 then .int (mx_ri O (a * 128 + k) h) else if t = 1 then .long (mx_rl O (a * 128 + k) h) else .ref lo.toNat) :: r, O, [])
        | none => none) else none
      | _, _ => none
    | .putfield _ => match st, rs with
      | .int x :: .ref a :: r, k :: t :: _ :: cs => (match mo_fk sk a k cs with
        | some (t', lo, hi) => if t' = 0 ∧ (t = 0 ∨ t = 3) then some (pc + 3, ls, r, .inl (a * 128 + k, .int x) :: O, [lo ≤ x.toInt ∧ x.toInt ≤ hi, t = 3 → 0 ≤ x.toInt ∧ x.toInt ≤ 1]) else none
        | none => none)
      | .long x :: .ref a :: r, k :: t :: _ :: cs => (match mo_fk sk a k cs with
        | some (t', lo, hi) => if t' = 1 ∧ t = 1 then some (pc + 3, ls, r, .inl (a * 128 + k, .long x) :: O, [lo ≤ x.toInt ∧ x.toInt ≤ hi]) else none
        | none => none)
      | _, _ => none
    | .iaload => match st with
      | .int x :: .ref a :: r => (match mo_ak sk a with
        | some (t, n, _, _) => if t = 0 then some (pc + 1, ls, .int (mx_ra O a x.toNatClampNeg h) :: r, O, [0 ≤ x.toInt ∧ x.toInt < (n : Int)]) else none
        | none => none)
      | _ => none
    | .baload => match st with
      | .int x :: .ref a :: r => (match mo_ak sk a with
        | some (t, n, _, _) => if t = 3 then some (pc + 1, ls, .int (mx_ra O a x.toNatClampNeg h) :: r, O, [0 ≤ x.toInt ∧ x.toInt < (n : Int)]) else none
        | none => none)
      | _ => none
    | .iastore => match st with
      | .int y :: .int x :: .ref a :: r => (match mo_ak sk a with
        | some (t, n, lo, hi) => if t = 0 then some (pc + 1, ls, r, .inr (.inl (a, x.toNatClampNeg, y)) :: O, [0 ≤ x.toInt ∧ x.toInt < (n : Int), lo ≤ y.toInt ∧ y.toInt ≤ hi]) else none
        | none => none)
      | _ => none
    | .bastore => match st with
      | .int y :: .int x :: .ref a :: r => (match mo_ak sk a with
        | some (t, n, lo, hi) => if t = 3 then some (pc + 1, ls, r, .inr (.inl (a, x.toNatClampNeg, y &&& 1)) :: O, [0 ≤ x.toInt ∧ x.toInt < (n : Int), lo ≤ (y &&& 1).toInt ∧ (y &&& 1).toInt ≤ hi]) else none
        | none => none)
      | _ => none
    | .laload => match st with
      | .int x :: .ref a :: r => (match mo_ak sk a with
        | some (t, n, _, _) => if t = 1 then some (pc + 1, ls, .long (mx_rb O a x.toNatClampNeg h) :: r, O, [0 ≤ x.toInt ∧ x.toInt < (n : Int)]) else none
        | none => none)
      | _ => none
    | .lastore => match st with
      | .long y :: .int x :: .ref a :: r => (match mo_ak sk a with
        | some (t, n, lo, hi) => if t = 1 then some (pc + 1, ls, r, .inr (.inr (a, x.toNatClampNeg, y)) :: O, [0 ≤ x.toInt ∧ x.toInt < (n : Int), lo ≤ y.toInt ∧ y.toInt ≤ hi]) else none
        | none => none)
      | _ => none
    | .if_icmp c off => match st with
      | .int y :: .int x :: r => if b = 1 then some (sm_jmp pc off, ls, r, O, [sm_cmp c x y = true]) else some (pc + 3, ls, r, O, [sm_cmp c x y = false])
      | _ => none
    | .ifCond c off => match st with
      | .int x :: r => if b = 1 then some (sm_jmp pc off, ls, r, O, [sm_cmp c x 0 = true]) else some (pc + 3, ls, r, O, [sm_cmp c x 0 = false])
      | _ => none
    | .tableswitch d lo hi offs => match st with
      | .int x :: r => if b = 1000 then some (sm_jmp pc d, ls, r, O, [x.toInt < lo ∨ hi < x.toInt]) else (match offs[b]? with
        | some off => some (sm_jmp pc off, ls, r, O, [x.toInt = lo + (b : Int) ∧ x.toInt ≤ hi])
        | none => none)
      | _ => none
    | .idiv => match st with
      | .int y :: .int x :: r => some (pc + 1, ls, .int (x / y) :: r, O, [y ≠ 0])
      | _ => none
    | .irem => match st with
      | .int y :: .int x :: r => some (pc + 1, ls, .int (x - x / y * y) :: r, O, [y ≠ 0])
      | _ => none
    | .lrem => match st with
      | .long y :: .long x :: r => some (pc + 1, ls, .long (x - x / y * y) :: r, O, [y ≠ 0])
      | _ => none
    | _ => if mx_pureI i then (match sm_step (i, len, rs) pc ls st [] with
      | some (.inl (pc', ls', st', _)) => some (pc', ls', st', O, [])
      | _ => none) else none
def mo_path (tab : List (Option sm_I)) (sk : ab_K) (h : sm_H) : Nat → List Nat → Nat → sm_L → List Value → List mx_U → Option mo_R
  | 0, _, pc, ls, st, O => some (pc, ls, st, O, [])
  | n + 1, bs, pc, ls, st, O => match tab[pc]? with
    | some (some q) => match mo_step sk q pc ls st h O (bs.headD 0) with
      | some (pc', ls', st', O', ob) => match mo_path tab sk h n (match q.1 with
          | .if_icmp _ _ | .ifCond _ _ | .tableswitch _ _ _ _ => bs.tail
          | _ => bs) pc' ls' st' O' with
        | some (pc2, ls2, st2, O2, ob2) => some (pc2, ls2, st2, O2, ob ++ ob2)
        | none => none
      | none => none
    | _ => none
/-! .. is a step -/
section MOO
variable {sk : ab_K} {h : sm_H} {ls : sm_L} {st : List Value} {pc : Nat} {O : List mx_U}
theorem mo_fk_inv {a k : Nat} {cs : List Nat} {x : Nat × Int × Int} (hf : mo_fk sk a k cs = some x) : ∃ ci fl, sk[a]? = some (some (.inr (ci, fl))) ∧ ci ∈ cs ∧ k < 128 ∧ sm_C ≤ a ∧ fl[k]? = some x := by
  unfold mo_fk at hf
  split at hf
  · next ci fl hk =>
    split at hf
    · next hc => exact ⟨ci, fl, hk, hc.1, hc.2.1, hc.2.2, hf⟩
    · cases hf
  · cases hf
theorem mo_ak_inv {a t n : Nat} {lo hi : Int} (hf : mo_ak sk a = some (t, n, lo, hi)) : sk[a]? = some (some (.inl (t, n, lo, hi, []))) ∧ sm_C ≤ a := by
  unfold mo_ak at hf
  split at hf
  · next hk =>
    split at hf
    · next hc =>
      cases hf
      obtain ⟨h1, rfl⟩ := hc
      exact ⟨hk, h1⟩
    · cases hf
  · cases hf
theorem mo_isF {a k ci : Nat} {fl : List (Nat × Int × Int)} {x : Nat × Int × Int} (hk : sk[a]? = some (some (.inr (ci, fl)))) (h128 : k < 128) (hf : fl[k]? = some x) : mx_isF sk (a * 128 + k) = true := by
  unfold mx_isF
  have ea : (a * 128 + k) / 128 = a := by omega
  have eb : (a * 128 + k) % 128 = k := by omega
  rw [ea, eb, hk]
  exact decide_eq_true (List.getElem?_eq_some_iff.mp hf).1
theorem mo_oO_cons {u : mx_U} (ho : mx_oO sk O) (hu : mx_o1 sk u = true) : mx_oO sk (u :: O) := fun v hv => by
  rcases List.mem_cons.mp hv with rfl | hv
  · exact hu
  · exact ho v hv
set_option maxHeartbeats 2000000 in
theorem mo_step_ok {q : sm_I} {b : Nat} {R : mo_R} (hs : mo_step sk q pc ls st h O b = some R) (hP : mx_Sp sk h) (hO : mx_oO sk O) (hS : ab_Sh sk (mx_ap O h)) (ho : ∀ p ∈ R.2.2.2.2, p) : sm_step q pc ls st (mx_ap O h) = some (.inl (R.1, R.2.1, R.2.2.1, mx_ap R.2.2.2.1 h)) ∧ ab_Sh sk (mx_ap R.2.2.2.1 h) ∧ mx_oO sk R.2.2.2.1 := by
  obtain ⟨i, len, rs⟩ := q
  have viaX : ∀ {R0 : mx_R} {i0 : Instr} {b0 : Nat}, mx_step sk (i0, len, rs) pc ls st (mx_ap O h) b0 = some R0 → (∀ p ∈ R0.2.2.2.2, p) → sm_step (i0, len, rs) pc ls st (mx_ap O h) = some (.inl (R0.1, R0.2.1, R0.2.2.1, R0.2.2.2.1)) ∧ ab_Sh sk R0.2.2.2.1 := fun h1 h2 => mx_step_ok h1 hS h2
  cases i with
  | getfield n =>
    simp only [mo_step] at hs
    split at hs
    · next a r k z cs =>
      split at hs
      · next hz =>
        subst hz
        split at hs
        · next t lo hi hfk =>
          cases hs
          obtain ⟨ci, fl, hk, g1, g2, g3, hf⟩ := mo_fk_inv hfk
          obtain ⟨e, z⟩ := viaX (i0 := .getfield n) (b0 := 0) (R0 := (pc + 3, ls, (if t = 0 then .int (mx_i (mx_ap O h) (a * 128 + k)) else if t = 1 then .long (mx_l (mx_ap O h) (a * 128 + k)) else .ref lo.toNat) :: r, mx_ap O h, [])) (by
            simp only [mx_step, mx_getf]
            rw [hk]
            dsimp only
            rw [if_pos ⟨g1, g2, trivial, g3⟩, hf]) (fun p hp => absurd hp List.not_mem_nil)
          rw [mx_i_ap hP O hO, mx_l_ap hP O hO] at e
          exact ⟨e, z, hO⟩
        · cases hs
      · cases hs
    · cases hs
  | putfield n =>
    simp only [mo_step] at hs
    split at hs
    · next x a r k t fin cs =>
      split at hs
      · next t' lo hi hfk =>
        split at hs
        · next hc =>
          cases hs
          obtain ⟨ci, fl, hk, g1, g2, g3, hf⟩ := mo_fk_inv hfk
          obtain ⟨e, z⟩ := viaX (i0 := .putfield n) (b0 := 0) (R0 := (pc + 3, ls, r, mx_pf (mx_ap O h) (a * 128 + k) (.int x), [lo ≤ x.toInt ∧ x.toInt ≤ hi, t = 3 → 0 ≤ x.toInt ∧ x.toInt ≤ 1])) (by
            simp only [mx_step, mx_putf]
            rw [hk]
            dsimp only
            rw [if_pos ⟨g1, g2, g3⟩, hf]
            dsimp only
            rw [if_pos hc]) ho
          exact ⟨e, z, mo_oO_cons hO (mo_isF hk g2 hf)⟩
        · cases hs
      · cases hs
    · next x a r k t fin cs =>
      split at hs
      · next t' lo hi hfk =>
        split at hs
        · next hc =>
          cases hs
          obtain ⟨ci, fl, hk, g1, g2, g3, hf⟩ := mo_fk_inv hfk
          obtain ⟨e, z⟩ := viaX (i0 := .putfield n) (b0 := 0) (R0 := (pc + 3, ls, r, mx_pf (mx_ap O h) (a * 128 + k) (.long x), [lo ≤ x.toInt ∧ x.toInt ≤ hi])) (by
            simp only [mx_step, mx_putf]
            rw [hk]
            dsimp only
            rw [if_pos ⟨g1, g2, g3⟩, hf]
            dsimp only
            rw [if_pos hc]) ho
          exact ⟨e, z, mo_oO_cons hO (mo_isF hk g2 hf)⟩
        · cases hs
      · cases hs
    · cases hs
  | iaload =>
    simp only [mo_step] at hs
    split at hs
    · next x a r =>
      split at hs
      · next t n lo hi hak =>
        split at hs
        · next ht =>
          cases hs
          subst ht
          obtain ⟨hk, g1⟩ := mo_ak_inv hak
          obtain ⟨e, z⟩ := viaX (i0 := .iaload) (b0 := 0) (R0 := (pc + 1, ls, .int (mx_a (mx_ap O h) a x.toNatClampNeg) :: r, mx_ap O h, [0 ≤ x.toInt ∧ x.toInt < (n : Int)])) (by
            simp only [mx_step, mx_ald]
            rw [hk]
            dsimp only
            rw [if_pos ⟨List.mem_singleton.mpr rfl, by decide, g1⟩]) ho
          rw [mx_a_ap hP O hO] at e
          exact ⟨e, z, hO⟩
        · cases hs
      · cases hs
    · cases hs
  | baload =>
    simp only [mo_step] at hs
    split at hs
    · next x a r =>
      split at hs
      · next t n lo hi hak =>
        split at hs
        · next ht =>
          cases hs
          subst ht
          obtain ⟨hk, g1⟩ := mo_ak_inv hak
          obtain ⟨e, z⟩ := viaX (i0 := .baload) (b0 := 0) (R0 := (pc + 1, ls, .int (mx_a (mx_ap O h) a x.toNatClampNeg) :: r, mx_ap O h, [0 ≤ x.toInt ∧ x.toInt < (n : Int)])) (by
            simp only [mx_step, mx_ald]
            rw [hk]
            dsimp only
            rw [if_pos ⟨List.mem_singleton.mpr rfl, by decide, g1⟩]) ho
          rw [mx_a_ap hP O hO] at e
          exact ⟨e, z, hO⟩
        · cases hs
      · cases hs
    · cases hs
  | iastore =>
    simp only [mo_step] at hs
    split at hs
    · next y x a r =>
      split at hs
      · next t n lo hi hak =>
        split at hs
        · next ht =>
          cases hs
          subst ht
          obtain ⟨hk, g1⟩ := mo_ak_inv hak
          obtain ⟨e, z⟩ := viaX (i0 := .iastore) (b0 := 0) (R0 := (pc + 1, ls, r, mx_pa (mx_ap O h) a x.toNatClampNeg y, [0 ≤ x.toInt ∧ x.toInt < (n : Int), lo ≤ y.toInt ∧ y.toInt ≤ hi])) (by
            simp only [mx_step, mx_ast]
            rw [hk]
            dsimp only
            rw [if_pos ⟨rfl, by decide, g1, rfl⟩]) ho
          refine ⟨e, z, mo_oO_cons hO ?_⟩
          show mx_isA sk a = true
          unfold mx_isA
          rw [hk]
          rfl
        · cases hs
      · cases hs
    · cases hs
  | bastore =>
    simp only [mo_step] at hs
    split at hs
    · next y x a r =>
      split at hs
      · next t n lo hi hak =>
        split at hs
        · next ht =>
          cases hs
          subst ht
          obtain ⟨hk, g1⟩ := mo_ak_inv hak
          obtain ⟨e, z⟩ := viaX (i0 := .bastore) (b0 := 0) (R0 := (pc + 1, ls, r, mx_pa (mx_ap O h) a x.toNatClampNeg (y &&& 1), [0 ≤ x.toInt ∧ x.toInt < (n : Int), lo ≤ (y &&& 1).toInt ∧ (y &&& 1).toInt ≤ hi])) (by
            simp only [mx_step, mx_ast]
            rw [hk]
            dsimp only
            rw [if_pos ⟨rfl, by decide, g1, rfl⟩]) ho
          refine ⟨e, z, mo_oO_cons hO ?_⟩
          show mx_isA sk a = true
          unfold mx_isA
          rw [hk]
          rfl
        · cases hs
      · cases hs
    · cases hs
  | laload =>
    simp only [mo_step] at hs
    split at hs
    · next x a r =>
      split at hs
      · next t n lo hi hak =>
        split at hs
        · next ht =>
          cases hs
          subst ht
          obtain ⟨hk, g1⟩ := mo_ak_inv hak
          obtain ⟨e, z⟩ := viaX (i0 := .laload) (b0 := 0) (R0 := (pc + 1, ls, .long (mx_b (mx_ap O h) a x.toNatClampNeg) :: r, mx_ap O h, [0 ≤ x.toInt ∧ x.toInt < (n : Int)])) (by
            simp only [mx_step]
            rw [hk]
            dsimp only
            rw [if_pos ⟨rfl, g1⟩]) ho
          rw [mx_b_ap hP O hO] at e
          exact ⟨e, z, hO⟩
        · cases hs
      · cases hs
    · cases hs
  | lastore =>
    simp only [mo_step] at hs
    split at hs
    · next y x a r =>
      split at hs
      · next t n lo hi hak =>
        split at hs
        · next ht =>
          cases hs
          subst ht
          obtain ⟨hk, g1⟩ := mo_ak_inv hak
          obtain ⟨e, z⟩ := viaX (i0 := .lastore) (b0 := 0) (R0 := (pc + 1, ls, r, mx_pb (mx_ap O h) a x.toNatClampNeg y, [0 ≤ x.toInt ∧ x.toInt < (n : Int), lo ≤ y.toInt ∧ y.toInt ≤ hi])) (by
            simp only [mx_step]
            rw [hk]
            dsimp only
            rw [if_pos ⟨rfl, g1⟩]) ho
          refine ⟨e, z, mo_oO_cons hO ?_⟩
          show mx_isB sk a = true
          unfold mx_isB
          rw [hk]
          rfl
        · cases hs
      · cases hs
    · cases hs
  | if_icmp c off =>
    simp only [mo_step] at hs
    split at hs
    · split at hs
      · next hb =>
        cases hs
        obtain ⟨e, z⟩ := viaX (i0 := .if_icmp c off) (b0 := 1) rfl ho
        exact ⟨e, z, hO⟩
      · next hb =>
        cases hs
        obtain ⟨e, z⟩ := viaX (i0 := .if_icmp c off) (b0 := 0) rfl ho
        exact ⟨e, z, hO⟩
    · cases hs
  | ifCond c off =>
    simp only [mo_step] at hs
    split at hs
    · split at hs
      · next hb =>
        cases hs
        obtain ⟨e, z⟩ := viaX (i0 := .ifCond c off) (b0 := 1) rfl ho
        exact ⟨e, z, hO⟩
      · next hb =>
        cases hs
        obtain ⟨e, z⟩ := viaX (i0 := .ifCond c off) (b0 := 0) rfl ho
        exact ⟨e, z, hO⟩
    · cases hs
  | tableswitch d lo hi offs =>
    simp only [mo_step] at hs
    split at hs
    · next x r =>
      split at hs
      · next hb =>
        cases hs
        obtain ⟨e, z⟩ := viaX (i0 := .tableswitch d lo hi offs) (b0 := 1000) rfl ho
        exact ⟨e, z, hO⟩
      · next hb =>
        split at hs
        · next off hoff =>
          cases hs
          obtain ⟨e, z⟩ := viaX (i0 := .tableswitch d lo hi offs) (b0 := b) (R0 := (sm_jmp pc off, ls, r, mx_ap O h, [x.toInt = lo + (b : Int) ∧ x.toInt ≤ hi])) (by
            simp only [mx_step]
            rw [if_neg hb, hoff]) ho
          exact ⟨e, z, hO⟩
        · cases hs
    · cases hs
  | idiv =>
    simp only [mo_step] at hs
    split at hs
    · cases hs
      obtain ⟨e, z⟩ := viaX (i0 := .idiv) (b0 := 0) rfl ho
      exact ⟨e, z, hO⟩
    · cases hs
  | irem =>
    simp only [mo_step] at hs
    split at hs
    · cases hs
      obtain ⟨e, z⟩ := viaX (i0 := .irem) (b0 := 0) rfl ho
      exact ⟨e, z, hO⟩
    · cases hs
  | lrem =>
    simp only [mo_step] at hs
    split at hs
    · cases hs
      obtain ⟨e, z⟩ := viaX (i0 := .lrem) (b0 := 0) rfl ho
      exact ⟨e, z, hO⟩
    · cases hs
  | _ =>
    simp only [mo_step] at hs
    split at hs
    · next hp =>
      split at hs
      · next hq =>
        cases hs
        exact ⟨mx_pure_ok hp hq, hS, hO⟩
      · cases hs
    · cases hs
end MOO
/-! METHODS WITH HANDLERS, AND THE LAW: runs that come to their ends -/
section WBE
variable {P : Nat → Option sm_M} {PW : Nat → Option sm_MW}
theorem sm_run_same {n n' d m pc : Nat} {ls : sm_L} {st : List Value} {h : sm_H} {r r' : Option Value × sm_H} (h1 : sm_run P n d m pc ls st h = some r) (h2 : sm_run P n' d m pc ls st h = some r') : r = r' := by
  have e1 := sm_run_more _ _ _ _ _ _ _ _ h1 (max n n') d (Nat.le_max_left _ _) (Nat.le_refl _)
  have e2 := sm_run_more _ _ _ _ _ _ _ _ h2 (max n n') d (Nat.le_max_right _ _) (Nat.le_refl _)
  exact Option.some.inj (e1.symm.trans e2)
/-- a run that throws does not return -/
theorem sm_runT_run : ∀ (n d m pc : Nat) (ls : sm_L) (st : List Value) (h : sm_H) (r : Nat × sm_H), sm_runT P n d m pc ls st h = some r → ∀ n', sm_run P n' d m pc ls st h = none := by
  intro n
  induction n with
  | zero => intro d m pc ls st h r hr; simp [sm_runT] at hr
  | succ n ih =>
    intro d m pc ls st h r hr n'
    cases n' with
    | zero => rfl
    | succ n1 =>
      simp only [sm_runT] at hr
      simp only [sm_run]
      cases hP : P m with
      | none => rfl
      | some M =>
        obtain ⟨a, k, tab⟩ := M
        rw [hP] at hr
        dsimp only at hr ⊢
        cases hq : tab[pc]? with
        | none => rfl
        | some o =>
          cases o with
          | none => rfl
          | some q =>
            rw [hq] at hr
            dsimp only at hr ⊢
            cases ht : sm_thr q with
            | some x =>
              cases hs : sm_step q pc ls st h with
              | none => rfl
              | some R => rw [ab_thr_none hs] at ht; cases ht
            | none =>
              rw [ht] at hr
              dsimp only at hr
              cases hs : sm_step q pc ls st h with
              | none => rfl
              | some R =>
                rw [hs] at hr
                rcases R with ⟨pc1, ls1, st1, h1⟩ | v | ⟨m1, as, r1⟩
                · exact ih _ _ _ _ _ _ _ hr n1
                · cases hr
                · dsimp only at hr ⊢
                  cases d with
                  | zero => rfl
                  | succ d0 =>
                    (try dsimp only at hr ⊢)
                    cases hP1 : P m1 with
                    | none => rfl
                    | some M1 =>
                      obtain ⟨nl, k1, t1⟩ := M1
                      rw [hP1] at hr
                      dsimp only at hr ⊢
                      split at hr
                      · next hc =>
                        rw [if_pos hc]
                        cases hcall : sm_run P n d0 m1 0 (sm_entry nl as) [] h with
                        | none => rw [hcall] at hr; cases hr
                        | some vr =>
                          obtain ⟨v1, h1⟩ := vr
                          rw [hcall] at hr
                          dsimp only at hr
                          cases hcall' : sm_run P n1 d0 m1 0 (sm_entry nl as) [] h with
                          | none => rfl
                          | some vr' =>
                            have := sm_run_same hcall hcall'
                            subst this
                            exact ih _ _ _ _ _ _ _ hr n1
                      · cases hr
theorem sm_runW_more : ∀ (n d m pc : Nat) (ls : sm_L) (st : List Value) (h : sm_H) (r : Option Value × sm_H), sm_runW P PW n d m pc ls st h = some r → ∀ n', n ≤ n' → sm_runW P PW n' d m pc ls st h = some r := by
  intro n
  induction n with
  | zero => intro d m pc ls st h r hr; simp [sm_runW] at hr
  | succ n ih =>
    intro d m pc ls st h r hr n' hn
    obtain ⟨n1, rfl⟩ : ∃ k, n' = k + 1 := ⟨n' - 1, by omega⟩
    simp only [sm_runW] at hr ⊢
    cases hP : PW m with
    | none => rw [hP] at hr; cases hr
    | some M =>
      obtain ⟨⟨a, k, tab⟩, al⟩ := M
      rw [hP] at hr
      dsimp only at hr ⊢
      cases hq : tab[pc]? with
      | none => rw [hq] at hr; cases hr
      | some o =>
        cases o with
        | none => rw [hq] at hr; cases hr
        | some q =>
          rw [hq] at hr
          dsimp only at hr ⊢
          cases hs : sm_step q pc ls st h with
          | none => rw [hs] at hr; cases hr
          | some R =>
            rw [hs] at hr
            rcases R with ⟨pc1, ls1, st1, h1⟩ | v | ⟨m1, as, r1⟩
            · exact ih _ _ _ _ _ _ _ hr _ (by omega)
            · exact hr
            · dsimp only at hr ⊢
              cases d with
              | zero => cases hr
              | succ d0 =>
                (try dsimp only at hr ⊢)
                cases hP1 : P m1 with
                | none => rw [hP1] at hr; cases hr
                | some M1 =>
                  obtain ⟨nl, k1, t1⟩ := M1
                  rw [hP1] at hr
                  dsimp only at hr ⊢
                  split at hr
                  · next hc =>
                    rw [if_pos hc]
                    cases hcall : sm_run P n d0 m1 0 (sm_entry nl as) [] h with
                    | some vr =>
                      obtain ⟨v1, h1⟩ := vr
                      rw [hcall] at hr
                      rw [sm_run_more _ _ _ _ _ _ _ _ hcall n1 d0 (by omega) (Nat.le_refl _)]
                      exact ih _ _ _ _ _ _ _ hr _ (by omega)
                    | none =>
                      rw [hcall] at hr
                      dsimp only at hr
                      cases hT : sm_runT P n d0 m1 0 (sm_entry nl as) [] h with
                      | none => rw [hT] at hr; cases hr
                      | some xr =>
                        obtain ⟨x, h1⟩ := xr
                        rw [hT] at hr
                        dsimp only at hr
                        rw [sm_runT_run _ _ _ _ _ _ _ _ hT n1, sm_runT_more _ _ _ _ _ _ _ _ hT n1 d0 (by omega) (Nat.le_refl _)]
                        dsimp only
                        cases hf : sm_find pc x al with
                        | none => rw [hf] at hr; cases hr
                        | some hp =>
                          rw [hf] at hr
                          exact ih _ _ _ _ _ _ _ hr _ (by omega)
                  · cases hr
def wb_Ends (P : Nat → Option sm_M) (PW : Nat → Option sm_MW) (d m pc : Nat) (ls : sm_L) (st : List Value) (h : sm_H) (Q : Option Value → sm_H → Prop) : Prop := ∃ (n : Nat) (v : Option Value) (h' : sm_H), sm_runW P PW n d m pc ls st h = some (v, h') ∧ Q v h'
variable {d m pc : Nat} {ls : sm_L} {st : List Value} {h : sm_H} {Q Q' : Option Value → sm_H → Prop} {QT : Nat → sm_H → Prop} {M : sm_MW} {M' : sm_M} {q : sm_I}
theorem wb_Ends.step {pc' : Nat} {ls' : sm_L} {st' : List Value} {h' : sm_H} (hM : PW m = some M) (hq : M.1.2.2[pc]? = some (some q)) (hs : sm_step q pc ls st h = some (.inl (pc', ls', st', h'))) (k : wb_Ends P PW d m pc' ls' st' h' Q) : wb_Ends P PW d m pc ls st h Q := by
  obtain ⟨n, v, h2, hr, hQ⟩ := k
  obtain ⟨⟨a, b, tab⟩, al⟩ := M
  dsimp only at hq
  refine ⟨n + 1, v, h2, ?_, hQ⟩
  simp only [sm_runW, hM, hq, hs]
  exact hr
theorem wb_Ends.ret {v : Option Value} (hM : PW m = some M) (hq : M.1.2.2[pc]? = some (some q)) (hs : sm_step q pc ls st h = some (.inr (.inl v))) (hk : sm_okret M.1.2.1 v = true) (hQ : Q v h) : wb_Ends P PW d m pc ls st h Q := by
  obtain ⟨⟨a, b, tab⟩, al⟩ := M
  dsimp only at hq hk
  refine ⟨1, v, h, ?_, hQ⟩
  simp only [sm_runW, hM, hq, hs, hk, if_true]
theorem wb_Ends.call {m' : Nat} {as r : List Value} (hM : PW m = some M) (hq : M.1.2.2[pc]? = some (some q)) (hs : sm_step q pc ls st h = some (.inr (.inr (m', as, r)))) (hM' : P m' = some M') (hl : (sm_slots as).length ≤ M'.1) (hc : (r.map fun v => v.category).sum ≤ 8)
    (k : ab_EndsX P QT d m' 0 (sm_entry M'.1 as) [] h Q') (k1 : ∀ v h', Q' v h' → wb_Ends P PW (d + 1) m (pc + 3) ls (sm_back v r) h' Q) (k2 : ∀ x h', QT x h' → ∃ hp, sm_find pc x M.2 = some hp ∧ wb_Ends P PW (d + 1) m hp ls [.ref (h'.length - 1)] h' Q) : wb_Ends P PW (d + 1) m pc ls st h Q := by
  obtain ⟨⟨a, b, tab⟩, al⟩ := M
  obtain ⟨a', b', tab'⟩ := M'
  dsimp only at hq hl k
  have hcc : (sm_slots as).length ≤ a' ∧ (r.map fun v => v.category).sum ≤ 8 := ⟨hl, hc⟩
  rcases k with ⟨n1, v1, h1, hr1, hQ1⟩ | ⟨n1, x, h1, hr1, hQ1⟩
  · obtain ⟨n2, v2, h2, hr2, hQ⟩ := k1 v1 h1 hQ1
    refine ⟨max n1 n2 + 1, v2, h2, ?_, hQ⟩
    have e1 := sm_run_more _ _ _ _ _ _ _ _ hr1 (max n1 n2) d (Nat.le_max_left _ _) (Nat.le_refl _)
    have e2 := sm_runW_more _ _ _ _ _ _ _ _ hr2 (max n1 n2) (Nat.le_max_right _ _)
    simp only [sm_runW, hM, hq, hs, hM', e1]
    rw [if_pos hcc]
    exact e2
  · obtain ⟨hp, hf, n2, v2, h2, hr2, hQ⟩ := k2 x h1 hQ1
    refine ⟨max n1 n2 + 1, v2, h2, ?_, hQ⟩
    have e0 := sm_runT_run _ _ _ _ _ _ _ _ hr1 (max n1 n2)
    have e1 := sm_runT_more _ _ _ _ _ _ _ _ hr1 (max n1 n2) d (Nat.le_max_left _ _) (Nat.le_refl _)
    have e2 := sm_runW_more _ _ _ _ _ _ _ _ hr2 (max n1 n2) (Nat.le_max_right _ _)
    dsimp only at hf
    simp only [sm_runW, hM, hq, hs, hM', e0, e1, hf]
    rw [if_pos hcc]
    exact e2
/-! the law -/
variable {tab : List (Option sm_I)} {QL : sm_H → Prop}
theorem sm_runL_more : ∀ (n d pc : Nat) (ls : sm_L) (st : List Value) (h : sm_H) (r : Option Value × sm_H), sm_runL P PW tab n d pc ls st h = some r → ∀ n', n ≤ n' → sm_runL P PW tab n' d pc ls st h = some r := by
  intro n
  induction n with
  | zero => intro d pc ls st h r hr; simp [sm_runL] at hr
  | succ n ih =>
    intro d pc ls st h r hr n' hn
    obtain ⟨n1, rfl⟩ : ∃ k, n' = k + 1 := ⟨n' - 1, by omega⟩
    simp only [sm_runL] at hr ⊢
    cases hq : tab[pc]? with
    | none => rw [hq] at hr; cases hr
    | some o =>
      cases o with
      | none => rw [hq] at hr; cases hr
      | some q =>
        rw [hq] at hr
        dsimp only at hr ⊢
        cases hs : sm_step q pc ls st h with
        | none => rw [hs] at hr; cases hr
        | some R =>
          rw [hs] at hr
          rcases R with ⟨pc1, ls1, st1, h1⟩ | v | ⟨m1, as, r1⟩
          · exact ih _ _ _ _ _ _ hr _ (by omega)
          · exact hr
          · dsimp only at hr ⊢
            cases d with
            | zero => cases hr
            | succ d0 =>
              (try dsimp only at hr ⊢)
              cases hPW : PW m1 with
              | some MW =>
                obtain ⟨⟨nl, k1, t1⟩, al1⟩ := MW
                rw [hPW] at hr
                dsimp only at hr ⊢
                split at hr
                · next hc =>
                  rw [if_pos hc]
                  cases hcall : sm_runW P PW n d0 m1 0 (sm_entry nl as) [] h with
                  | none => rw [hcall] at hr; cases hr
                  | some vr =>
                    obtain ⟨v1, h1⟩ := vr
                    rw [hcall] at hr
                    rw [sm_runW_more _ _ _ _ _ _ _ _ hcall n1 (by omega)]
                    exact ih _ _ _ _ _ _ hr _ (by omega)
                · cases hr
              | none =>
                rw [hPW] at hr
                dsimp only at hr ⊢
                cases hP1 : P m1 with
                | none => rw [hP1] at hr; cases hr
                | some M1 =>
                  obtain ⟨nl, k1, t1⟩ := M1
                  rw [hP1] at hr
                  dsimp only at hr ⊢
                  split at hr
                  · next hc =>
                    rw [if_pos hc]
                    cases hcall : sm_run P n d0 m1 0 (sm_entry nl as) [] h with
                    | none => rw [hcall] at hr; cases hr
                    | some vr =>
                      obtain ⟨v1, h1⟩ := vr
                      rw [hcall] at hr
                      rw [sm_run_more _ _ _ _ _ _ _ _ hcall n1 d0 (by omega) (Nat.le_refl _)]
                      exact ih _ _ _ _ _ _ hr _ (by omega)
                  · cases hr
def lb_Ends (P : Nat → Option sm_M) (PW : Nat → Option sm_MW) (tab : List (Option sm_I)) (d pc : Nat) (ls : sm_L) (st : List Value) (h : sm_H) (QL : sm_H → Prop) : Prop := ∃ (n : Nat) (h' : sm_H), sm_runL P PW tab n d pc ls st h = some (some (.int 1), h') ∧ QL h'
theorem lb_Ends.step {pc' : Nat} {ls' : sm_L} {st' : List Value} {h' : sm_H} (hq : tab[pc]? = some (some q)) (hs : sm_step q pc ls st h = some (.inl (pc', ls', st', h'))) (k : lb_Ends P PW tab d pc' ls' st' h' QL) : lb_Ends P PW tab d pc ls st h QL := by
  obtain ⟨n, h2, hr, hQ⟩ := k
  refine ⟨n + 1, h2, ?_, hQ⟩
  simp only [sm_runL, hq, hs]
  exact hr
theorem lb_Ends.ret (hq : tab[pc]? = some (some q)) (hs : sm_step q pc ls st h = some (.inr (.inl (some (.int 1))))) (hQ : QL h) : lb_Ends P PW tab d pc ls st h QL := by
  refine ⟨1, h, ?_, hQ⟩
  simp only [sm_runL, hq, hs]
theorem lb_Ends.callP {m' : Nat} {as r : List Value} (hq : tab[pc]? = some (some q)) (hs : sm_step q pc ls st h = some (.inr (.inr (m', as, r)))) (hW : PW m' = none) (hM' : P m' = some M') (hl : (sm_slots as).length ≤ M'.1) (hc : (r.map fun v => v.category).sum ≤ 8)
    (k : ab_Ends P d m' 0 (sm_entry M'.1 as) [] h Q') (k1 : ∀ v h', Q' v h' → lb_Ends P PW tab (d + 1) (pc + 3) ls (sm_back v r) h' QL) : lb_Ends P PW tab (d + 1) pc ls st h QL := by
  obtain ⟨a', b', tab'⟩ := M'
  dsimp only at hl k
  have hcc : (sm_slots as).length ≤ a' ∧ (r.map fun v => v.category).sum ≤ 8 := ⟨hl, hc⟩
  obtain ⟨n1, v1, h1, hr1, hQ1⟩ := k
  obtain ⟨n2, h2, hr2, hQ⟩ := k1 v1 h1 hQ1
  refine ⟨max n1 n2 + 1, h2, ?_, hQ⟩
  have e1 := sm_run_more _ _ _ _ _ _ _ _ hr1 (max n1 n2) d (Nat.le_max_left _ _) (Nat.le_refl _)
  have e2 := sm_runL_more _ _ _ _ _ _ _ hr2 (max n1 n2) (Nat.le_max_right _ _)
  simp only [sm_runL, hq, hs, hW, hM', e1]
  rw [if_pos hcc]
  exact e2
theorem lb_Ends.callW {m' : Nat} {as r : List Value} (hq : tab[pc]? = some (some q)) (hs : sm_step q pc ls st h = some (.inr (.inr (m', as, r)))) (hM : PW m' = some M) (hl : (sm_slots as).length ≤ M.1.1) (hc : (r.map fun v => v.category).sum ≤ 8)
    (k : wb_Ends P PW d m' 0 (sm_entry M.1.1 as) [] h Q') (k1 : ∀ v h', Q' v h' → lb_Ends P PW tab (d + 1) (pc + 3) ls (sm_back v r) h' QL) : lb_Ends P PW tab (d + 1) pc ls st h QL := by
  obtain ⟨⟨a', b', tab'⟩, al'⟩ := M
  dsimp only at hl k
  have hcc : (sm_slots as).length ≤ a' ∧ (r.map fun v => v.category).sum ≤ 8 := ⟨hl, hc⟩
  obtain ⟨n1, v1, h1, hr1, hQ1⟩ := k
  obtain ⟨n2, h2, hr2, hQ⟩ := k1 v1 h1 hQ1
  refine ⟨max n1 n2 + 1, h2, ?_, hQ⟩
  have e1 := sm_runW_more _ _ _ _ _ _ _ _ hr1 (max n1 n2) (Nat.le_max_left _ _)
  have e2 := sm_runL_more _ _ _ _ _ _ _ hr2 (max n1 n2) (Nat.le_max_right _ _)
  simp only [sm_runL, hq, hs, hM, e1]
  rw [if_pos hcc]
  exact e2
end WBE
/-! THE CHECK OF A METHOD WITH HANDLERS: all that it calls has a contract; a handler returns a constant -/
def wb_cr (tab : List (Option sm_I)) (p : Nat) : Option Int := match tab[p]?, tab[p + 1]? with
  | some (some (.iconst c, _, _)), some (some (.ireturn, _, _)) => some c
  | _, _ => none
def wb_hand (tab : List (Option sm_I)) (hp nl : Nat) : Option Int := match tab[hp]? with
  | some (some (.astore_n j, _, _)) => if (j : Nat) < nl then wb_cr tab (hp + 1) else none
  | some (some (.astore j, _, _)) => if j < nl then wb_cr tab (hp + 2) else none
  | _ => none
def wb_find (sk : ab_K) (d m : Nat) (as : List ab_V) (hc : ab_HC) (wr : List (Nat × Nat)) : List (List Nat × ab_C) → Option (List Nat × ab_C)
  | [] => none
  | e :: r => if e.2.1 = m ∧ ab_leL as e.2.2.1 = true ∧ ab_leH sk hc e.2.2.2.1 = true ∧ e.2.2.2.2.2.2 ≤ d ∧ ab_sub_wr e.2.2.2.2.2.1 wr = true then some e else wb_find sk d m as hc wr r
def wb_exp (P : Nat → Option sm_M) (sk : ab_K) (wr : List (Nat × Nat)) (env : List (List Nat × ab_C)) (nl k : Nat) (tab : List (Option sm_I)) (al : List (Nat × Nat × Nat × Nat × Nat)) (posts : List ab_V) : Nat → Nat → Nat → ab_A → Bool
  | 0, _, _, _ => false
  | n + 1, d, pc, A => match tab[pc]? with
    | some (some q) => match ab_step sk wr q pc A with
      | some outs => outs.all (fun o => wb_exp P sk wr env nl k tab al posts n d o.1 o.2)
      | none => match ab_retv q k A with
        | some rv => posts.any (fun p => ab_leR k rv p)
        | none => match ab_callv sk q A with
          | some (m', as, r) => match d, P m' with
            | d' + 1, some (nl', k', _) => as.all (fun a => !(a.1 == 0)) && (decide ((ab_slots as).length ≤ nl') && (ab_cats r && (match wb_find sk d' m' as A.2.2 wr env with
              | some e => e.2.2.2.2.1.all (fun p => (k' == 0 || !(p.1.1 == 0)) && wb_exp P sk wr env nl k tab al posts n (d' + 1) (pc + 3) (A.1.map (ab_keep (ab_nw e.2.2.2.2.2.1)), ab_back (if k' = 0 then none else some (ab_strip p.1)) (r.map (ab_keep (ab_nw e.2.2.2.2.2.1))), ab_newH e.2.2.2.2.2.1 p.2 A.2.2)) &&
                  e.1.all (fun x => match sm_find pc x al with
                    | some hp => match wb_hand tab hp nl with
                      | some c => decide (k = 1) && posts.any (fun p => ab_leV (ab_ci (Int32.ofInt c).toInt) p)
                      | none => false
                    | none => false)
              | none => false)))
            | _, _ => false
          | none => false
    | _ => false
/-- how it ends: an exception may lie behind the cells -/
def wb_Post (sk : ab_K) (wr : List (Nat × Nat)) (posts : List ab_V) (k : Nat) (hS : sm_H) (v : Option Value) (h' : sm_H) : Prop := ∃ g, ab_Sh sk g ∧ ab_Fr wr hS g ∧ (h' = g ∨ ∃ x, h' = g ++ [sm_exc x]) ∧ ∃ p ∈ posts, ab_res k p v
section WBX
variable {P : Nat → Option sm_M} {PW : Nat → Option sm_MW} {sk : ab_K} {wr : List (Nat × Nat)} {env : List (List Nat × ab_C)} {posts : List ab_V}
theorem wb_find_ok {d m : Nat} {as : List ab_V} {hc : ab_HC} {e : List Nat × ab_C} : ∀ env : List (List Nat × ab_C), wb_find sk d m as hc wr env = some e → e ∈ env ∧ e.2.1 = m ∧ ab_leL as e.2.2.1 = true ∧ ab_leH sk hc e.2.2.2.1 = true ∧ e.2.2.2.2.2.2 ≤ d ∧ ab_sub_wr e.2.2.2.2.2.1 wr = true := by
  intro env
  induction env with
  | nil => intro h; simp [wb_find] at h
  | cons e0 r ih =>
    intro h
    simp only [wb_find] at h
    split at h
    · next hc => cases h; exact ⟨List.mem_cons_self, hc⟩
    · obtain ⟨h1, h2⟩ := ih h
      exact ⟨List.mem_cons_of_mem _ h1, h2⟩
theorem wb_cr_ok {m d p nl k : Nat} {tab : List (Option sm_I)} {al : List (Nat × Nat × Nat × Nat × Nat)} {c : Int} {ls : sm_L} {h : sm_H} {Q : Option Value → sm_H → Prop} (hM : PW m = some ((nl, k, tab), al)) (hk : k = 1) (hc : wb_cr tab p = some c) (hQ : Q (some (.int (Int32.ofInt c))) h) : wb_Ends P PW d m p ls [] h Q := by
  unfold wb_cr at hc
  split at hc
  · next c0 l1 r1 l2 r2 h1 h2 =>
    cases hc
    refine wb_Ends.step (M := ((nl, k, tab), al)) hM h1 rfl ?_
    refine wb_Ends.ret (M := ((nl, k, tab), al)) hM h2 rfl ?_ hQ
    subst hk
    rfl
  · cases hc
theorem wb_hand_ok {m d hp nl k : Nat} {tab : List (Option sm_I)} {al : List (Nat × Nat × Nat × Nat × Nat)} {c : Int} {ls : sm_L} {h : sm_H} {z : Nat} {Q : Option Value → sm_H → Prop} (hM : PW m = some ((nl, k, tab), al)) (hk : k = 1) (hl : ls.length = nl) (hc : wb_hand tab hp nl = some c) (hQ : Q (some (.int (Int32.ofInt c))) h) : wb_Ends P PW d m hp ls [.ref z] h Q := by
  unfold wb_hand at hc
  split at hc
  · next j l1 r1 h1 =>
    split at hc
    · next hj =>
      refine wb_Ends.step (M := ((nl, k, tab), al)) (pc' := hp + 1) (ls' := (sm_kill ls j).set j (some (.ref z))) (st' := []) (h' := h) hM h1 ?_ (wb_cr_ok hM hk hc hQ)
      simp only [sm_step, sm_store1, sm_isA, if_true]
      rw [ab_put1_some (by rw [hl]; exact hj)]
      rfl
    · cases hc
  · next j l1 r1 h1 =>
    split at hc
    · next hj =>
      refine wb_Ends.step (M := ((nl, k, tab), al)) (pc' := hp + 2) (ls' := (sm_kill ls j).set j (some (.ref z))) (st' := []) (h' := h) hM h1 ?_ (wb_cr_ok hM hk hc hQ)
      simp only [sm_step, sm_store1, sm_isA, if_true]
      rw [ab_put1_some (by rw [hl]; exact hj)]
      rfl
    · cases hc
  · cases hc
set_option maxHeartbeats 2000000 in
theorem wb_exp_ok (henv : ∀ e ∈ env, ab_OkX P sk e.1 e.2) {m nl k : Nat} {tab : List (Option sm_I)} {al : List (Nat × Nat × Nat × Nat × Nat)} (hM : PW m = some ((nl, k, tab), al)) {hS : sm_H} :
    ∀ (n d pc : Nat) (A : ab_A) (ls : sm_L) (st : List Value) (h : sm_H), wb_exp P sk wr env nl k tab al posts n d pc A = true → ls.length = nl → ab_ok [] [] A ls st h → ab_Sh sk h → ab_Fr wr hS h → wb_Ends P PW d m pc ls st h (wb_Post sk wr posts k hS) := by
  intro n
  induction n with
  | zero => intro d pc A ls st h he; simp [wb_exp] at he
  | succ n ih =>
    intro d pc A ls st h he hl hA hSh hFr
    unfold wb_exp at he
    cases hq : tab[pc]? with
    | none => rw [hq] at he; cases he
    | some o =>
      cases o with
      | none => rw [hq] at he; cases he
      | some q =>
        rw [hq] at he
        dsimp only at he
        cases hs : ab_step sk wr q pc A with
        | some outs =>
          rw [hs] at he
          dsimp only at he
          obtain ⟨o, m1, ls', st', h', e1, e2, e3, e4⟩ := ab_step_ok hs hA hSh
          have := List.all_eq_true.mp he o m1
          exact wb_Ends.step (M := ((nl, k, tab), al)) hM hq e1 (ih _ _ _ _ _ _ this (by rw [sm_step_len e1]; exact hl) e2 e3 (hFr.trans e4))
        | none =>
          rw [hs] at he
          dsimp only at he
          cases hr : ab_retv q k A with
          | some rv =>
            rw [hr] at he
            dsimp only at he
            obtain ⟨v, e1, e2, e3⟩ := ab_retv_ok (pc := pc) hr hA
            obtain ⟨p, hp, hx⟩ := List.any_eq_true.mp he
            refine wb_Ends.ret (M := ((nl, k, tab), al)) hM hq e1 e2 ⟨h, hSh, hFr, Or.inl rfl, p, hp, ?_⟩
            unfold ab_res
            rcases e3 with ⟨z1, z2, z3⟩ | ⟨z1, a, w, z2, z3, z4, z5⟩
            · rw [if_pos z1]; exact z3
            · rw [if_neg z1, z3]
              unfold ab_leR at hx
              rw [if_neg z1, z2] at hx
              exact ⟨fun _ => ab_leV_ok z5 hx, by simp⟩
          | none =>
            rw [hr] at he
            dsimp only at he
            cases hc : ab_callv sk q A with
            | none => rw [hc] at he; cases he
            | some z =>
              obtain ⟨m', as, r⟩ := z
              rw [hc] at he
              dsimp only at he
              obtain ⟨vs, s, e1, e2, e3⟩ := ab_callv_ok (pc := pc) hc hA hSh
              cases d with
              | zero => cases he
              | succ d' =>
                cases hP' : P m' with
                | none => rw [hP'] at he; cases he
                | some M' =>
                  obtain ⟨nl', k', tab'⟩ := M'
                  rw [hP'] at he
                  dsimp only at he
                  rw [Bool.and_eq_true, Bool.and_eq_true, Bool.and_eq_true, decide_eq_true_eq] at he
                  obtain ⟨g1, g2, g3, he⟩ := he
                  have hen := ab_entry_ok (n := nl') (vs := vs) (as := as.map (ab_keep ab_n0)) (ab_keepSt (ls' := sm_entry nl' vs) (h' := h) ab_n0_mv as vs e2) (ab_all_keep g1) (by rw [ab_slots_keep]; exact g2)
                  have hcat := ab_cats_le e3 g3
                  cases hf : wb_find sk d' m' as A.2.2 wr env with
                  | none => rw [hf] at he; cases he
                  | some e =>
                    rw [hf] at he
                    dsimp only at he
                    rw [Bool.and_eq_true] at he
                    obtain ⟨he1, he2⟩ := he
                    obtain ⟨c1, c2, c3, c4, c5, c6⟩ := wb_find_ok env hf
                    have hok := henv e c1 h vs (nl', k', tab') (by rw [c2]; exact hP') hSh (ab_leL_st _ _ _ e2 c3) (ab_leH_ok hA.2.2 hSh c4)
                    rw [c2] at hok
                    have hok' : ab_EndsX P (ab_PostT sk e.2.2.2.2.2.1 e.1 h) d' m' 0 (sm_entry nl' vs) [] h (ab_Post sk e.2.2.2.2.2.1 e.2.2.2.2.1 k' h) := by
                      rcases hok with hok | ⟨n1, x, h1, hr1, hq1⟩
                      · exact Or.inl (hok.deep c5)
                      · exact Or.inr ⟨n1, x, h1, sm_runT_more _ _ _ _ _ _ _ _ hr1 n1 d' (Nat.le_refl _) c5, hq1⟩
                    refine wb_Ends.call (M := ((nl, k, tab), al)) (M' := (nl', k', tab')) hM hq e1 hP' hen.1 hcat hok' (fun v h' hpost => ?_) (fun x h' hpost => ?_)
                    · obtain ⟨p1, p2, p, pm, pr, ph⟩ := hpost
                      have hall := List.all_eq_true.mp he1 p pm
                      rw [Bool.and_eq_true] at hall
                      refine ih _ _ _ ls (sm_back v s) h' hall.2 hl ⟨ab_keepL (ab_nw_mv p2) hA.1, ?_, ab_newH_ok hA.2.2 p2 ph⟩ p1 (hFr.trans (p2.wide (fun c hc => ab_swr_ok c6 hc)))
                      have hrest : ab_okSt ls h' [] [] (r.map (ab_keep (ab_nw e.2.2.2.2.2.1))) s := ab_keepSt (ab_nw_mv p2) _ _ e3
                      unfold ab_res at pr
                      by_cases hk' : k' = 0
                      · rw [if_pos hk'] at pr ⊢
                        rw [pr]
                        exact hrest
                      · rw [if_neg hk'] at pr ⊢
                        have hp0 : p.1.1 ≠ 0 := by
                          have := hall.1
                          simp only [Bool.or_eq_true, beq_iff_eq, Bool.not_eq_true', beq_eq_false_iff_ne] at this
                          exact this.resolve_left hk'
                        cases v with
                        | none => exact absurd rfl pr.2
                        | some w => exact ab_backSt (ab_nv_ok (pr.1 hp0)) hrest
                    · obtain ⟨hx, g, rfl, hg1, hg2⟩ := hpost
                      have hall := List.all_eq_true.mp he2 x hx
                      split at hall
                      · next hp hfd =>
                        split at hall
                        · next c hhd =>
                          rw [Bool.and_eq_true, decide_eq_true_eq] at hall
                          obtain ⟨hk1, hany⟩ := hall
                          obtain ⟨p, hpm, hpl⟩ := List.any_eq_true.mp hany
                          refine ⟨hp, hfd, wb_hand_ok hM hk1 hl hhd ⟨g, hg1, hFr.trans (hg2.wide (fun c hc => ab_swr_ok c6 hc)), Or.inr ⟨x, rfl⟩, p, hpm, ?_⟩⟩
                          unfold ab_res
                          rw [if_neg (by rw [hk1]; decide)]
                          exact ⟨fun _ => ab_leV_ok (ls := []) (h := []) (L0 := []) (h0 := []) (ab_mkc _) hpl, by simp⟩
                        · cases hall
                      · cases hall
/-- the whole check -/
def wb_good (P : Nat → Option sm_M) (PW : Nat → Option sm_MW) (sk : ab_K) (wr : List (Nat × Nat)) (env : List (List Nat × ab_C)) (m d fuel : Nat) (args posts : List ab_V) : Bool := match PW m with
  | none => false
  | some ((nl, k, tab), al) => args.all (fun a => !(a.1 == 0)) && decide ((ab_slots args).length ≤ nl) && wb_exp P sk wr env nl k tab al posts fuel d 0 (ab_entry nl (args.map ab_strip), [], [])
theorem wb_good_ok {m d fuel : Nat} {args : List ab_V} (hg : wb_good P PW sk wr env m d fuel args posts = true) (henv : ∀ e ∈ env, ab_OkX P sk e.1 e.2) {M : sm_MW} (hM : PW m = some M) {h : sm_H} {as : List Value} (hSh : ab_Sh sk h) (has : ab_nvs args as) : (sm_slots as).length ≤ M.1.1 ∧ wb_Ends P PW d m 0 (sm_entry M.1.1 as) [] h (wb_Post sk wr posts M.1.2.1 h) := by
  obtain ⟨⟨nl, k, tab⟩, al⟩ := M
  unfold wb_good at hg
  rw [hM] at hg
  dsimp only at hg
  simp only [Bool.and_eq_true, decide_eq_true_eq] at hg
  obtain ⟨⟨g1, g2⟩, g3⟩ := hg
  have hen := ab_entry_ok (n := nl) (vs := as) (h := h) (L0 := []) (h0 := []) (as := args.map ab_strip) (ab_nvs_ok _ _ has) (by rw [List.all_map]; exact g1) (by rw [ab_slots_strip]; exact g2)
  exact ⟨hen.1, wb_exp_ok henv hM fuel d 0 _ (sm_entry nl as) [] h g3 (by simp [sm_entry]; have := hen.1; omega) ⟨hen.2, trivial, fun e he => absurd he List.not_mem_nil⟩ hSh ab_Fr.refl⟩
end WBX
/-! THE CHECK OF A CASE OF THE LAW: all that it calls keeps J -/
/-- a contract that keeps J -/
def lb_OkP (P : Nat → Option sm_M) (sk : ab_K) (J : sm_H → Prop) (c : ab_C) : Prop := ∀ (h : sm_H) (as : List Value) (M : sm_M), P c.1 = some M → ab_Sh sk h → J h → ab_nvs c.2.1 as → ab_Ends P c.2.2.2.2.2 c.1 0 (sm_entry M.1 as) [] h (fun v h' => ab_Sh sk h' ∧ J h' ∧ h'.length = h.length ∧ sm_sl h' = sm_sl h ∧ ∃ p ∈ c.2.2.2.1, ab_res M.2.1 p.1 v)
/-- a method with handlers: number, arguments, answers, depth -/
abbrev lb_W : Type := Nat × List ab_V × List ab_V × Nat
def lb_OkW (P : Nat → Option sm_M) (PW : Nat → Option sm_MW) (sk : ab_K) (J : sm_H → Prop) (w : lb_W) : Prop := ∀ (h : sm_H) (as : List Value) (M : sm_MW), PW w.1 = some M → ab_Sh sk h → J h → ab_nvs w.2.1 as → (sm_slots as).length ≤ M.1.1 ∧ wb_Ends P PW w.2.2.2 w.1 0 (sm_entry M.1.1 as) [] h (fun v h' => ab_Sh sk h' ∧ J h' ∧ h'.length ≤ h.length + 1 ∧ sm_sl h' ≤ sm_sl h + 6 ∧ ∃ p ∈ w.2.2.1, ab_res M.1.2.1 p v)
def lb_findP (d m : Nat) (as : List ab_V) : List ab_C → Option ab_C
  | [] => none
  | c :: r => if c.1 = m ∧ ab_leL as c.2.1 = true ∧ c.2.2.2.2.2 ≤ d then some c else lb_findP d m as r
def lb_findW (d m : Nat) (as : List ab_V) : List lb_W → Option lb_W
  | [] => none
  | w :: r => if w.1 = m ∧ ab_leL as w.2.1 = true ∧ w.2.2.2 ≤ d then some w else lb_findW d m as r
/-- a cell of the script: at most 3 behind the place that local 4 tells -/
def lb_script (q : sm_I) (A : ab_A) : Option ab_A := match q.1, A.2.1 with
  | .iaload, i :: a :: r => if i.1 = 1 ∧ a.1 = 3 ∧ a.2.1 = 0 then (match ab_off 2 4 i.2.2.2 with
    | some c => if 0 ≤ c ∧ c ≤ 3 then some (A.1, ab_top :: r, A.2.2) else none
    | none => none) else none
  | _, _ => none
def lb_exp (P : Nat → Option sm_M) (PW : Nat → Option sm_MW) (sk : ab_K) (envP : List ab_C) (envW : List lb_W) (tab : List (Option sm_I)) (stop : Nat) (HL : List ab_V) : Nat → Nat → Nat → Nat → ab_A → Bool
  | 0, _, _, _, _ => false
  | n + 1, d, w, pc, A => if pc = stop then A.2.1.isEmpty && ab_leL A.1 HL && (match A.1[4]? with
      | some v => decide (v.1 = 1) && decide (ab_off 2 4 v.2.2.2 = some 0)
      | none => false)
    else match tab[pc]? with
    | some (some q) => match lb_script q A with
      | some A' => lb_exp P PW sk envP envW tab stop HL n d w (pc + 1) A'
      | none => match ab_step sk [] q pc A with
        | some outs => outs.all (fun o => lb_exp P PW sk envP envW tab stop HL n d w o.1 o.2)
        | none => match ab_callv sk q A with
          | some (m', as, r) => match d, w, PW m', P m' with
            | d' + 1, w' + 1, some ((_, k', _), _), _ => ab_cats r && (match lb_findW d' m' as envW with
              | some e => e.2.2.1.all (fun p => (k' == 0 || !(p.1 == 0)) && lb_exp P PW sk envP envW tab stop HL n (d' + 1) w' (pc + 3) (A.1.map (ab_keep ab_n1), ab_back (if k' = 0 then none else some (ab_strip p)) (r.map (ab_keep ab_n1)), []))
              | none => false)
            | d' + 1, _, none, some (nl', k', _) => as.all (fun a => !(a.1 == 0)) && (decide ((ab_slots as).length ≤ nl') && (ab_cats r && (match lb_findP d' m' as envP with
              | some c => c.2.2.2.1.all (fun p => (k' == 0 || !(p.1.1 == 0)) && lb_exp P PW sk envP envW tab stop HL n (d' + 1) w (pc + 3) (A.1.map (ab_keep ab_n1), ab_back (if k' = 0 then none else some (ab_strip p.1)) (r.map (ab_keep ab_n1)), []))
              | none => false)))
            | _, _, _, _ => false
          | none => false
    | _ => false
section LBX
variable {P : Nat → Option sm_M} {PW : Nat → Option sm_MW} {sk : ab_K} {J : sm_H → Prop} {envP : List ab_C} {envW : List lb_W} {tab : List (Option sm_I)} {stop : Nat} {HL : List ab_V} {QL : sm_H → Prop}
theorem lb_findP_ok {d m : Nat} {as : List ab_V} {c : ab_C} : ∀ env : List ab_C, lb_findP d m as env = some c → c ∈ env ∧ c.1 = m ∧ ab_leL as c.2.1 = true ∧ c.2.2.2.2.2 ≤ d := by
  intro env
  induction env with
  | nil => intro h; simp [lb_findP] at h
  | cons e0 r ih =>
    intro h
    simp only [lb_findP] at h
    split at h
    · next hc => cases h; exact ⟨List.mem_cons_self, hc⟩
    · obtain ⟨h1, h2⟩ := ih h
      exact ⟨List.mem_cons_of_mem _ h1, h2⟩
theorem lb_findW_ok {d m : Nat} {as : List ab_V} {w : lb_W} : ∀ env : List lb_W, lb_findW d m as env = some w → w ∈ env ∧ w.1 = m ∧ ab_leL as w.2.1 = true ∧ w.2.2.2 ≤ d := by
  intro env
  induction env with
  | nil => intro h; simp [lb_findW] at h
  | cons e0 r ih =>
    intro h
    simp only [lb_findW] at h
    split at h
    · next hc => cases h; exact ⟨List.mem_cons_self, hc⟩
    · obtain ⟨h1, h2⟩ := ih h
      exact ⟨List.mem_cons_of_mem _ h1, h2⟩
theorem sm_runW_deep : ∀ (n d m pc : Nat) (ls : sm_L) (st : List Value) (h : sm_H) (r : Option Value × sm_H), sm_runW P PW n d m pc ls st h = some r → ∀ d', d ≤ d' → sm_runW P PW n d' m pc ls st h = some r := by
  intro n
  induction n with
  | zero => intro d m pc ls st h r hr; simp [sm_runW] at hr
  | succ n ih =>
    intro d m pc ls st h r hr d' hd
    simp only [sm_runW] at hr ⊢
    cases hP : PW m with
    | none => rw [hP] at hr; cases hr
    | some M =>
      obtain ⟨⟨a, k, tab⟩, al⟩ := M
      rw [hP] at hr
      dsimp only at hr ⊢
      cases hq : tab[pc]? with
      | none => rw [hq] at hr; cases hr
      | some o =>
        cases o with
        | none => rw [hq] at hr; cases hr
        | some q =>
          rw [hq] at hr
          dsimp only at hr ⊢
          cases hs : sm_step q pc ls st h with
          | none => rw [hs] at hr; cases hr
          | some R =>
            rw [hs] at hr
            rcases R with ⟨pc1, ls1, st1, h1⟩ | v | ⟨m1, as, r1⟩
            · exact ih _ _ _ _ _ _ _ hr _ hd
            · exact hr
            · dsimp only at hr ⊢
              cases d with
              | zero => cases hr
              | succ d0 =>
                obtain ⟨d1, rfl⟩ : ∃ k, d' = k + 1 := ⟨d' - 1, by omega⟩
                (try dsimp only at hr ⊢)
                cases hP1 : P m1 with
                | none => rw [hP1] at hr; cases hr
                | some M1 =>
                  obtain ⟨nl, k1, t1⟩ := M1
                  rw [hP1] at hr
                  dsimp only at hr ⊢
                  split at hr
                  · next hc =>
                    rw [if_pos hc]
                    cases hcall : sm_run P n d0 m1 0 (sm_entry nl as) [] h with
                    | some vr =>
                      obtain ⟨v1, h1⟩ := vr
                      rw [hcall] at hr
                      rw [sm_run_more _ _ _ _ _ _ _ _ hcall n d1 (Nat.le_refl _) (by omega)]
                      exact ih _ _ _ _ _ _ _ hr _ (by omega)
                    | none =>
                      rw [hcall] at hr
                      dsimp only at hr
                      cases hT : sm_runT P n d0 m1 0 (sm_entry nl as) [] h with
                      | none => rw [hT] at hr; cases hr
                      | some xr =>
                        obtain ⟨x, h1⟩ := xr
                        rw [hT] at hr
                        dsimp only at hr
                        have hT1 := sm_runT_more _ _ _ _ _ _ _ _ hT n d1 (Nat.le_refl _) (by omega)
                        rw [sm_runT_run _ _ _ _ _ _ _ _ hT1 n, hT1]
                        dsimp only
                        cases hf : sm_find pc x al with
                        | none => rw [hf] at hr; cases hr
                        | some hp =>
                          rw [hf] at hr
                          exact ih _ _ _ _ _ _ _ hr _ (by omega)
                  · cases hr
theorem wb_Ends.deep {d d' m pc : Nat} {ls : sm_L} {st : List Value} {h : sm_H} {Q : Option Value → sm_H → Prop} (k : wb_Ends P PW d m pc ls st h Q) (hd : d ≤ d') : wb_Ends P PW d' m pc ls st h Q := by
  obtain ⟨n, v, h', hr, hq⟩ := k
  exact ⟨n, v, h', sm_runW_deep _ _ _ _ _ _ _ _ hr d' hd, hq⟩
theorem lb_keepA {L0 ls : sm_L} {h0 h h' : sm_H} {A : ab_A} {r : List ab_V} {s : List Value} {v : Option Value} {k : Nat} {p : ab_V} (hA : ab_okL ls h L0 h0 A.1) (hr : ab_okSt ls h L0 h0 r s) (hp : k = 0 ∨ p.1 ≠ 0) (hv : ab_res k p v) : ab_ok L0 h0 (A.1.map (ab_keep ab_n1), ab_back (if k = 0 then none else some (ab_strip p)) (r.map (ab_keep ab_n1)), []) ls (sm_back v s) h' := by
  have hrest : ab_okSt ls h' L0 h0 (r.map (ab_keep ab_n1)) s := ab_keepSt ab_n1_mv _ _ hr
  refine ⟨ab_keepL ab_n1_mv hA, ?_, fun e he => absurd he List.not_mem_nil⟩
  unfold ab_res at hv
  by_cases hk : k = 0
  · rw [if_pos hk] at hv ⊢
    rw [hv]
    exact hrest
  · rw [if_neg hk] at hv ⊢
    cases v with
    | none => exact absurd rfl hv.2
    | some w => exact ab_backSt (ab_nv_ok (hv.1 (hp.resolve_left hk))) hrest
set_option maxHeartbeats 4000000 in
theorem lb_exp_ok (hP : ∀ c ∈ envP, lb_OkP P sk J c) (hW : ∀ w ∈ envW, lb_OkW P PW sk J w) {L0 : sm_L} {h0 : sm_H} {x0 : Int32} {d L N C S : Nat} {xs : Nat → Int32} (hx : sm_lget L0 4 = some (.int x0)) (hx0 : 0 ≤ x0.toInt ∧ x0.toInt + 4 ≤ (L : Int)) (hJ0 : ∀ h, J h → h[0]? = some (.inl (0, L, .inl xs)))
    (hstop : ∀ (ls : sm_L) (h : sm_H), ls.length = N → (∀ (j : Nat) (b : ab_V), HL[j]? = some b → ab_nv b (sm_lget ls j)) → HL.length = N → sm_lget ls 4 = some (.int x0) → ab_Sh sk h → J h → h.length ≤ C → sm_sl h ≤ S → lb_Ends P PW tab d stop ls [] h QL) :
    ∀ (n w pc : Nat) (A : ab_A) (ls : sm_L) (st : List Value) (h : sm_H), lb_exp P PW sk envP envW tab stop HL n d w pc A = true → ls.length = N → ab_ok L0 h0 A ls st h → ab_Sh sk h → J h → h.length + w ≤ C → sm_sl h + 6 * w ≤ S → lb_Ends P PW tab d pc ls st h QL := by
  intro n
  induction n with
  | zero => intro w pc A ls st h he; simp [lb_exp] at he
  | succ n ih =>
    intro w pc A ls st h he hN hA hSh hJ hC hS
    unfold lb_exp at he
    split at he
    · next hpc =>
      subst hpc
      simp only [Bool.and_eq_true, List.isEmpty_iff] at he
      obtain ⟨⟨e1, e2⟩, e3⟩ := he
      have hst := hA.2.1
      rw [e1] at hst
      cases st with
      | cons v s => exact (show False from hst).elim
      | nil =>
        obtain ⟨l1, l2⟩ := ab_leL_at _ _ e2
        refine hstop ls h hN (fun j b hj => ?_) (by rw [← l1, hA.1.1]; exact hN) ?_ hSh hJ (by omega) (by omega)
        · obtain ⟨a, ha, hab⟩ := l2 j b hj
          exact ab_leV_ok (hA.1.2 j a ha) hab
        · split at e3
          · next v hv =>
            simp only [Bool.and_eq_true, decide_eq_true_eq] at e3
            obtain ⟨x, ex, -, -, ht⟩ := ab_kd1 (hA.1.2 4 v hv) e3.1
            obtain ⟨y, ey, exy⟩ := (ht _ (ab_off_mem _ e3.2)).2.2.1 rfl
            have ey' : sm_lget L0 4 = some (.int y) := ey
            rw [hx] at ey'
            cases ey'
            dsimp only at exy
            have : x = x0 := Int32.toInt_inj.mp (by omega)
            rw [ex, this]
          · cases e3
    · cases hq : tab[pc]? with
      | none => rw [hq] at he; cases he
      | some o =>
        cases o with
        | none => rw [hq] at he; cases he
        | some q =>
          rw [hq] at he
          dsimp only at he
          cases hsc : lb_script q A with
          | some A' =>
            rw [hsc] at he
            dsimp only at he
            obtain ⟨qi, len, rs⟩ := q
            unfold lb_script at hsc
            dsimp only at hsc
            split at hsc
            · next i a r hst0 =>
              split at hsc
              · next hk =>
                split at hsc
                · next c hoff =>
                  split at hsc
                  · next hc =>
                    cases hsc
                    have hst := hA.2.1
                    rw [hst0] at hst
                    obtain ⟨v, s1, rfl, hv, hr1⟩ := ab_pop hst
                    obtain ⟨u, s, rfl, hu, hr⟩ := ab_pop hr1
                    obtain ⟨x, ex, -, -, ht⟩ := ab_kd1 hv hk.1
                    cases ex
                    have eu := ab_kd3 hu hk.2.1
                    rw [hk.2.2] at eu
                    cases eu
                    obtain ⟨y, ey, exy⟩ := (ht _ (ab_off_mem _ hoff)).2.2.1 rfl
                    have ey' : sm_lget L0 4 = some (.int y) := ey
                    rw [hx] at ey'
                    cases ey'
                    dsimp only at exy
                    have hi := mx_ix (x := x) (n := L) ⟨by omega, by omega⟩
                    refine lb_Ends.step (pc' := pc + 1) (ls' := ls) (st' := .int (xs x.toNatClampNeg) :: s) (h' := h) hq ?_ (ih _ _ _ _ _ _ he hN ⟨hA.1, ⟨ab_mkt _, hr⟩, hA.2.2⟩ hSh hJ hC hS)
                    simp only [sm_step, sm_ald]
                    have e0 : (0 : Int).toNat = 0 := rfl
                    rw [e0, hJ0 h hJ]
                    dsimp only
                    rw [if_pos ⟨rfl, hi.1, Or.inr (Or.inl trivial)⟩]
                    rfl
                  · cases hsc
                · cases hsc
              · cases hsc
            · cases hsc
          | none =>
            rw [hsc] at he
            dsimp only at he
            cases hs : ab_step sk [] q pc A with
            | some outs =>
              rw [hs] at he
              dsimp only at he
              obtain ⟨o, m1, ls', st', h', e1, e2, e3, e4⟩ := ab_step_ok hs hA hSh
              have := List.all_eq_true.mp he o m1
              have eh : h' = h := by
                apply List.ext_getElem?
                intro j
                cases hj : h[j]? with
                | none =>
                  have : h.length ≤ j := List.getElem?_eq_none_iff.mp hj
                  exact List.getElem?_eq_none_iff.mpr (by rw [e4.1]; exact this)
                | some e =>
                  have he4 := e4.2.2 j e hj
                  rcases e with x | ⟨ci, fs⟩
                  · exact he4 rfl
                  · obtain ⟨fs', f1, f2⟩ := he4
                    rw [f1]
                    have : fs' = fs := List.ext_getElem? (fun f => f2 f rfl)
                    rw [this]
              subst eh
              exact lb_Ends.step hq e1 (ih _ _ _ _ _ _ this (by rw [sm_step_len e1]; exact hN) e2 e3 hJ hC hS)
            | none =>
              rw [hs] at he
              dsimp only at he
              cases hc : ab_callv sk q A with
              | none => rw [hc] at he; cases he
              | some z =>
                obtain ⟨m', as, r⟩ := z
                rw [hc] at he
                dsimp only at he
                obtain ⟨vs, s, e1, e2, e3⟩ := ab_callv_ok (pc := pc) hc hA hSh
                cases d with
                | zero => cases he
                | succ d' =>
                  cases hPW : PW m' with
                  | some MW =>
                    obtain ⟨⟨nlW, kW, tabW⟩, alW⟩ := MW
                    rw [hPW] at he
                    cases w with
                    | zero => cases he
                    | succ w' =>
                      dsimp only at he
                      rw [Bool.and_eq_true] at he
                      obtain ⟨g3, he⟩ := he
                      have hcat := ab_cats_le e3 g3
                      cases hf : lb_findW d' m' as envW with
                      | none => rw [hf] at he; cases he
                      | some e =>
                        rw [hf] at he
                        dsimp only at he
                        obtain ⟨c1, c2, c3, c4⟩ := lb_findW_ok envW hf
                        obtain ⟨k1, k2⟩ := hW e c1 h vs ((nlW, kW, tabW), alW) (by rw [c2]; exact hPW) hSh hJ (ab_leL_st _ _ _ e2 c3)
                        rw [c2] at k2
                        refine lb_Ends.callW (M := ((nlW, kW, tabW), alW)) hq e1 hPW k1 hcat (k2.deep c4) fun v h' hpost => ?_
                        obtain ⟨p1, p2, p3, p4, p, pm, pr⟩ := hpost
                        have hall := List.all_eq_true.mp he p pm
                        rw [Bool.and_eq_true] at hall
                        refine ih _ _ _ ls (sm_back v s) h' hall.2 hN (lb_keepA hA.1 e3 ?_ pr) p1 p2 (by omega) (by omega)
                        have := hall.1
                        simp only [Bool.or_eq_true, beq_iff_eq, Bool.not_eq_true', beq_eq_false_iff_ne] at this
                        exact this
                  | none =>
                    rw [hPW] at he
                    cases hP' : P m' with
                    | none => rw [hP'] at he; cases w <;> cases he
                    | some M' =>
                      obtain ⟨nl', k', tab'⟩ := M'
                      rw [hP'] at he
                      have he' : (as.all (fun a => !(a.1 == 0)) && (decide ((ab_slots as).length ≤ nl') && (ab_cats r && (match lb_findP d' m' as envP with
                          | some c => c.2.2.2.1.all (fun p => (k' == 0 || !(p.1.1 == 0)) && lb_exp P PW sk envP envW tab stop HL n (d' + 1) w (pc + 3) (A.1.map (ab_keep ab_n1), ab_back (if k' = 0 then none else some (ab_strip p.1)) (r.map (ab_keep ab_n1)), []))
                          | none => false)))) = true := by
                        cases w <;> exact he
                      rw [Bool.and_eq_true, Bool.and_eq_true, Bool.and_eq_true, decide_eq_true_eq] at he'
                      obtain ⟨g1, g2, g3, he'⟩ := he'
                      have hen := ab_entry_ok (n := nl') (vs := vs) (as := as.map (ab_keep ab_n0)) (ab_keepSt (ls' := sm_entry nl' vs) (h' := h) ab_n0_mv as vs e2) (ab_all_keep g1) (by rw [ab_slots_keep]; exact g2)
                      have hcat := ab_cats_le e3 g3
                      cases hf : lb_findP d' m' as envP with
                      | none => rw [hf] at he'; cases he'
                      | some c =>
                        rw [hf] at he'
                        dsimp only at he'
                        obtain ⟨c1, c2, c3, c4⟩ := lb_findP_ok envP hf
                        have k2 := hP c c1 h vs (nl', k', tab') (by rw [c2]; exact hP') hSh hJ (ab_leL_st _ _ _ e2 c3)
                        rw [c2] at k2
                        refine lb_Ends.callP (M' := (nl', k', tab')) hq e1 hPW hP' hen.1 hcat (k2.deep c4) fun v h' hpost => ?_
                        obtain ⟨p1, p2, p3, p4, p, pm, pr⟩ := hpost
                        have hall := List.all_eq_true.mp he' p pm
                        rw [Bool.and_eq_true] at hall
                        refine ih _ _ _ ls (sm_back v s) h' hall.2 hN (lb_keepA hA.1 e3 ?_ pr) p1 p2 (by omega) (by omega)
                        have := hall.1
                        simp only [Bool.or_eq_true, beq_iff_eq, Bool.not_eq_true', beq_eq_false_iff_ne] at this
                        exact this
end LBX
/-! THE SAME MACHINE WITH UNKNOWN NUMBERS: .retAddr k stands for an int of which nothing is known but what is written in a list of facts, .double u for such a long; arrays are lists of what was written. All of it is first-order, so that a run is decided by computation. -/
def sa_g (ρ : Nat → Int32) (μ : UInt64 → Int64) (v : Value) : Value := match v with
  | .retAddr k => .int (ρ k)
  | .double u => .long (μ u)
  | .int x => .int x
  | .long x => .long x
  | .float x => .float x
  | .ref x => .ref x
  | .null => .null
abbrev sa_E : Type := (Nat × Nat × List (Nat × Value)) ⊕ (Nat × List Value)
abbrev sa_H : Type := List sa_E
def sa_look : List (Nat × Value) → Nat → Option Value
  | [], _ => none
  | (k, v) :: r, i => if i = k then some v else sa_look r i
def sa_i (v : Value) : Int32 := match v with
  | .int x => x
  | _ => 0
def sa_l (v : Value) : Int64 := match v with
  | .long x => x
  | _ => 0
abbrev sa_gl (ρ : Nat → Int32) (μ : UInt64 → Int64) (ls : sm_L) : sm_L := ls.map (Option.map (sa_g ρ μ))
abbrev sa_gs (ρ : Nat → Int32) (μ : UInt64 → Int64) (st : List Value) : List Value := st.map (sa_g ρ μ)
def sa_fi (ρ : Nat → Int32) (μ : UInt64 → Int64) (l : List (Nat × Value)) : Nat → Int32 := fun i => match sa_look l i with
  | some v => sa_i (sa_g ρ μ v)
  | none => 0
def sa_fl (ρ : Nat → Int32) (μ : UInt64 → Int64) (l : List (Nat × Value)) : Nat → Int64 := fun i => match sa_look l i with
  | some v => sa_l (sa_g ρ μ v)
  | none => 0
def sa_ge (ρ : Nat → Int32) (μ : UInt64 → Int64) (e : sa_E) : sm_E := match e with
  | .inl (t, n, l) => .inl (t, n, if t = 1 then .inr (.inl (sa_fl ρ μ l)) else .inl (sa_fi ρ μ l))
  | .inr (ci, fs) => .inr (ci, fs.map (sa_g ρ μ))
abbrev sa_gh (ρ : Nat → Int32) (μ : UInt64 → Int64) (h : sa_H) : sm_H := h.map (sa_ge ρ μ)
abbrev sa_R : Type := (Nat × sm_L × List Value × sa_H) ⊕ (Option Value ⊕ (Nat × List Value × List Value))
def sa_gr (ρ : Nat → Int32) (μ : UInt64 → Int64) (r : sa_R) : sm_R := match r with
  | .inl (pc, ls, st, h) => .inl (pc, sa_gl ρ μ ls, sa_gs ρ μ st, sa_gh ρ μ h)
  | .inr (.inl v) => .inr (.inl (v.map (sa_g ρ μ)))
  | .inr (.inr (m, as, r)) => .inr (.inr (m, sa_gs ρ μ as, sa_gs ρ μ r))
/-- facts: (what, of which, and which, is) -/
abbrev sa_F : Type := List (Nat × Value × Value × Value)
def sa_fact : sa_F → Nat → Value → Value → Option Value
  | [], _, _, _ => none
  | (k, a, b, z) :: r, c, x, y => if k = c ∧ a = x ∧ b = y then some z else sa_fact r c x y
def sa_cc (c : ClassFile.Cond) : Nat := match c with
  | .eq => 10
  | .ne => 11
  | .lt => 12
  | .ge => 13
  | .gt => 14
  | .le => 15
/-- a fact is true -/
def sa_true (ρ : Nat → Int32) (μ : UInt64 → Int64) (f : Nat × Value × Value × Value) : Prop :=
  (f.1 = 1 ∧ ∃ x y, sa_g ρ μ f.2.1 = .int x ∧ sa_g ρ μ f.2.2.1 = .int y ∧ sa_g ρ μ f.2.2.2 = .int (x &&& y)) ∨
  (f.1 = 2 ∧ ∃ x, sa_g ρ μ f.2.1 = .int x ∧ sa_g ρ μ f.2.2.2 = .int (sm_chr x)) ∨
  (f.1 = 3 ∧ ∃ x, sa_g ρ μ f.2.1 = .int x ∧ sa_g ρ μ f.2.2.2 = .long x.toInt64) ∨
  (f.1 = 4 ∧ ∃ x y, sa_g ρ μ f.2.1 = .long x ∧ sa_g ρ μ f.2.2.1 = .int y ∧ sa_g ρ μ f.2.2.2 = .long (x <<< (y.toInt64 &&& 63))) ∨
  (f.1 = 5 ∧ ∃ x y, sa_g ρ μ f.2.1 = .long x ∧ sa_g ρ μ f.2.2.1 = .long y ∧ sa_g ρ μ f.2.2.2 = .long (x &&& y)) ∨
  (f.1 = 6 ∧ ∃ x y, sa_g ρ μ f.2.1 = .long x ∧ sa_g ρ μ f.2.2.1 = .long y ∧ sa_g ρ μ f.2.2.2 = .long (x ||| y)) ∨
  (∃ c x y, f.1 = sa_cc c ∧ sa_g ρ μ f.2.1 = .int x ∧ sa_g ρ μ f.2.2.1 = .int y ∧ f.2.2.2 = .int (if sm_cmp c x y then 1 else 0)) ∨
  (f.1 = 30 ∧ ∃ x y, sa_g ρ μ f.2.1 = .int x ∧ f.2.2.1 = .int y ∧ (x.toInt < 0 ∨ y.toInt < x.toInt))
def sa_isI (v : Value) : Bool := match v with | .int _ => true | .retAddr _ => true | _ => false
def sa_isL (v : Value) : Bool := match v with | .long _ => true | .double _ => true | _ => false
def sa_nx (pc : Nat) (ls : sm_L) (st : List Value) (h : sa_H) : Option sa_R := some (.inl (pc, ls, st, h))
def sa_load (k : Value → Bool) (n i pc : Nat) (ls : sm_L) (st : List Value) (h : sa_H) : Option sa_R := match sm_lget ls i with
  | some v => if k v then sa_nx (pc + n) ls (v :: st) h else none
  | none => none
def sa_store1 (n i pc : Nat) (ls : sm_L) (st : List Value) (h : sa_H) : Option sa_R := match st with
  | v :: r => if sa_isI v then (match sm_put1 ls i v with
    | some ls' => sa_nx (pc + n) ls' r h
    | none => none) else none
  | _ => none
def sa_store2 (n i pc : Nat) (ls : sm_L) (st : List Value) (h : sa_H) : Option sa_R := match st with
  | v :: r => if sa_isL v then (match sm_put2 ls i v with
    | some ls' => sa_nx (pc + n) ls' r h
    | none => none) else none
  | _ => none
def sa_ald (t pc : Nat) (ls : sm_L) (st : List Value) (h : sa_H) : Option sa_R := match st with
  | .int i :: .ref a :: r => match h[a]? with
    | some (.inl (t', n, l)) => if t' = t ∧ t ≠ 1 ∧ sm_ix i n ∧ (sm_C ≤ a ∨ t = 0 ∨ t = 4) then (match (sa_look l i.toNatClampNeg).getD (.int 0) with
      | .int x => sa_nx (pc + 1) ls (.int x :: r) h
      | .retAddr k => sa_nx (pc + 1) ls (.retAddr k :: r) h
      | _ => none) else none
    | _ => none
  | _ => none
def sa_aldL (pc : Nat) (ls : sm_L) (st : List Value) (h : sa_H) : Option sa_R := match st with
  | .int i :: .ref a :: r => match h[a]? with
    | some (.inl (t', n, l)) => if t' = 1 ∧ sm_ix i n ∧ sm_C ≤ a then (match (sa_look l i.toNatClampNeg).getD (.long 0) with
      | .long x => sa_nx (pc + 1) ls (.long x :: r) h
      | _ => none) else none
    | _ => none
  | _ => none
/-- what is put into an array of a kind: 0 ints, 2 chars, 3 booleans -/
def sa_in (F : sa_F) (t : Nat) (v : Value) : Option Value := match t, v with
  | 0, .int x => some (.int x)
  | 0, .retAddr k => some (.retAddr k)
  | 2, .int x => some (.int (sm_chr x))
  | 2, .retAddr k => match sa_fact F 2 (.retAddr k) .null with
    | some (.retAddr j) => some (.retAddr j)
    | _ => none
  | 3, .int x => some (.int (x &&& 1))
  | _, _ => none
def sa_ast (F : sa_F) (t pc : Nat) (ls : sm_L) (st : List Value) (h : sa_H) : Option sa_R := match st with
  | v :: .int i :: .ref a :: r => match sa_in F t v with
    | some w => match h[a]? with
      | some (.inl (t', n, l)) => if t' = t ∧ t ≠ 1 ∧ sm_ix i n ∧ sm_C ≤ a then sa_nx (pc + 1) ls r (h.set a (.inl (t', n, (i.toNatClampNeg, w) :: l))) else none
      | _ => none
    | none => none
  | _ => none
def sa_astL (pc : Nat) (ls : sm_L) (st : List Value) (h : sa_H) : Option sa_R := match st with
  | .long x :: .int i :: .ref a :: r => match h[a]? with
    | some (.inl (t', n, l)) => if t' = 1 ∧ sm_ix i n ∧ sm_C ≤ a then sa_nx (pc + 1) ls r (h.set a (.inl (t', n, (i.toNatClampNeg, .long x) :: l))) else none
    | _ => none
  | _ => none
def sa_getf (rs : List Nat) (pc : Nat) (ls : sm_L) (st : List Value) (h : sa_H) : Option sa_R := match st, rs with
  | .ref a :: r, k :: z :: cs => match h[a]? with
    | some (.inr (ci, fs)) => if ci ∈ cs ∧ ((z = 0 ∧ sm_C ≤ a) ∨ (z ≠ 0 ∧ a < sm_C)) then (match fs[k]? with
      | some v => sa_nx (pc + 3) ls (v :: r) h
      | none => none) else none
    | _ => none
  | _, _ => none
def sa_putf (rs : List Nat) (pc : Nat) (ls : sm_L) (st : List Value) (h : sa_H) : Option sa_R := match st, rs with
  | v :: .ref a :: r, k :: t :: _ :: cs => match h[a]? with
    | some (.inr (ci, fs)) => if ci ∈ cs ∧ k < fs.length ∧ sm_fit t v ∧ sm_C ≤ a then sa_nx (pc + 3) ls r (h.set a (.inr (ci, fs.set k v))) else none
    | _ => none
  | _, _ => none
def sa_newo (rs : List Nat) (pc : Nat) (ls : sm_L) (st : List Value) (h : sa_H) : Option sa_R := match rs with
  | ci :: ts => if ci = 1000 then none else sa_nx (pc + 3) ls (.ref h.length :: st) (h ++ [.inr (ci, ts.map sm_dflt)])
  | _ => none
def sa_newa (rs : List Nat) (pc : Nat) (ls : sm_L) (st : List Value) (h : sa_H) : Option sa_R := match st, rs with
  | .int n :: r, [t] => if ¬ n < 0 ∧ n.toNatClampNeg ≤ 65536 then sa_nx (pc + 2) ls (.ref h.length :: r) (h ++ [.inl (t, n.toNatClampNeg, [])]) else none
  | _, _ => none
def sa_callV (rs : List Nat) (st : List Value) (h : sa_H) : Option sa_R := match rs with
  | _ :: n :: ps => match sm_args (n + 1) st with
    | some (.ref a :: as, r) => match h[a]? with
      | some (.inr (ci, _)) => match sm_pick ci ps with
        | some m => some (.inr (.inr (m, .ref a :: as, r)))
        | none => none
      | _ => none
    | _ => none
  | _ => none
def sa_alen (pc : Nat) (ls : sm_L) (st : List Value) (h : sa_H) : Option sa_R := match st with
  | .ref a :: r => match h[a]? with
    | some (.inl (t, n, _)) => if (sm_ty t).isSome then sa_nx (pc + 1) ls (.int (Int32.ofNat n) :: r) h else none
    | _ => none
  | _ => none
/-- an instruction that does not look at the cells -/
def sa_pure (r : Option sm_R) (h : sa_H) : Option sa_R := match r with
  | some (.inl (pc, ls, st, _)) => some (.inl (pc, ls, st, h))
  | some (.inr x) => some (.inr x)
  | none => none
/-- a number made of unknown ones, by a fact -/
def sa_bin (F : sa_F) (c pc : Nat) (ls : sm_L) (st : List Value) (h : sa_H) : Option sa_R := match st with
  | y :: x :: r => match sa_fact F c x y with
    | some z => sa_nx (pc + 1) ls (z :: r) h
    | none => none
  | _ => none
def sa_un (F : sa_F) (c pc : Nat) (ls : sm_L) (st : List Value) (h : sa_H) : Option sa_R := match st with
  | x :: r => match sa_fact F c x .null with
    | some z => sa_nx (pc + 1) ls (z :: r) h
    | none => none
  | _ => none
def sa_br (F : sa_F) (c : ClassFile.Cond) (x y : Value) (pc : Nat) (off : Int) (ls : sm_L) (r : List Value) (h : sa_H) : Option sa_R := match sa_fact F (sa_cc c) x y with
  | some (.int b) => if b = 1 then sa_nx (sm_jmp pc off) ls r h else if b = 0 then sa_nx (pc + 3) ls r h else none
  | _ => none
def sa_tok (v : Value) : Bool := match v with | .retAddr _ => true | .double _ => true | _ => false
def sa_top1 (st : List Value) : Bool := match st with | v :: _ => sa_tok v | _ => false
def sa_top2 (st : List Value) : Bool := match st with | v :: w :: _ => sa_tok v || sa_tok w | _ => false
def sa_step (F : sa_F) (q : sm_I) (pc : Nat) (ls : sm_L) (st : List Value) (h : sa_H) : Option sa_R := match q with
  | (i, len, rs) => match i with
    | .iload_n k => sa_load sa_isI 1 k pc ls st h
    | .iload k => sa_load sa_isI 2 k pc ls st h
    | .lload_n k => sa_load sa_isL 1 k pc ls st h
    | .lload k => sa_load sa_isL 2 k pc ls st h
    | .istore_n k => sa_store1 1 k pc ls st h
    | .istore k => sa_store1 2 k pc ls st h
    | .lstore_n k => sa_store2 1 k pc ls st h
    | .lstore k => sa_store2 2 k pc ls st h
    | .iaload => sa_ald 0 pc ls st h
    | .caload => sa_ald 2 pc ls st h
    | .baload => match sa_ald 3 pc ls st h with
      | some r => some r
      | none => sa_ald 4 pc ls st h
    | .laload => sa_aldL pc ls st h
    | .iastore => sa_ast F 0 pc ls st h
    | .castore => sa_ast F 2 pc ls st h
    | .bastore => sa_ast F 3 pc ls st h
    | .lastore => sa_astL pc ls st h
    | .arraylength => sa_alen pc ls st h
    | .getfield _ => sa_getf rs pc ls st h
    | .putfield _ => sa_putf rs pc ls st h
    | .new _ => sa_newo rs pc ls st h
    | .newarray _ => sa_newa rs pc ls st h
    | .invokevirtual _ => sa_callV rs st h
    | .iand => if sa_top2 st then sa_bin F 1 pc ls st h else sa_pure (sm_step q pc ls st []) h
    | .i2c => if sa_top1 st then sa_un F 2 pc ls st h else sa_pure (sm_step q pc ls st []) h
    | .i2l => if sa_top1 st then sa_un F 3 pc ls st h else sa_pure (sm_step q pc ls st []) h
    | .lshl => if sa_top2 st then sa_bin F 4 pc ls st h else sa_pure (sm_step q pc ls st []) h
    | .land => if sa_top2 st then sa_bin F 5 pc ls st h else sa_pure (sm_step q pc ls st []) h
    | .lor => if sa_top2 st then sa_bin F 6 pc ls st h else sa_pure (sm_step q pc ls st []) h
    | .if_icmp c off => if sa_top2 st then (match st with
      | y :: x :: r => sa_br F c x y pc off ls r h
      | _ => none) else sa_pure (sm_step q pc ls st []) h
    | .ifCond c off => if sa_top1 st then (match st with
      | x :: r => sa_br F c x (.int 0) pc off ls r h
      | _ => none) else sa_pure (sm_step q pc ls st []) h
    | .tableswitch d lo hi _ => if sa_top1 st then (match st with
      | x :: r => if lo = 0 ∧ 0 ≤ hi ∧ hi < 1000 then (match sa_fact F 30 x (.int (Int32.ofInt hi)) with
        | some _ => sa_nx (sm_jmp pc d) ls r h
        | none => none) else none
      | _ => none) else sa_pure (sm_step q pc ls st []) h
    | _ => sa_pure (sm_step q pc ls st []) h
/-! A STEP with unknown numbers is a step whatever they are -/
section SAS
variable {ρ : Nat → Int32} {μ : UInt64 → Int64}
theorem sa_cat (v : Value) : (sa_g ρ μ v).category = v.category := by cases v <;> rfl
theorem sa_cats (r : List Value) : ((r.map (sa_g ρ μ)).map fun v => v.category).sum = (r.map fun v => v.category).sum := by
  rw [List.map_map, show ((fun v : Value => v.category) ∘ sa_g ρ μ) = fun v : Value => v.category from funext fun v => sa_cat v]
theorem sa_lget (ls : sm_L) (i : Nat) : sm_lget (sa_gl ρ μ ls) i = (sm_lget ls i).map (sa_g ρ μ) := by
  unfold sm_lget
  rw [List.getElem?_map]
  cases ls[i]? with
  | none => rfl
  | some o => cases o <;> rfl
theorem sa_kill (ls : sm_L) (i : Nat) : sm_kill (sa_gl ρ μ ls) i = sa_gl ρ μ (sm_kill ls i) := by
  unfold sm_kill
  cases i with
  | zero => rfl
  | succ j =>
    dsimp only
    rw [List.getElem?_map]
    cases ls[j]? with
    | none => rfl
    | some o =>
      cases o with
      | none => rfl
      | some v =>
        simp only [Option.map_some, sa_cat]
        split
        · simp [List.map_set]
        · rfl
theorem sa_put1 {ls ls' : sm_L} {i : Nat} {v : Value} (h : sm_put1 ls i v = some ls') : sm_put1 (sa_gl ρ μ ls) i (sa_g ρ μ v) = some (sa_gl ρ μ ls') := by
  obtain ⟨hl, rfl⟩ := sm_put1_len h
  unfold sm_put1
  rw [if_pos (by simpa using hl), sa_kill]
  simp [List.map_set]
theorem sa_put2 {ls ls' : sm_L} {i : Nat} {v : Value} (h : sm_put2 ls i v = some ls') : sm_put2 (sa_gl ρ μ ls) i (sa_g ρ μ v) = some (sa_gl ρ μ ls') := by
  obtain ⟨hl, rfl⟩ := sm_put2_len h
  unfold sm_put2
  rw [if_pos (by simpa using hl), sa_kill]
  simp [List.map_set]
theorem sa_args {n : Nat} {st as r : List Value} (h : sm_args n st = some (as, r)) : sm_args n (sa_gs ρ μ st) = some (sa_gs ρ μ as, sa_gs ρ μ r) := by
  unfold sm_args at h ⊢
  split at h
  · next hl =>
    cases h
    rw [if_pos (by simpa using hl)]
    simp [List.map_take, List.map_drop]
  · cases h
theorem sa_fact_mem {c : Nat} {x y z : Value} : ∀ F : sa_F, sa_fact F c x y = some z → (c, x, y, z) ∈ F := by
  intro F
  induction F with
  | nil => intro h; simp [sa_fact] at h
  | cons f F ih =>
    obtain ⟨k, a, b, w⟩ := f
    intro h
    simp only [sa_fact] at h
    split at h
    · next hc => obtain ⟨rfl, rfl, rfl⟩ := hc; cases h; exact List.mem_cons_self
    · exact List.mem_cons_of_mem _ (ih h)
theorem sa_isI_g {v : Value} (h : sa_isI v = true) : sm_isI (sa_g ρ μ v) = true := by cases v <;> simp [sa_isI] at h <;> rfl
theorem sa_isL_g {v : Value} (h : sa_isL v = true) : ∃ x, sa_g ρ μ v = .long x := by cases v <;> simp [sa_isL] at h <;> exact ⟨_, rfl⟩
theorem sa_hget {h : sa_H} {a : Nat} {e : sa_E} (he : h[a]? = some e) : (sa_gh ρ μ h)[a]? = some (sa_ge ρ μ e) := by rw [List.getElem?_map, he]; rfl
theorem sa_upd (l : List (Nat × Value)) (k : Nat) (w : Value) : sa_fi ρ μ ((k, w) :: l) = upd (sa_fi ρ μ l) k (sa_i (sa_g ρ μ w)) := by
  funext j
  simp only [sa_fi, sa_look, upd]
  by_cases hj : j = k
  · simp [hj]
  · simp [hj]
theorem sa_updL (l : List (Nat × Value)) (k : Nat) (w : Value) : sa_fl ρ μ ((k, w) :: l) = vp_updL (sa_fl ρ μ l) k (sa_l (sa_g ρ μ w)) := by
  funext j
  simp only [sa_fl, sa_look, vp_updL]
  by_cases hj : j = k
  · simp [hj]
  · simp [hj]
/-- the instructions that look at the cells, and those that move numbers -/
def sa_heapI (i : Instr) : Bool := match i with
  | .iload_n _ | .iload _ | .lload_n _ | .lload _ | .istore_n _ | .istore _ | .lstore_n _ | .lstore _ => true
  | .iaload | .caload | .baload | .laload | .iastore | .castore | .bastore | .lastore | .arraylength | .getfield _ | .putfield _ | .new _ | .newarray _ | .invokevirtual _ => true
  | _ => false
set_option maxHeartbeats 4000000 in
theorem sa_pure_ok {q : sm_I} {pc : Nat} {ls : sm_L} {st : List Value} {h : sa_H} {r : sa_R} (hn : sa_heapI q.1 = false) (hs : sa_pure (sm_step q pc ls st []) h = some r) : sm_step q pc (sa_gl ρ μ ls) (sa_gs ρ μ st) (sa_gh ρ μ h) = some (sa_gr ρ μ r) := by
  obtain ⟨i, len, rs⟩ := q
  cases i with
  | iload_n _ | iload _ | lload_n _ | lload _ | istore_n _ | istore _ | lstore_n _ | lstore _ => cases hn
  | iaload | caload | baload | laload | iastore | castore | bastore | lastore | arraylength | getfield _ | putfield _ | new _ | newarray _ | invokevirtual _ => cases hn
  | aload_n k =>
    simp only [sm_step, sm_loadK] at hs ⊢
    rw [sa_lget]
    split at hs
    · next v hv =>
      split at hs
      · next hk =>
        cases hs
        rw [hv]
        cases v <;> simp [sm_isA] at hk
        rfl
      · cases hs
    · cases hs
  | aload k =>
    simp only [sm_step, sm_loadK] at hs ⊢
    rw [sa_lget]
    split at hs
    · next v hv =>
      split at hs
      · next hk =>
        cases hs
        rw [hv]
        cases v <;> simp [sm_isA] at hk
        rfl
      · cases hs
    · cases hs
  | astore_n k =>
    simp only [sm_step, sm_store1] at hs ⊢
    split at hs
    · next v r0 =>
      split at hs
      · next hk =>
        cases hp : sm_put1 ls k v with
        | none => rw [hp] at hs; cases hs
        | some l2 =>
          rw [hp] at hs
          cases hs
          cases v <;> simp [sm_isA] at hk
          have := sa_put1 (ρ := ρ) (μ := μ) hp
          simp only [sa_g] at this
          simp [sa_g, sm_isA, this, sm_nx, sa_gr]
      · cases hs
    · cases hs
  | astore k =>
    simp only [sm_step, sm_store1] at hs ⊢
    split at hs
    · next v r0 =>
      split at hs
      · next hk =>
        cases hp : sm_put1 ls k v with
        | none => rw [hp] at hs; cases hs
        | some l2 =>
          rw [hp] at hs
          cases hs
          cases v <;> simp [sm_isA] at hk
          have := sa_put1 (ρ := ρ) (μ := μ) hp
          simp only [sa_g] at this
          simp [sa_g, sm_isA, this, sm_nx, sa_gr]
      · cases hs
    · cases hs
  | iinc k n =>
    simp only [sm_step] at hs ⊢
    rw [sa_lget]
    split at hs
    · next x hx =>
      rw [hx]
      cases hp : sm_put1 ls k (.int (x + Int32.ofInt n)) with
      | none => rw [hp] at hs; cases hs
      | some l2 =>
        rw [hp] at hs
        cases hs
        have := sa_put1 (ρ := ρ) (μ := μ) hp
        simp only [sa_g] at this
        simp [sa_g, this, sm_nx, sa_gr]
    · cases hs
  | dup =>
    simp only [sm_step] at hs
    split at hs
    · next v r0 =>
      split at hs
      · next hc =>
        cases hs
        simp only [sm_step, sa_gs, List.map_cons, sa_cat]
        rw [if_pos hc]
        rfl
      · cases hs
    · cases hs
  | pop =>
    simp only [sm_step] at hs
    split at hs
    · next v r0 =>
      split at hs
      · next hc =>
        cases hs
        simp only [sm_step, sa_gs, List.map_cons, sa_cat]
        rw [if_pos hc]
        rfl
      · cases hs
    · cases hs
  | dup_x1 =>
    simp only [sm_step] at hs
    split at hs
    · next v w r0 =>
      split at hs
      · next hc =>
        cases hs
        simp only [sm_step, sa_gs, List.map_cons, sa_cat]
        rw [if_pos hc]
        rfl
      · cases hs
    · cases hs
  | dup_x2 =>
    simp only [sm_step] at hs
    split at hs
    · next v w u r0 =>
      split at hs
      · next hc =>
        cases hs
        simp only [sm_step, sa_gs, List.map_cons, sa_cat]
        rw [if_pos hc]
        rfl
      · cases hs
    · cases hs
  | dup2 =>
    simp only [sm_step] at hs
    split at hs
    · cases hs
      rfl
    · next v w r0 hnl =>
      split at hs
      · next hc =>
        cases hs
        obtain ⟨h1, h2⟩ := hc
        have h3 : (sa_g ρ μ w).category = 1 := by rw [sa_cat]; exact h2
        cases v <;> first
          | (cases h1; done)
          | (simp only [sm_step, sa_gs, List.map_cons]; exact if_pos ⟨rfl, h3⟩)
      · cases hs
    · cases hs
  | pop2 =>
    simp only [sm_step] at hs
    split at hs
    · cases hs
      rfl
    · next v w r0 hnl =>
      split at hs
      · next hc =>
        cases hs
        obtain ⟨h1, h2⟩ := hc
        have h3 : (sa_g ρ μ w).category = 1 := by rw [sa_cat]; exact h2
        cases v <;> first
          | (cases h1; done)
          | (simp only [sm_step, sa_gs, List.map_cons]; exact if_pos ⟨rfl, h3⟩)
      · cases hs
    · cases hs
  | invokestatic idx =>
    simp only [sm_step, sm_callS] at hs ⊢
    split at hs
    · split at hs
      · split at hs
        · next hc =>
          cases hs
          simp [sa_g, hc, sa_cats, sm_nx, sa_gr, ← List.map_map]
        · cases hs
      · cases hs
    · split at hs
      · split at hs
        · next hc =>
          cases hs
          simp [sa_g, hc, sa_cats, sm_nx, sa_gr, ← List.map_map]
        · cases hs
      · cases hs
    · split at hs
      · split at hs
        · next ha =>
          cases hs
          rw [sa_args ha]
          rfl
        · cases hs
      · cases hs
  | invokespecial idx =>
    simp only [sm_step, sm_callI] at hs ⊢
    split at hs
    · split at hs
      · split at hs
        · next hc =>
          cases hs
          simp [sa_g, hc, sa_cats, sm_nx, sa_gr, ← List.map_map]
        · cases hs
      · cases hs
    · split at hs
      · split at hs
        · next ha =>
          cases hs
          rw [sa_args ha]
          rfl
        · cases hs
      · cases hs
  | _ =>
    simp only [sm_step, sm_bin, sm_binL, sm_if, sm_nx, sm_ret] at hs
    repeat' split at hs
    all_goals first
      | (cases hs; done)
      | (cases hs; simp [sm_step, sm_bin, sm_binL, sm_if, sm_nx, sm_ret, sa_g, sa_gr, *]; done)
      | (cases hs; simp [sm_step, sm_bin, sm_binL, sm_if, sm_nx, sm_ret, sa_g, sa_gr, sa_cat, *]; done)
end SAS
