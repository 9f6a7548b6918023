/-! small methods of the reference, by bounds -/
/-- TwoWayGrammarModel.write(I)V -/
def xc_v_write : ab_C := (220, [(3, 109, 0, []), ab_top], [], [(ab_unk, [])], [(14037, 14038), (14044, 14045), (21760, 21761)], 0)
theorem xo_v_write : ab_Ok sc_P sx_sk xc_v_write := ab_good_ok (env := []) (heads := []) (fuel := 30) (by decide +kernel) (fun _ h => absurd h List.not_mem_nil)
/-- TwoWayGrammarModel.isWordy(I)Z -/
def xc_v_isWordy : ab_C := (221, [ab_top], [], [((1, 0, 1, []), [])], [], 1)
theorem xo_v_isWordy : ab_Ok sc_P sx_sk xc_v_isWordy := ab_good_ok (env := []) (heads := []) (fuel := 36) (by decide +kernel) (fun _ h => absurd h List.not_mem_nil)
/-- TwoWayGrammarModel.between(I)V -/
def xc_v_between : ab_C := (219, [(3, 109, 0, []), ab_top], [], [(ab_unk, [])], [(14037, 14038), (14044, 14047), (21760, 21761)], 2)
theorem xo_v_between : ab_Ok sc_P sx_sk xc_v_between := ab_good_ok (env := [xc_v_write, xc_v_isWordy]) (heads := [(22, [(3, 109, 0, []), ab_top, (1, 0, 2147483647, [])], [(14046, (1, 1, 1, []))], [(0, 0, 0), (1, 2, 0)])]) (fuel := 39) (by decide +kernel) (List.forall_mem_cons.mpr ⟨xo_v_write, List.forall_mem_cons.mpr ⟨xo_v_isWordy, fun _ h => absurd h List.not_mem_nil⟩⟩)
/-- TwoWayGrammarModel.isLow(I)Z -/
def xc_v_isLow : ab_C := (180, [ab_top], [], [((1, 0, 1, []), [])], [], 0)
theorem xo_v_isLow : ab_Ok sc_P sx_sk xc_v_isLow := ab_good_ok (env := []) (heads := []) (fuel := 14) (by decide +kernel) (fun _ h => absurd h List.not_mem_nil)
/-- TwoWayGrammarModel.isDigit(I)Z -/
def xc_v_isDigit : ab_C := (182, [ab_top], [], [((1, 0, 1, []), [])], [], 0)
theorem xo_v_isDigit : ab_Ok sc_P sx_sk xc_v_isDigit := ab_good_ok (env := []) (heads := []) (fuel := 14) (by decide +kernel) (fun _ h => absurd h List.not_mem_nil)
/-- TwoWayGrammarModel.isBlank(I)Z -/
def xc_v_isBlank : ab_C := (178, [ab_top], [], [((1, 0, 1, []), [])], [], 0)
theorem xo_v_isBlank : ab_Ok sc_P sx_sk xc_v_isBlank := ab_good_ok (env := []) (heads := []) (fuel := 14) (by decide +kernel) (fun _ h => absurd h List.not_mem_nil)
/-- TwoWayGrammarModel.sortOf(J)I -/
def xc_v_sortOf : ab_C := (189, [ab_topL], [], [((1, (-1), 7, []), [])], [], 0)
theorem xo_v_sortOf : ab_Ok sc_P sx_sk xc_v_sortOf := ab_good_ok (env := []) (heads := []) (fuel := 36) (by decide +kernel) (fun _ h => absurd h List.not_mem_nil)
/-- TwoWayGrammarModel.isPart()Z -/
def xc_v_isPart : ab_C := (188, [(3, 109, 0, [])], [], [((1, 0, 1, []), [])], [], 1)
theorem xo_v_isPart : ab_Ok sc_P sx_sk xc_v_isPart := ab_good_ok (env := []) (heads := []) (fuel := 61) (by decide +kernel) (fun _ h => absurd h List.not_mem_nil)
/-- TwoWayGrammarModel.least(III)I -/
def xc_v_least : ab_C := (202, [(3, 109, 0, []), ab_top, ab_top, ab_top], [], [(ab_top, [])], [], 0)
theorem xo_v_least : ab_Ok sc_P sx_sk xc_v_least := ab_good_ok (env := []) (heads := []) (fuel := 19) (by decide +kernel) (fun _ h => absurd h List.not_mem_nil)
/-- TwoWayGrammarModel.keywordOf(J)I -/
def xc_v_keywordOf : ab_C := (216, [(3, 109, 0, []), ab_topL], [], [((1, (-1), 19, []), [])], [], 0)
theorem xo_v_keywordOf : ab_Ok sc_P sx_sk xc_v_keywordOf := ab_good_ok (env := []) (heads := [(2, [(3, 109, 0, []), ab_topL, ab_unk, (1, 0, 20, [])], [], [(0, 0, 0), (1, 3, 0)])]) (fuel := 26) (by decide +kernel) (fun _ h => absurd h List.not_mem_nil)
/-- TwoWayGrammarModel.signOf(I)I -/
def xc_v_signOf : ab_C := (230, [(3, 109, 0, []), ab_top], [], [((1, (-1), 22, []), [])], [], 0)
theorem xo_v_signOf : ab_Ok sc_P sx_sk xc_v_signOf := ab_good_ok (env := []) (heads := [(2, [(3, 109, 0, []), ab_top, (1, 0, 20, [])], [], [(0, 0, 0), (1, 2, 0)])]) (fuel := 26) (by decide +kernel) (fun _ h => absurd h List.not_mem_nil)
/-- TwoWayGrammarModel.layout(I)V -/
def xc_v_layout : ab_C := (222, [(3, 109, 0, []), ab_top], [], [(ab_unk, [])], [(14036, 14037), (14045, 14047)], 0)
theorem xo_v_layout : ab_Ok sc_P sx_sk xc_v_layout := ab_good_ok (env := []) (heads := []) (fuel := 40) (by decide +kernel) (fun _ h => absurd h List.not_mem_nil)
/-- TwoWayGrammarModel.has(J)Z -/
def xc_v_has : ab_C := (212, [(3, 109, 0, []), ab_topL], [(14033, (1, 0, 160, []))], [((1, 0, 1, []), [])], [], 0)
theorem xo_v_has : ab_Ok sc_P sx_sk xc_v_has := ab_good_ok (env := []) (heads := []) (fuel := 26) (by decide +kernel) (fun _ h => absurd h List.not_mem_nil)
/-- TwoWayGrammarModel.isVoid(I)Z -/
def xc_v_isVoid : ab_C := (198, [(3, 109, 0, []), (1, 0, 59, [])], [], [((1, 0, 1, []), [])], [], 0)
theorem xo_v_isVoid : ab_Ok sc_P sx_sk xc_v_isVoid := ab_good_ok (env := []) (heads := []) (fuel := 18) (by decide +kernel) (fun _ h => absurd h List.not_mem_nil)
/-- TwoWayGrammarModel.directors(II)J -/
def xc_v_directors : ab_C := (203, [(3, 109, 0, []), (1, 0, 79, []), (1, 0, 79, [])], [], [(ab_topL, [])], [], 0)
theorem xo_v_directors : ab_Ok sc_P sx_sk xc_v_directors := ab_good_ok (env := []) (heads := []) (fuel := 21) (by decide +kernel) (fun _ h => absurd h List.not_mem_nil)
/-- TwoWayGrammarModel.literal()I -/
def xc_v_literal : ab_C := (191, [(3, 109, 0, [])], [], [((1, 0, 20, []), [])], [(13962, 13963), (14976, 14977), (15104, 15105)], 0)
theorem xo_v_literal : ab_Ok sc_P sx_sk xc_v_literal := ab_good_ok (env := []) (heads := [(2, [(3, 109, 0, []), (1, 0, 20, [])], [], [(0, 0, 0), (1, 1, 0)])]) (fuel := 44) (by decide +kernel) (fun _ h => absurd h List.not_mem_nil)
