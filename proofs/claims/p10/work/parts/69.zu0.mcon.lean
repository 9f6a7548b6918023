/-- TwoWayGrammarModel.rule(II)J -/
def xc_m4 : ab_C := (204, [(3, 109, 0, []), ab_top, ab_top], [], [(ab_topL, [])], [(13952, 13953)], 0)
theorem xo_m4 : ab_Ok sc_P sx_sk xc_m4 := ab_good_ok (env := []) (heads := []) (fuel := 46) (by decide +kernel) (fun _ h => absurd h List.not_mem_nil)
/-- TwoWayGrammarModel.output(I)C -/
def xc_m8 : ab_C := (237, [(3, 109, 0, []), ab_top], [], [((1, 0, 65535, []), [])], [(13952, 13953)], 0)
theorem xo_m8 : ab_Ok sc_P sx_sk xc_m8 := ab_good_ok (env := []) (heads := []) (fuel := 23) (by decide +kernel) (fun _ h => absurd h List.not_mem_nil)
/-- TwoWayGrammarModel.compare()I -/
def xc_m11 : ab_C := (240, [(3, 109, 0, [])], [], [(ab_top, [])], [(13952, 13953)], 0)
theorem xo_m11 : ab_Ok sc_P sx_sk xc_m11 := ab_good_ok (env := []) (heads := [(34, [(3, 109, 0, []), (1, 0, 100, []), ab_unk, ab_unk, ab_unk], [(13952, (1, 0, 0, [])), (14017, (1, 1, 100, [])), (14015, (1, 1, 100, []))], [(0, 0, 0), (1, 1, 0)])]) (fuel := 52) (by decide +kernel) (fun _ h => absurd h List.not_mem_nil)
/-- TwoWayGrammarModel.count(I)I -/
def xc_m12 : ab_C := (241, [(3, 109, 0, []), ab_top], [], [(ab_top, [])], [(13952, 13953)], 0)
theorem xo_m12 : ab_Ok sc_P sx_sk xc_m12 := ab_good_ok (env := []) (heads := []) (fuel := 13) (by decide +kernel) (fun _ h => absurd h List.not_mem_nil)
