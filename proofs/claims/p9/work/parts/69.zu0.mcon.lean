/-- TwoWayGrammarModel.thrown()I -/
def xc_m0 : ab_C := (170, [(3, 109, 0, [])], [], [(ab_top, [])], [], 0)
theorem xo_m0 : ab_Ok sc_P sx_sk xc_m0 := ab_good_ok (env := []) (heads := []) (fuel := 8) (by decide +kernel) (fun _ h => absurd h List.not_mem_nil)
/-- TwoWayGrammarModel.type(IC)Z -/
def xc_m1 : ab_C := (171, [(3, 109, 0, []), ab_top, (1, 0, 65535, [])], [], [((1, 0, 1, []), [])], [(13952, 13955), (14080, 14081), (14208, 14209)], 0)
theorem xo_m1 : ab_Ok sc_P sx_sk xc_m1 := ab_good_ok (env := []) (heads := []) (fuel := 47) (by decide +kernel) (fun _ h => absurd h List.not_mem_nil)
/-- TwoWayGrammarModel.clear(I)I -/
def xc_m2 : ab_C := (172, [(3, 109, 0, []), ab_top], [], [(ab_top, [])], [(13952, 13955)], 0)
theorem xo_m2 : ab_Ok sc_P sx_sk xc_m2 := ab_good_ok (env := []) (heads := []) (fuel := 37) (by decide +kernel) (fun _ h => absurd h List.not_mem_nil)
/-- TwoWayGrammarModel.sample(I)I -/
def xc_m3 : ab_C := (173, [(3, 109, 0, []), ab_top], [], [(ab_top, [])], [(13952, 13954), (14080, 14081)], 1)
theorem xo_m3 : ab_Ok sc_P sx_sk xc_m3 := ab_good_ok (env := []) (heads := []) (fuel := 3798) (by decide +kernel) (fun _ h => absurd h List.not_mem_nil)
/-- TwoWayGrammarModel.rule(II)J -/
def xc_m4 : ab_C := (204, [(3, 109, 0, []), ab_top, ab_top], [], [(ab_topL, [])], [(13952, 13953)], 0)
theorem xo_m4 : ab_Ok sc_P sx_sk xc_m4 := ab_good_ok (env := []) (heads := []) (fuel := 46) (by decide +kernel) (fun _ h => absurd h List.not_mem_nil)
/-- TwoWayGrammarModel.levelOf(I)I -/
def xc_m5 : ab_C := (234, [(3, 109, 0, []), (1, 0, 99, [])], [], [(ab_top, [])], [], 0)
theorem xo_m5 : ab_Ok sc_P sx_sk xc_m5 := ab_good_ok (env := []) (heads := []) (fuel := 13) (by decide +kernel) (fun _ h => absurd h List.not_mem_nil)
/-- TwoWayGrammarModel.levelOf(I)I -/
def xc_m6 : ab_C := (234, [(3, 109, 0, []), (1, 1, 99, [])], [], [(ab_top, [])], [], 0)
theorem xo_m6 : ab_Ok sc_P sx_sk xc_m6 := ab_good_ok (env := []) (heads := []) (fuel := 13) (by decide +kernel) (fun _ h => absurd h List.not_mem_nil)
/-- TwoWayGrammarModel.node(II)J -/
def xc_m7 : ab_C := (233, [(3, 109, 0, []), ab_top, ab_top], [], [(ab_topL, [])], [(13952, 13953)], 1)
theorem xo_m7 : ab_Ok sc_P sx_sk xc_m7 := ab_good_ok (env := [xc_m5, xc_m6]) (heads := [(86, [(3, 109, 0, []), (1, 0, 99, []), (1, 2, 2, []), (1, (-1), 99, [])], [(13952, (1, 0, 0, [])), (14015, (1, 1, 100, []))], [(0, 0, 0), (2, 3, 0)]), (116, [(3, 109, 0, []), (1, 0, 99, []), (1, 3, 3, []), (1, 1, 100, [])], [(13952, (1, 0, 0, [])), (14015, (1, 1, 100, []))], [(0, 0, 1), (1, 3, 0)])]) (fuel := 37) (by decide +kernel) (List.forall_mem_cons.mpr ⟨xo_m5, List.forall_mem_cons.mpr ⟨xo_m6, fun _ h => absurd h List.not_mem_nil⟩⟩)
/-- TwoWayGrammarModel.output(I)C -/
def xc_m8 : ab_C := (237, [(3, 109, 0, []), ab_top], [], [((1, 0, 65535, []), [])], [(13952, 13953)], 0)
theorem xo_m8 : ab_Ok sc_P sx_sk xc_m8 := ab_good_ok (env := []) (heads := []) (fuel := 23) (by decide +kernel) (fun _ h => absurd h List.not_mem_nil)
/-- TwoWayGrammarModel.carry()I -/
def xc_m9 : ab_C := (238, [(3, 109, 0, [])], [], [(ab_top, [])], [(13952, 13953), (13954, 13955), (14208, 14209)], 0)
theorem xo_m9 : ab_Ok sc_P sx_sk xc_m9 := ab_good_ok (env := []) (heads := [(7, [(3, 109, 0, []), (1, 0, 160, [])], [(13952, (1, 0, 0, []))], [(0, 0, 0), (1, 1, 0)])]) (fuel := 20) (by decide +kernel) (fun _ h => absurd h List.not_mem_nil)
/-- TwoWayGrammarModel.keep()Z -/
def xc_m10 : ab_C := (239, [(3, 109, 0, [])], [], [((1, 0, 1, []), [])], [(13952, 13953), (14017, 14018), (20608, 20609), (20992, 20993)], 0)
theorem xo_m10 : ab_Ok sc_P sx_sk xc_m10 := ab_good_ok (env := []) (heads := [(16, [(3, 109, 0, []), (1, 0, 100, [])], [(14015, (1, 1, 100, [])), (13952, (1, 0, 0, []))], [(0, 0, 0), (1, 1, 0)])]) (fuel := 34) (by decide +kernel) (fun _ h => absurd h List.not_mem_nil)
/-- TwoWayGrammarModel.compare()I -/
def xc_m11 : ab_C := (240, [(3, 109, 0, [])], [], [(ab_top, [])], [(13952, 13953)], 0)
theorem xo_m11 : ab_Ok sc_P sx_sk xc_m11 := ab_good_ok (env := []) (heads := [(34, [(3, 109, 0, []), (1, 0, 100, []), ab_unk, ab_unk, ab_unk], [(13952, (1, 0, 0, [])), (14017, (1, 1, 100, [])), (14015, (1, 1, 100, []))], [(0, 0, 0), (1, 1, 0)])]) (fuel := 52) (by decide +kernel) (fun _ h => absurd h List.not_mem_nil)
/-- TwoWayGrammarModel.count(I)I -/
def xc_m12 : ab_C := (241, [(3, 109, 0, []), ab_top], [], [(ab_top, [])], [(13952, 13953)], 0)
theorem xo_m12 : ab_Ok sc_P sx_sk xc_m12 := ab_good_ok (env := []) (heads := []) (fuel := 13) (by decide +kernel) (fun _ h => absurd h List.not_mem_nil)
