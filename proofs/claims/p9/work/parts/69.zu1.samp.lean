/-- TwoWayGrammar.sample(I)I -/
def xc_s0 : ab_C := (98, [(3, 51, 0, []), (1, 0, 0, [])], [], [((1, 84, 84, []), [])], [(6657, 6658), (6784, 6785)], 3)
set_option maxRecDepth 100000 in
theorem xo_s0 : ab_Ok sc_P sx_sk xc_s0 := ab_good_ok (env := []) (heads := []) (fuel := 7275) (by decide +kernel) (fun _ h => absurd h List.not_mem_nil)
/-- TwoWayGrammarModel.sample(I)I -/
def xc_t0 : ab_C := (173, [(3, 109, 0, []), (1, 0, 0, [])], [], [((1, 84, 84, []), [(13952, (1, 0, 0, []))])], [(13952, 13954), (14080, 14081)], 1)
set_option maxRecDepth 100000 in
theorem xo_t0 : ab_Ok sc_P sx_sk xc_t0 := ab_good_ok (env := []) (heads := []) (fuel := 2456) (by decide +kernel) (fun _ h => absurd h List.not_mem_nil)
/-- TwoWayGrammar.sample(I)I -/
def xc_s1 : ab_C := (98, [(3, 51, 0, []), (1, 1, 1, [])], [], [((1, 131, 131, []), [])], [(6657, 6658), (6784, 6785)], 3)
set_option maxRecDepth 100000 in
theorem xo_s1 : ab_Ok sc_P sx_sk xc_s1 := ab_good_ok (env := []) (heads := []) (fuel := 11320) (by decide +kernel) (fun _ h => absurd h List.not_mem_nil)
/-- TwoWayGrammarModel.sample(I)I -/
def xc_t1 : ab_C := (173, [(3, 109, 0, []), (1, 1, 1, [])], [], [((1, 131, 131, []), [(13952, (1, 0, 0, []))])], [(13952, 13954), (14080, 14081)], 1)
set_option maxRecDepth 100000 in
theorem xo_t1 : ab_Ok sc_P sx_sk xc_t1 := ab_good_ok (env := []) (heads := []) (fuel := 3798) (by decide +kernel) (fun _ h => absurd h List.not_mem_nil)
/-- TwoWayGrammar.sample(I)I -/
def xc_s2 : ab_C := (98, [(3, 51, 0, []), (1, 2, 2, [])], [], [((1, 92, 92, []), [])], [(6657, 6658), (6784, 6785)], 3)
set_option maxRecDepth 100000 in
theorem xo_s2 : ab_Ok sc_P sx_sk xc_s2 := ab_good_ok (env := []) (heads := []) (fuel := 7965) (by decide +kernel) (fun _ h => absurd h List.not_mem_nil)
/-- TwoWayGrammarModel.sample(I)I -/
def xc_t2 : ab_C := (173, [(3, 109, 0, []), (1, 2, 2, [])], [], [((1, 92, 92, []), [(13952, (1, 0, 0, []))])], [(13952, 13954), (14080, 14081)], 1)
set_option maxRecDepth 100000 in
theorem xo_t2 : ab_Ok sc_P sx_sk xc_t2 := ab_good_ok (env := []) (heads := []) (fuel := 2683) (by decide +kernel) (fun _ h => absurd h List.not_mem_nil)
/-- TwoWayGrammar.sample(I)I -/
def xc_sn : ab_C := (98, [(3, 51, 0, []), (1, (-2147483648), (-1), [])], [], [], [], 0)
set_option maxRecDepth 100000 in
theorem xo_sn : ab_OkX sc_P sx_sk [13] xc_sn := ab_goodX_ok (env := []) (heads := []) (fuel := 8) (by decide +kernel) (fun _ h => absurd h List.not_mem_nil)
/-- TwoWayGrammarModel.sample(I)I -/
def xc_tn : ab_C := (173, [(3, 109, 0, []), (1, (-2147483648), (-1), [])], [], [((1, 0, 0, []), [(13952, (1, 1, 1, []))])], [(13952, 13953)], 0)
set_option maxRecDepth 100000 in
theorem xo_tn : ab_Ok sc_P sx_sk xc_tn := ab_good_ok (env := []) (heads := []) (fuel := 16) (by decide +kernel) (fun _ h => absurd h List.not_mem_nil)
/-- TwoWayGrammar.sample(I)I -/
def xc_sb : ab_C := (98, [(3, 51, 0, []), (1, 3, 2147483647, [])], [], [], [], 0)
set_option maxRecDepth 100000 in
theorem xo_sb : ab_OkX sc_P sx_sk [13] xc_sb := ab_goodX_ok (env := []) (heads := []) (fuel := 11) (by decide +kernel) (fun _ h => absurd h List.not_mem_nil)
/-- TwoWayGrammarModel.sample(I)I -/
def xc_tb : ab_C := (173, [(3, 109, 0, []), (1, 3, 2147483647, [])], [], [((1, 0, 0, []), [(13952, (1, 1, 1, []))])], [(13952, 13953)], 0)
set_option maxRecDepth 100000 in
theorem xo_tb : ab_Ok sc_P sx_sk xc_tb := ab_good_ok (env := []) (heads := []) (fuel := 19) (by decide +kernel) (fun _ h => absurd h List.not_mem_nil)
/-- TwoWayGrammarModel.thrown()I -/
def xc_u0 : ab_C := (170, [(3, 109, 0, [])], [(13952, (1, 0, 0, []))], [((1, 0, 0, []), [])], [], 0)
set_option maxRecDepth 100000 in
theorem xo_u0 : ab_Ok sc_P sx_sk xc_u0 := ab_good_ok (env := []) (heads := []) (fuel := 8) (by decide +kernel) (fun _ h => absurd h List.not_mem_nil)
/-- TwoWayGrammarModel.thrown()I -/
def xc_u1 : ab_C := (170, [(3, 109, 0, [])], [(13952, (1, 1, 1, []))], [((1, 1, 1, []), [])], [], 0)
set_option maxRecDepth 100000 in
theorem xo_u1 : ab_Ok sc_P sx_sk xc_u1 := ab_good_ok (env := []) (heads := []) (fuel := 8) (by decide +kernel) (fun _ h => absurd h List.not_mem_nil)
