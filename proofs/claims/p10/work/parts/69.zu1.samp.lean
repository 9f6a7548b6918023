/-- TwoWayGrammar.sample(I)I -/
def xc_sn : ab_C := (98, [(3, 51, 0, []), (1, (-2147483648), (-1), [])], [], [], [], 0)
set_option maxRecDepth 100000 in
theorem xo_sn : ab_OkX sc_P sx_sk [13] xc_sn := ab_goodX_ok (env := []) (heads := []) (fuel := 8) (by decide +kernel) (fun _ h => absurd h List.not_mem_nil)
/-- TwoWayGrammar.sample(I)I -/
def xc_sb : ab_C := (98, [(3, 51, 0, []), (1, 3, 2147483647, [])], [], [], [], 0)
set_option maxRecDepth 100000 in
theorem xo_sb : ab_OkX sc_P sx_sk [13] xc_sb := ab_goodX_ok (env := []) (heads := []) (fuel := 11) (by decide +kernel) (fun _ h => absurd h List.not_mem_nil)
