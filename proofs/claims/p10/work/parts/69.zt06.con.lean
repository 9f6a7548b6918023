/-- TwoWayGrammar.output(I)C -/
def xc_992 : ab_C := (165, [(3, 51, 0, []), ab_top], [], [((1, 0, 65535, []), [])], [], 1)
theorem xo_992 : ab_OkX sc_P sx_sk [12] xc_992 := ab_goodX_ok (env := [xc_143, xc_144]) (heads := []) (fuel := 17) (by decide +kernel) (List.forall_mem_cons.mpr ⟨xo_143, List.forall_mem_cons.mpr ⟨xo_144, fun _ h => absurd h List.not_mem_nil⟩⟩)
/-- TwoWayGrammar.at([II)I -/
def xc_993 : ab_C := (49, [(3, 99, 0, []), ab_top], [], [(ab_top, [])], [], 0)
theorem xo_993 : ab_Ok sc_P sx_sk xc_993 := ab_good_ok (env := []) (heads := []) (fuel := 16) (by decide +kernel) (fun _ h => absurd h List.not_mem_nil)
/-- java/lang/Integer.compare(II)I -/
def xc_994 : ab_C := (168, [ab_top, ab_top], [], [(ab_top, [])], [], 0)
theorem xo_994 : ab_Ok sc_P sx_sk xc_994 := ab_good_ok (env := []) (heads := []) (fuel := 14) (by decide +kernel) (fun _ h => absurd h List.not_mem_nil)
/-- TwoWayGrammar.at([II)I -/
def xc_995 : ab_C := (49, [(3, 100, 0, []), ab_top], [], [(ab_top, [])], [], 0)
theorem xo_995 : ab_Ok sc_P sx_sk xc_995 := ab_good_ok (env := []) (heads := []) (fuel := 16) (by decide +kernel) (fun _ h => absurd h List.not_mem_nil)
/-- TwoWayGrammar$Tree.against(LTwoWayGrammar$Tree;)I -/
def xc_996 : ab_C := (167, [(3, 94, 0, []), (3, 98, 0, [])], [], [(ab_top, [])], [], 1)
theorem xo_996 : ab_Ok sc_P sx_sk xc_996 := ab_good_ok (env := [xc_149, xc_993, xc_994, xc_151, xc_995]) (heads := [(2, [(3, 94, 0, []), (3, 98, 0, []), (1, 0, 2147483647, []), ab_unk], [], [(0, 0, 0), (1, 2, 0)])]) (fuel := 42) (by decide +kernel) (List.forall_mem_cons.mpr ⟨xo_149, List.forall_mem_cons.mpr ⟨xo_993, List.forall_mem_cons.mpr ⟨xo_994, List.forall_mem_cons.mpr ⟨xo_151, List.forall_mem_cons.mpr ⟨xo_995, fun _ h => absurd h List.not_mem_nil⟩⟩⟩⟩⟩)
/-- TwoWayGrammar.compare()I -/
def xc_997 : ab_C := (166, [(3, 51, 0, [])], [], [(ab_top, [])], [], 2)
theorem xo_997 : ab_OkX sc_P sx_sk [14] xc_997 := ab_goodX_ok (env := [xc_996]) (heads := []) (fuel := 19) (by decide +kernel) (List.forall_mem_cons.mpr ⟨xo_996, fun _ h => absurd h List.not_mem_nil⟩)
