/-- TwoWayGrammar$Walk.leave(I)V -/
def xc_467 : ab_C := (147, [(3, 107, 0, []), ab_top], [], [(ab_unk, [])], [(13440, 13441)], 2)
theorem xo_467 : ab_Ok sc_P sx_sk xc_467 := ab_good_ok (env := [xc_194]) (heads := []) (fuel := 10) (by decide +kernel) (List.forall_mem_cons.mpr ⟨xo_194, fun _ h => absurd h List.not_mem_nil⟩)
/-- TwoWayGrammar$Walk.pairEnds(II)V -/
def xc_476 : ab_C := (152, [(3, 107, 0, []), ab_top, ab_top], [], [(ab_unk, [])], [(13184, 13185), (13312, 13313), (13440, 13441)], 4)
theorem xo_476 : ab_Ok sc_P sx_sk xc_476 := ab_good_ok (env := [xc_210]) (heads := []) (fuel := 11) (by decide +kernel) (List.forall_mem_cons.mpr ⟨xo_210, fun _ h => absurd h List.not_mem_nil⟩)
