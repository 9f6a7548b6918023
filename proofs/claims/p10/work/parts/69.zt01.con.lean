/-- TwoWayGrammar.at([II)I -/
def xc_151 : ab_C := (49, [(3, 96, 0, []), ab_top], [], [(ab_top, [])], [], 0)
theorem xo_151 : ab_Ok sc_P sx_sk xc_151 := ab_good_ok (env := []) (heads := []) (fuel := 16) (by decide +kernel) (fun _ h => absurd h List.not_mem_nil)
/-- TwoWayGrammar.count(I)I -/
def xc_157 : ab_C := (94, [(3, 51, 0, []), ab_top], [], [(ab_top, [])], [], 1)
theorem xo_157 : ab_Ok sc_P sx_sk xc_157 := ab_good_ok (env := [xc_143, xc_147, xc_8]) (heads := []) (fuel := 15) (by decide +kernel) (List.forall_mem_cons.mpr ⟨xo_143, List.forall_mem_cons.mpr ⟨xo_147, List.forall_mem_cons.mpr ⟨xo_8, fun _ h => absurd h List.not_mem_nil⟩⟩⟩)
/-- TwoWayGrammar$Sets.ruleHeight(I)I -/
def xc_167 : ab_C := (101, [(3, 78, 0, []), ab_top], [], [(ab_top, [])], [], 1)
theorem xo_167 : ab_Ok sc_P sx_sk xc_167 := ab_good_ok (env := [xc_103]) (heads := []) (fuel := 12) (by decide +kernel) (List.forall_mem_cons.mpr ⟨xo_103, fun _ h => absurd h List.not_mem_nil⟩)
/-- TwoWayGrammar.rule(II)J -/
def xc_168 : ab_C := (100, [(3, 51, 0, []), ab_top, ab_top], [], [(ab_topL, [])], [], 2)
theorem xo_168 : ab_OkX sc_P sx_sk [12, 13, 14] xc_168 := ab_goodX_ok (env := [xc_132, xc_167, xc_92, xc_118, xc_94]) (heads := []) (fuel := 29) (by decide +kernel) (List.forall_mem_cons.mpr ⟨xo_132, List.forall_mem_cons.mpr ⟨xo_167, List.forall_mem_cons.mpr ⟨xo_92, List.forall_mem_cons.mpr ⟨xo_118, List.forall_mem_cons.mpr ⟨xo_94, fun _ h => absurd h List.not_mem_nil⟩⟩⟩⟩⟩)
/-- TwoWayGrammar.put([III)V -/
def xc_182 : ab_C := (16, [(3, 103, 0, []), ab_top, ab_top], [], [(ab_unk, [])], [(13184, 13185)], 0)
theorem xo_182 : ab_Ok sc_P sx_sk xc_182 := ab_good_ok (env := []) (heads := []) (fuel := 16) (by decide +kernel) (fun _ h => absurd h List.not_mem_nil)
/-- TwoWayGrammar.put([III)V -/
def xc_183 : ab_C := (16, [(3, 104, 0, []), ab_top, ab_top], [], [(ab_unk, [])], [(13312, 13313)], 0)
theorem xo_183 : ab_Ok sc_P sx_sk xc_183 := ab_good_ok (env := []) (heads := []) (fuel := 16) (by decide +kernel) (fun _ h => absurd h List.not_mem_nil)
/-- TwoWayGrammar.put([III)V -/
def xc_184 : ab_C := (16, [(3, 105, 0, []), ab_top, ab_top], [], [(ab_unk, [])], [(13440, 13441)], 0)
theorem xo_184 : ab_Ok sc_P sx_sk xc_184 := ab_good_ok (env := []) (heads := []) (fuel := 16) (by decide +kernel) (fun _ h => absurd h List.not_mem_nil)
/-- TwoWayGrammar$Tree.finish(I)V -/
def xc_194 : ab_C := (148, [(3, 102, 0, []), ab_top], [], [(ab_unk, [])], [(13440, 13441)], 1)
theorem xo_194 : ab_Ok sc_P sx_sk xc_194 := ab_good_ok (env := [xc_184]) (heads := []) (fuel := 16) (by decide +kernel) (List.forall_mem_cons.mpr ⟨xo_184, fun _ h => absurd h List.not_mem_nil⟩)
/-- TwoWayGrammar$Walk.leave(I)V -/
def xc_195 : ab_C := (147, [(3, 106, 0, []), ab_top], [], [(ab_unk, [])], [(13440, 13441)], 2)
theorem xo_195 : ab_Ok sc_P sx_sk xc_195 := ab_good_ok (env := [xc_194]) (heads := []) (fuel := 10) (by decide +kernel) (List.forall_mem_cons.mpr ⟨xo_194, fun _ h => absurd h List.not_mem_nil⟩)
/-- TwoWayGrammar.at([II)I -/
def xc_203 : ab_C := (49, [(3, 103, 0, []), ab_top], [], [(ab_top, [])], [], 0)
theorem xo_203 : ab_Ok sc_P sx_sk xc_203 := ab_good_ok (env := []) (heads := []) (fuel := 16) (by decide +kernel) (fun _ h => absurd h List.not_mem_nil)
/-- TwoWayGrammar$Tree.exchangeIn([III)V -/
def xc_204 : ab_C := (155, [(3, 103, 0, []), ab_top, ab_top], [], [(ab_unk, [])], [(13184, 13185)], 1)
theorem xo_204 : ab_Ok sc_P sx_sk xc_204 := ab_good_ok (env := [xc_203, xc_182]) (heads := []) (fuel := 20) (by decide +kernel) (List.forall_mem_cons.mpr ⟨xo_203, List.forall_mem_cons.mpr ⟨xo_182, fun _ h => absurd h List.not_mem_nil⟩⟩)
/-- TwoWayGrammar.at([II)I -/
def xc_205 : ab_C := (49, [(3, 104, 0, []), ab_top], [], [(ab_top, [])], [], 0)
theorem xo_205 : ab_Ok sc_P sx_sk xc_205 := ab_good_ok (env := []) (heads := []) (fuel := 16) (by decide +kernel) (fun _ h => absurd h List.not_mem_nil)
/-- TwoWayGrammar$Tree.exchangeIn([III)V -/
def xc_206 : ab_C := (155, [(3, 104, 0, []), ab_top, ab_top], [], [(ab_unk, [])], [(13312, 13313)], 1)
theorem xo_206 : ab_Ok sc_P sx_sk xc_206 := ab_good_ok (env := [xc_205, xc_183]) (heads := []) (fuel := 20) (by decide +kernel) (List.forall_mem_cons.mpr ⟨xo_205, List.forall_mem_cons.mpr ⟨xo_183, fun _ h => absurd h List.not_mem_nil⟩⟩)
/-- TwoWayGrammar.at([II)I -/
def xc_207 : ab_C := (49, [(3, 105, 0, []), ab_top], [], [(ab_top, [])], [], 0)
theorem xo_207 : ab_Ok sc_P sx_sk xc_207 := ab_good_ok (env := []) (heads := []) (fuel := 16) (by decide +kernel) (fun _ h => absurd h List.not_mem_nil)
/-- TwoWayGrammar$Tree.exchangeIn([III)V -/
def xc_208 : ab_C := (155, [(3, 105, 0, []), ab_top, ab_top], [], [(ab_unk, [])], [(13440, 13441)], 1)
theorem xo_208 : ab_Ok sc_P sx_sk xc_208 := ab_good_ok (env := [xc_207, xc_184]) (heads := []) (fuel := 20) (by decide +kernel) (List.forall_mem_cons.mpr ⟨xo_207, List.forall_mem_cons.mpr ⟨xo_184, fun _ h => absurd h List.not_mem_nil⟩⟩)
/-- TwoWayGrammar$Tree.turnRound(II)V -/
def xc_209 : ab_C := (154, [(3, 102, 0, []), ab_top, ab_top], [], [(ab_unk, [])], [(13184, 13185), (13312, 13313), (13440, 13441)], 2)
theorem xo_209 : ab_Ok sc_P sx_sk xc_209 := ab_good_ok (env := [xc_204, xc_206, xc_208]) (heads := [(7, [(3, 102, 0, []), ab_top, ab_top, ab_top, ab_top], [], [(0, 0, 0), (1, 3, 0)])]) (fuel := 27) (by decide +kernel) (List.forall_mem_cons.mpr ⟨xo_204, List.forall_mem_cons.mpr ⟨xo_206, List.forall_mem_cons.mpr ⟨xo_208, fun _ h => absurd h List.not_mem_nil⟩⟩⟩)
/-- TwoWayGrammar$Tree.exchange(II)V -/
def xc_210 : ab_C := (153, [(3, 102, 0, []), ab_top, ab_top], [], [(ab_unk, [])], [(13184, 13185), (13312, 13313), (13440, 13441)], 3)
theorem xo_210 : ab_Ok sc_P sx_sk xc_210 := ab_good_ok (env := [xc_209]) (heads := []) (fuel := 20) (by decide +kernel) (List.forall_mem_cons.mpr ⟨xo_209, fun _ h => absurd h List.not_mem_nil⟩)
/-- TwoWayGrammar$Walk.pairEnds(II)V -/
def xc_211 : ab_C := (152, [(3, 106, 0, []), ab_top, ab_top], [], [(ab_unk, [])], [(13184, 13185), (13312, 13313), (13440, 13441)], 4)
theorem xo_211 : ab_Ok sc_P sx_sk xc_211 := ab_good_ok (env := [xc_210]) (heads := []) (fuel := 11) (by decide +kernel) (List.forall_mem_cons.mpr ⟨xo_210, fun _ h => absurd h List.not_mem_nil⟩)
