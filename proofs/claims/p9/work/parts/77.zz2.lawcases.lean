/-! THE LAW: its methods with handlers, its cases -/
set_option maxRecDepth 20000 in
theorem xw_0 : wb_good sc_P sc_PW sx_sk [(6528, 13952), (21888, 21889)] [([12], xc_160)] 2000 2 60 [(3, 51, 0, []), ab_top, (1, 0, 65535, []), (3, 171, 0, [])] [(1, 0, 3, [])] = true := by decide +kernel
set_option maxRecDepth 20000 in
theorem xw_1 : wb_good sc_P sc_PW sx_sk [(6528, 13952), (21888, 21889)] [([12], xc_162)] 2001 2 60 [(3, 51, 0, []), ab_top, (3, 171, 0, [])] [(1, 0, 3, [])] = true := by decide +kernel
set_option maxRecDepth 20000 in
theorem xw_2 : wb_good sc_P sc_PW sx_sk [(6528, 13952), (21888, 21889)] [([13], xc_166)] 2002 4 60 [(3, 51, 0, []), ab_top, (3, 171, 0, [])] [(1, 0, 3, [])] = true := by decide +kernel
set_option maxRecDepth 20000 in
theorem xw_3 : wb_good sc_P sc_PW sx_sk [(6528, 13952), (21888, 21889)] [([12, 13, 14], xc_168)] 2003 3 60 [(3, 51, 0, []), ab_top, ab_top, (3, 171, 0, [])] [(1, 0, 3, [])] = true := by decide +kernel
set_option maxRecDepth 20000 in
theorem xw_4 : wb_good sc_P sc_PW sx_sk [(6528, 13952), (21888, 21889)] [([14, 15], xc_456)] 2004 248 60 [(3, 51, 0, []), (3, 171, 0, [])] [(1, 0, 3, [])] = true := by decide +kernel
set_option maxRecDepth 20000 in
theorem xw_5 : wb_good sc_P sc_PW sx_sk [(6528, 13952), (21888, 21889)] [([13, 14, 15], xc_717)] 2005 246 60 [(3, 51, 0, []), ab_topL, ab_top, (3, 171, 0, [])] [(1, 0, 3, [])] = true := by decide +kernel
set_option maxRecDepth 20000 in
theorem xw_6 : wb_good sc_P sc_PW sx_sk [(6528, 13952), (21888, 21889)] [([13, 16], xc_719)] 2006 3 60 [(3, 51, 0, []), ab_top, ab_top, (3, 171, 0, [])] [(1, 0, 3, [])] = true := by decide +kernel
set_option maxRecDepth 20000 in
theorem xw_7 : wb_good sc_P sc_PW sx_sk [(6528, 13952), (21888, 21889)] [([16], xc_721)] 2007 3 60 [(3, 51, 0, []), ab_top, ab_topL, (3, 171, 0, [])] [(1, 0, 3, [])] = true := by decide +kernel
set_option maxRecDepth 20000 in
theorem xw_8 : wb_good sc_P sc_PW sx_sk [(6528, 13952), (21888, 21889)] [([14, 15], xc_991)] 2008 247 60 [(3, 51, 0, []), (3, 171, 0, [])] [(1, 0, 3, [])] = true := by decide +kernel
set_option maxRecDepth 20000 in
theorem xw_9 : wb_good sc_P sc_PW sx_sk [(6528, 13952), (21888, 21889)] [([12], xc_992)] 2009 2 60 [(3, 51, 0, []), ab_top, (3, 171, 0, [])] [(1, 0, 3, [])] = true := by decide +kernel
set_option maxRecDepth 20000 in
theorem xw_10 : wb_good sc_P sc_PW sx_sk [(6528, 13952), (21888, 21889)] [([14], xc_997)] 2010 3 60 [(3, 51, 0, []), (3, 171, 0, [])] [(1, 0, 3, [])] = true := by decide +kernel
def xw_env : List lb_W := [(2000, [(3, 51, 0, []), ab_top, (1, 0, 65535, []), (3, 171, 0, [])], [(1, 0, 3, [])], 2), (2001, [(3, 51, 0, []), ab_top, (3, 171, 0, [])], [(1, 0, 3, [])], 2), (2002, [(3, 51, 0, []), ab_top, (3, 171, 0, [])], [(1, 0, 3, [])], 4), (2003, [(3, 51, 0, []), ab_top, ab_top, (3, 171, 0, [])], [(1, 0, 3, [])], 3), (2004, [(3, 51, 0, []), (3, 171, 0, [])], [(1, 0, 3, [])], 248), (2005, [(3, 51, 0, []), ab_topL, ab_top, (3, 171, 0, [])], [(1, 0, 3, [])], 246), (2006, [(3, 51, 0, []), ab_top, ab_top, (3, 171, 0, [])], [(1, 0, 3, [])], 3), (2007, [(3, 51, 0, []), ab_top, ab_topL, (3, 171, 0, [])], [(1, 0, 3, [])], 3), (2008, [(3, 51, 0, []), (3, 171, 0, [])], [(1, 0, 3, [])], 247), (2009, [(3, 51, 0, []), ab_top, (3, 171, 0, [])], [(1, 0, 3, [])], 2), (2010, [(3, 51, 0, []), (3, 171, 0, [])], [(1, 0, 3, [])], 3)]
/-- TwoWayGrammarModel.compile()I -/
def xm_compile : ab_C := (175, [(3, 109, 0, [])], [], [(ab_top, [])], [], 60)
/-- TwoWayGrammarModel.parse()I -/
def xm_parse : ab_C := (228, [(3, 109, 0, [])], [], [(ab_top, [])], [], 60)
/-- TwoWayGrammarModel.grow(JI)I -/
def xm_grow : ab_C := (232, [(3, 109, 0, []), ab_topL, ab_top], [], [(ab_top, [])], [], 60)
/-- TwoWayGrammarModel.print()I -/
def xm_print : ab_C := (205, [(3, 109, 0, [])], [], [(ab_top, [])], [], 60)
/-- TwoWayGrammarModel.set(IJ)Z -/
def xm_set : ab_C := (235, [(3, 109, 0, []), ab_top, ab_topL], [], [((1, 0, 1, []), [])], [], 60)
def xp_env : List ab_C := [xc_141, xc_148, xc_156, xc_157, xc_m0, xc_m1, xc_m2, xc_m3, xc_m4, xc_m7, xc_m8, xc_m9, xc_m10, xc_m11, xc_m12, xm_compile, xm_parse, xm_grow, xm_print, xm_set]
/-- what is still asked of the reference -/
def xm_Ok (J : sm_H → Prop) : Prop := lb_OkP sc_P sx_sk J xm_compile ∧ lb_OkP sc_P sx_sk J xm_parse ∧ lb_OkP sc_P sx_sk J xm_grow ∧ lb_OkP sc_P sx_sk J xm_print ∧ lb_OkP sc_P sx_sk J xm_set
set_option maxRecDepth 20000 in
theorem xs_len : sx_sk.length ≤ 172 := by decide +kernel
set_option maxRecDepth 20000 in
theorem xp_ok {MJ : sm_H → Prop} {L : Nat} {xs : Nat → Int32} (hI : mj_I MJ) (hX : xm_Ok (lj_J MJ L xs)) : ∀ c ∈ xp_env, lb_OkP sc_P sx_sk (lj_J MJ L xs) c := List.forall_mem_cons.mpr ⟨lj_P hI xo_141 rfl (by decide +kernel), List.forall_mem_cons.mpr ⟨lj_P hI xo_148 rfl (by decide +kernel), List.forall_mem_cons.mpr ⟨lj_P hI xo_156 rfl (by decide +kernel), List.forall_mem_cons.mpr ⟨lj_P hI xo_157 rfl (by decide +kernel), List.forall_mem_cons.mpr ⟨lj_P hI xo_m0 rfl (by decide +kernel), List.forall_mem_cons.mpr ⟨lj_P hI xo_m1 rfl (by decide +kernel), List.forall_mem_cons.mpr ⟨lj_P hI xo_m2 rfl (by decide +kernel), List.forall_mem_cons.mpr ⟨lj_P hI xo_m3 rfl (by decide +kernel), List.forall_mem_cons.mpr ⟨lj_P hI xo_m4 rfl (by decide +kernel), List.forall_mem_cons.mpr ⟨lj_P hI xo_m7 rfl (by decide +kernel), List.forall_mem_cons.mpr ⟨lj_P hI xo_m8 rfl (by decide +kernel), List.forall_mem_cons.mpr ⟨lj_P hI xo_m9 rfl (by decide +kernel), List.forall_mem_cons.mpr ⟨lj_P hI xo_m10 rfl (by decide +kernel), List.forall_mem_cons.mpr ⟨lj_P hI xo_m11 rfl (by decide +kernel), List.forall_mem_cons.mpr ⟨lj_P hI xo_m12 rfl (by decide +kernel), List.forall_mem_cons.mpr ⟨hX.1, List.forall_mem_cons.mpr ⟨hX.2.1, List.forall_mem_cons.mpr ⟨hX.2.2.1, List.forall_mem_cons.mpr ⟨hX.2.2.2.1, List.forall_mem_cons.mpr ⟨hX.2.2.2.2, fun _ h => absurd h List.not_mem_nil⟩⟩⟩⟩⟩⟩⟩⟩⟩⟩⟩⟩⟩⟩⟩⟩⟩⟩⟩⟩
set_option maxRecDepth 20000 in
theorem xw_ok {MJ : sm_H → Prop} {L : Nat} {xs : Nat → Int32} (hI : mj_I MJ) : ∀ w ∈ xw_env, lb_OkW sc_P sc_PW sx_sk (lj_J MJ L xs) w := List.forall_mem_cons.mpr ⟨lj_W hI xs_len (List.forall_mem_cons.mpr ⟨xo_160, fun _ h => absurd h List.not_mem_nil⟩) xw_0 (by decide +kernel), List.forall_mem_cons.mpr ⟨lj_W hI xs_len (List.forall_mem_cons.mpr ⟨xo_162, fun _ h => absurd h List.not_mem_nil⟩) xw_1 (by decide +kernel), List.forall_mem_cons.mpr ⟨lj_W hI xs_len (List.forall_mem_cons.mpr ⟨xo_166, fun _ h => absurd h List.not_mem_nil⟩) xw_2 (by decide +kernel), List.forall_mem_cons.mpr ⟨lj_W hI xs_len (List.forall_mem_cons.mpr ⟨xo_168, fun _ h => absurd h List.not_mem_nil⟩) xw_3 (by decide +kernel), List.forall_mem_cons.mpr ⟨lj_W hI xs_len (List.forall_mem_cons.mpr ⟨xo_456, fun _ h => absurd h List.not_mem_nil⟩) xw_4 (by decide +kernel), List.forall_mem_cons.mpr ⟨lj_W hI xs_len (List.forall_mem_cons.mpr ⟨xo_717, fun _ h => absurd h List.not_mem_nil⟩) xw_5 (by decide +kernel), List.forall_mem_cons.mpr ⟨lj_W hI xs_len (List.forall_mem_cons.mpr ⟨xo_719, fun _ h => absurd h List.not_mem_nil⟩) xw_6 (by decide +kernel), List.forall_mem_cons.mpr ⟨lj_W hI xs_len (List.forall_mem_cons.mpr ⟨xo_721, fun _ h => absurd h List.not_mem_nil⟩) xw_7 (by decide +kernel), List.forall_mem_cons.mpr ⟨lj_W hI xs_len (List.forall_mem_cons.mpr ⟨xo_991, fun _ h => absurd h List.not_mem_nil⟩) xw_8 (by decide +kernel), List.forall_mem_cons.mpr ⟨lj_W hI xs_len (List.forall_mem_cons.mpr ⟨xo_992, fun _ h => absurd h List.not_mem_nil⟩) xw_9 (by decide +kernel), List.forall_mem_cons.mpr ⟨lj_W hI xs_len (List.forall_mem_cons.mpr ⟨xo_997, fun _ h => absurd h List.not_mem_nil⟩) xw_10 (by decide +kernel), fun _ h => absurd h List.not_mem_nil⟩⟩⟩⟩⟩⟩⟩⟩⟩⟩⟩
def xl_HL : List ab_V := [(3, 0, 0, []), (3, 51, 0, []), (3, 109, 0, []), (3, 171, 0, []), (1, 0, 2147483000, []), ab_unk, ab_unk, ab_unk]
