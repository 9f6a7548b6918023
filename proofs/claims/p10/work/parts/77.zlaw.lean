/-! THE LAW: its table is right -/
theorem sm_ck_app {pool : List ((Nat × Nat) × List Nat)} {bytes : ByteArray} : ∀ (l1 l2 : List (Option sm_I)) (pc : Nat), sm_ck pool bytes pc (l1 ++ l2) = (sm_ck pool bytes pc l1 && sm_ck pool bytes (pc + l1.length) l2) := by
  intro l1
  induction l1 with
  | nil => intro l2 pc; rfl
  | cons a l1 ih =>
    intro l2 pc
    have e : pc + (a :: l1).length = pc + 1 + l1.length := by rw [List.length_cons]; omega
    rw [e]
    cases a with
    | none => exact ih l2 (pc + 1)
    | some q =>
      show (_ && sm_ck pool bytes (pc + 1) (l1 ++ l2)) = ((_ && sm_ck pool bytes (pc + 1) l1) && _)
      rw [ih]
      simp only [Bool.and_assoc]
set_option maxRecDepth 20000 in
theorem sl_ck0 : sm_ck sl_pool code 0 sl_t0 = true := by decide +kernel
set_option maxRecDepth 20000 in
theorem sl_ck1 : sm_ck sl_pool code 130 sl_t1 = true := by decide +kernel
set_option maxRecDepth 20000 in
theorem sl_ck2 : sm_ck sl_pool code 260 sl_t2 = true := by decide +kernel
set_option maxRecDepth 20000 in
theorem sl_ck3 : sm_ck sl_pool code 390 sl_t3 = true := by decide +kernel
set_option maxRecDepth 20000 in
theorem sl_ck4 : sm_ck sl_pool code 520 sl_t4 = true := by decide +kernel
theorem sl_ck : sm_ck sl_pool code 0 sl_tab = true := by
  unfold sl_tab
  rw [sm_ck_app, sl_ck0, Bool.true_and, show 0 + sl_t0.length = 130 by decide +kernel]
  rw [sm_ck_app, sl_ck1, Bool.true_and, show 130 + sl_t1.length = 260 by decide +kernel]
  rw [sm_ck_app, sl_ck2, Bool.true_and, show 260 + sl_t2.length = 390 by decide +kernel]
  rw [sm_ck_app, sl_ck3, Bool.true_and, show 390 + sl_t3.length = 520 by decide +kernel]
  exact sl_ck4
set_option maxRecDepth 20000 in
theorem sc_goodL {K : sm_H} {mn : String} : sm_okL sc_Ts sc_sx sc_zx sc_oc K sc_cl sc_Y sc_YW sc_P sc_PW "TwoWayGrammarLaw" mn code sl_tab := sm_okL_of (pool := sl_pool) sc_PWlo sl_ck (sl_poolOk mn) (by decide +kernel)
