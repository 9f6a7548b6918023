/-! THE LAW: its table is right -/
theorem sm_ck_app {pool : List ((Nat × Nat) × List Nat)} {bytes : ByteArray} : ∀ (l1 l2 : List (Option sm_I)) (pc : Nat), sm_ck pool bytes pc (l1 ++ l2) = (sm_ck pool bytes pc l1 && sm_ck pool bytes (pc + l1.length) l2) := by
  intro l1
  induction l1 with
  | nil => intro l2 pc; rfl
  | cons a l1 ih =>
    intro l2 pc
    have e : pc + (a :: l1).length = pc + 1 + l1.length := by rw [List.length_cons]; omega
    rw [e]
    cases a with
    | none => exact ih l2 (pc + 1)
    | some q =>
      show (_ && sm_ck pool bytes (pc + 1) (l1 ++ l2)) = ((_ && sm_ck pool bytes (pc + 1) l1) && _)
      rw [ih]
      simp only [Bool.and_assoc]
set_option maxRecDepth 20000 in
theorem sl_ck0 : sm_ck sl_pool code 0 sl_t0 = true := sm_ckw_ck _ _ _ rfl (by decide +kernel)
set_option maxRecDepth 20000 in
theorem sl_ck1 : sm_ck sl_pool code 130 sl_t1 = true := sm_ckw_ck _ _ _ rfl (by decide +kernel)
set_option maxRecDepth 20000 in
theorem sl_ck2 : sm_ck sl_pool code 260 sl_t2 = true := sm_ckw_ck _ _ _ rfl (by decide +kernel)
set_option maxRecDepth 20000 in
theorem sl_ck3 : sm_ck sl_pool code 390 sl_t3 = true := sm_ckw_ck _ _ _ rfl (by decide +kernel)
set_option maxRecDepth 20000 in
theorem sl_ck4 : sm_ck sl_pool code 520 sl_t4 = true := sm_ckw_ck _ _ _ rfl (by decide +kernel)
theorem sl_ck : sm_ck sl_pool code 0 sl_tab = true := by
  unfold sl_tab
  rw [sm_ck_app, sl_ck0, Bool.true_and, show 0 + sl_t0.length = 130 by decide +kernel]
  rw [sm_ck_app, sl_ck1, Bool.true_and, show 130 + sl_t1.length = 260 by decide +kernel]
  rw [sm_ck_app, sl_ck2, Bool.true_and, show 260 + sl_t2.length = 390 by decide +kernel]
  rw [sm_ck_app, sl_ck3, Bool.true_and, show 390 + sl_t3.length = 520 by decide +kernel]
  exact sl_ck4
set_option maxRecDepth 20000 in
theorem sc_goodL {K : sm_H} {mn : String} : sm_okL sc_Ts sc_sx sc_zx sc_oc K sc_cl sc_Y sc_YW sc_P sc_PW "TwoWayGrammarLaw" mn code sl_tab := sm_okL_of (pool := sl_pool) sc_PWlo sl_ck (sl_poolOk mn) (by decide +kernel)
/-! BETWEEN THE LAW'S CALLS: MJ, an invariant of the reference's cells; the script lies at 0 -/
/-- what MJ does not look at: the class's cells, the reference's texts, its code, what is kept, the law's own array -/
def mj_wr : List (Nat × Nat) := [(6528, 13952), (13952, 13956), (14017, 14018), (14080, 14464), (20608, 20609), (20992, 20993), (21888, 21889)]
def mj_I (MJ : sm_H → Prop) : Prop := (∀ h h', MJ h → ab_Fr mj_wr h h' → MJ h') ∧ ∀ (h : sm_H) (e : sm_E), 172 ≤ h.length → MJ h → MJ (h ++ [e])
def lj_J (MJ : sm_H → Prop) (L : Nat) (xs : Nat → Int32) (h : sm_H) : Prop := MJ h ∧ 172 ≤ h.length ∧ h[0]? = some (.inl (0, L, .inl xs))
section LJJ
variable {P : Nat → Option sm_M} {PW : Nat → Option sm_MW} {sk : ab_K} {MJ : sm_H → Prop} {L : Nat} {xs : Nat → Int32} {wr : List (Nat × Nat)}
theorem lj_app {h : sm_H} {e : sm_E} (hl : sk.length ≤ h.length) (hS : ab_Sh sk h) : ab_Sh sk (h ++ [e]) := by
  intro k s hk
  have : k < sk.length := (List.getElem?_eq_some_iff.mp hk).1
  rw [List.getElem?_append_left (by omega)]
  exact hS k s hk
theorem lj_fr {h g : sm_H} (hI : mj_I MJ) (hJ : lj_J MJ L xs h) (hw : ab_sub_wr wr mj_wr = true) (hF : ab_Fr wr h g) : lj_J MJ L xs g := by
  refine ⟨hI.1 h g hJ.1 (hF.wide (fun c hc => ab_swr_ok hw hc)), by rw [hF.1]; exact hJ.2.1, ?_⟩
  have := hF.2.2 0 _ hJ.2.2
  refine this ?_
  cases hc : ab_in wr (0 * 128) with
  | false => rfl
  | true =>
    have := ab_swr_ok hw hc
    revert this
    decide
end LJJ
/-! THE LAW: its methods with handlers, its cases -/
set_option maxRecDepth 20000 in
theorem xs_len : sx_sk.length ≤ 172 := by decide +kernel
def xl_HL : List ab_V := [(3, 0, 0, []), (3, 51, 0, []), (3, 109, 0, []), (3, 171, 0, []), (1, 0, 2147483000, []), ab_unk, ab_unk, ab_unk]
/-! A CELL THAT NOBODY CAN READ: a run does not depend on it -/
def st_d : sm_E := .inl (99, 0, .inl (fun _ => 0))
def st_heapI (i : Instr) : Bool := match i with
  | .iaload | .caload | .baload | .laload | .iastore | .castore | .bastore | .lastore | .arraylength | .getfield _ | .putfield _ | .new _ | .newarray _ | .invokevirtual _ => true
  | _ => false
section STC
variable {pc : Nat} {ls : sm_L} {st : List Value} {h : sm_H} {e : sm_E}
set_option maxHeartbeats 4000000 in
theorem st_any {q : sm_I} {r : sm_R} (hn : st_heapI q.1 = false) (hs : sm_step q pc ls st h = some r) (h2 : sm_H) : (∀ pc' ls' st' h1, r = .inl (pc', ls', st', h1) → h1 = h ∧ sm_step q pc ls st h2 = some (.inl (pc', ls', st', h2))) ∧ (∀ x, r = .inr x → sm_step q pc ls st h2 = some (.inr x)) := by
  obtain ⟨i, len, rs⟩ := q
  cases i <;> first
    | (simp [st_heapI] at hn; done)
    | (simp only [sm_step, sm_bin, sm_binL, sm_loadK, sm_store1, sm_store2, sm_if, sm_nx, sm_ret, sm_callS, sm_callI, sm_call, Option.bind] at hs ⊢
       repeat' split at hs
       all_goals first
         | (cases hs; done)
         | (cases hs; refine ⟨fun _ _ _ _ z => ?_, fun _ z => ?_⟩ <;> first | (cases z; done) | (cases z; simp_all; done) | (cases z; simp_all; intro z2; first | omega | (exact absurd z2 (Int32.not_lt.mpr (by assumption))))))
theorem st_ne {a : Nat} {x : sm_E} (h0 : h[0]? = some st_d) (ha : h[a]? = some x) (hx : x ≠ st_d) : (h.set 0 e)[a]? = some x := by
  have : (0 : Nat) ≠ a := fun z => by
    subst z
    rw [h0] at ha
    cases ha
    exact hx rfl
  rw [List.getElem?_set_ne this]
  exact ha
theorem st_set {a : Nat} {x y : sm_E} (h0 : h[0]? = some st_d) (ha : h[a]? = some x) (hx : x ≠ st_d) : (h.set 0 e).set a y = (h.set a y).set 0 e ∧ (h.set a y)[0]? = some st_d := by
  have : a ≠ 0 := fun z => by
    subst z
    rw [h0] at ha
    cases ha
    exact hx rfl
  exact ⟨List.set_comm _ _ (Ne.symm this), by rw [List.getElem?_set_ne this]; exact h0⟩
theorem st_arr {t n : Nat} {c : (Nat → Int32) ⊕ (Nat → Int64) ⊕ (Nat → UInt32) ⊕ (Nat → UInt64) ⊕ (Nat → Option Nat)} (ht : t ≠ 99) : (.inl (t, n, c) : sm_E) ≠ st_d := fun z => by
  cases z
  exact ht rfl
theorem st_obj {ci : Nat} {fs : List Value} : (.inr (ci, fs) : sm_E) ≠ st_d := fun z => by cases z
theorem st_ald {t : Nat} {r : sm_R} (ht : t ≠ 99) (h0 : h[0]? = some st_d) (hs : sm_ald t pc ls st h = some r) : ∃ v s, r = .inl (pc + 1, ls, v :: s, h) ∧ sm_ald t pc ls st (h.set 0 e) = some (.inl (pc + 1, ls, v :: s, h.set 0 e)) := by
  unfold sm_ald at hs
  split at hs
  · split at hs
    · next i a r t' n f ha =>
      split at hs
      · next hc =>
        cases hs
        refine ⟨_, _, rfl, ?_⟩
        simp only [sm_ald]
        rw [st_ne h0 ha (st_arr (by rw [hc.1]; exact ht))]
        dsimp only
        rw [if_pos hc]
        rfl
      · cases hs
    · cases hs
  · cases hs
theorem st_ast {t : Nat} {g : Int32 → Int32} {r : sm_R} (ht : t ≠ 99) (h0 : h[0]? = some st_d) (hs : sm_ast t g pc ls st h = some r) : ∃ s h', r = .inl (pc + 1, ls, s, h') ∧ h'[0]? = some st_d ∧ sm_ast t g pc ls st (h.set 0 e) = some (.inl (pc + 1, ls, s, h'.set 0 e)) := by
  unfold sm_ast at hs
  split at hs
  · split at hs
    · next x i a r t' n f ha =>
      split at hs
      · next hc =>
        cases hs
        have hne := st_arr (n := n) (c := .inl f) (show t' ≠ 99 by rw [hc.1]; exact ht)
        refine ⟨_, _, rfl, (st_set (e := e) h0 ha hne).2, ?_⟩
        simp only [sm_ast]
        rw [st_ne h0 ha hne]
        dsimp only
        rw [if_pos hc, (st_set h0 ha hne).1]
        rfl
      · cases hs
    · cases hs
  · cases hs
set_option maxHeartbeats 4000000 in
theorem st_step {q : sm_I} {r : sm_R} (h0 : h[0]? = some st_d) (hs : sm_step q pc ls st h = some r) : (∃ pc' ls' st' h', r = .inl (pc', ls', st', h') ∧ h'[0]? = some st_d ∧ sm_step q pc ls st (h.set 0 e) = some (.inl (pc', ls', st', h'.set 0 e))) ∨ (∃ x, r = .inr x ∧ sm_step q pc ls st (h.set 0 e) = some (.inr x)) := by
  cases hn : st_heapI q.1 with
  | false =>
    obtain ⟨k1, k2⟩ := st_any hn hs (h.set 0 e)
    rcases r with ⟨pc', ls', st', h1⟩ | x
    · obtain ⟨rfl, k⟩ := k1 _ _ _ _ rfl
      exact Or.inl ⟨_, _, _, _, rfl, h0, k⟩
    · exact Or.inr ⟨x, rfl, k2 x rfl⟩
  | true =>
    obtain ⟨i, len, rs⟩ := q
    cases i with
    | iaload => obtain ⟨v, s, rfl, k⟩ := st_ald (e := e) (by decide) h0 hs; exact Or.inl ⟨_, _, _, _, rfl, h0, k⟩
    | caload => obtain ⟨v, s, rfl, k⟩ := st_ald (e := e) (by decide) h0 hs; exact Or.inl ⟨_, _, _, _, rfl, h0, k⟩
    | baload =>
      simp only [sm_step] at hs
      split at hs
      · next r0 hr0 =>
        cases hs
        obtain ⟨v, s, rfl, k⟩ := st_ald (e := e) (by decide) h0 hr0
        exact Or.inl ⟨_, _, _, _, rfl, h0, by simp only [sm_step]; rw [k]⟩
      · obtain ⟨v, s, rfl, k⟩ := st_ald (e := e) (by decide) h0 hs
        exact Or.inl ⟨_, _, _, _, rfl, h0, by simp only [sm_step]; rw [ab_ald34 k]; exact k⟩
    | iastore => obtain ⟨s, h', rfl, g, k⟩ := st_ast (e := e) (by decide) h0 hs; exact Or.inl ⟨_, _, _, _, rfl, g, k⟩
    | castore => obtain ⟨s, h', rfl, g, k⟩ := st_ast (e := e) (by decide) h0 hs; exact Or.inl ⟨_, _, _, _, rfl, g, k⟩
    | bastore => obtain ⟨s, h', rfl, g, k⟩ := st_ast (e := e) (by decide) h0 hs; exact Or.inl ⟨_, _, _, _, rfl, g, k⟩
    | laload =>
      simp only [sm_step, sm_aldL] at hs
      split at hs
      · split at hs
        · next i a r t' n f ha =>
          split at hs
          · next hc =>
            cases hs
            refine Or.inl ⟨_, _, _, _, rfl, h0, ?_⟩
            simp only [sm_step, sm_aldL]
            rw [st_ne h0 ha (st_arr (by rw [hc.1]; decide))]
            dsimp only
            rw [if_pos hc]
            rfl
          · cases hs
        · cases hs
      · cases hs
    | lastore =>
      simp only [sm_step, sm_astL] at hs
      split at hs
      · split at hs
        · next x i a r t' n f ha =>
          split at hs
          · next hc =>
            cases hs
            have hne := st_arr (n := n) (c := .inr (.inl f)) (show t' ≠ 99 by rw [hc.1]; decide)
            refine Or.inl ⟨_, _, _, _, rfl, (st_set (e := e) h0 ha hne).2, ?_⟩
            simp only [sm_step, sm_astL]
            rw [st_ne h0 ha hne]
            dsimp only
            rw [if_pos hc, (st_set h0 ha hne).1]
            rfl
          · cases hs
        · cases hs
      · cases hs
    | arraylength =>
      simp only [sm_step] at hs
      split at hs
      · split at hs
        · next a r t n c ha =>
          split at hs
          · next hc =>
            cases hs
            refine Or.inl ⟨_, _, _, _, rfl, h0, ?_⟩
            simp only [sm_step]
            rw [st_ne h0 ha (st_arr (fun z => by subst z; cases hc))]
            dsimp only
            rw [if_pos hc]
            rfl
          · cases hs
        · cases hs
      · cases hs
    | getfield n =>
      simp only [sm_step, sm_getf] at hs
      split at hs
      · split at hs
        · next a r k z cs ci fs ha =>
          split at hs
          · next hc =>
            split at hs
            · next v hv =>
              cases hs
              refine Or.inl ⟨_, _, _, _, rfl, h0, ?_⟩
              simp only [sm_step, sm_getf]
              rw [st_ne h0 ha st_obj]
              dsimp only
              rw [if_pos hc, hv]
              rfl
            · cases hs
          · cases hs
        · cases hs
      · cases hs
    | putfield n =>
      simp only [sm_step, sm_putf] at hs
      split at hs
      · split at hs
        · next v a r k t fin cs ci fs ha =>
          split at hs
          · next hc =>
            cases hs
            refine Or.inl ⟨_, _, _, _, rfl, (st_set (e := e) h0 ha st_obj).2, ?_⟩
            simp only [sm_step, sm_putf]
            rw [st_ne h0 ha st_obj]
            dsimp only
            rw [if_pos hc, (st_set h0 ha st_obj).1]
            rfl
          · cases hs
        · cases hs
      · cases hs
    | new n =>
      have hl : 0 < h.length := (List.getElem?_eq_some_iff.mp h0).1
      simp only [sm_step, sm_newo] at hs
      split at hs
      · split at hs
        · cases hs
        · next hc =>
          cases hs
          refine Or.inl ⟨_, _, _, _, rfl, by rw [List.getElem?_append_left hl]; exact h0, ?_⟩
          simp only [sm_step, sm_newo]
          rw [if_neg hc, List.length_set, List.set_append_left _ _ hl]
          rfl
      · cases hs
    | newarray n =>
      have hl : 0 < h.length := (List.getElem?_eq_some_iff.mp h0).1
      simp only [sm_step, sm_newa] at hs
      split at hs
      · split at hs
        · next hc =>
          cases hs
          refine Or.inl ⟨_, _, _, _, rfl, by rw [List.getElem?_append_left hl]; exact h0, ?_⟩
          simp only [sm_step, sm_newa]
          rw [if_pos hc, List.length_set, List.set_append_left _ _ hl]
          rfl
        · cases hs
      · cases hs
    | invokevirtual n =>
      simp only [sm_step, sm_callV] at hs
      split at hs
      · split at hs
        · next a as r1 hargs =>
          split at hs
          · next ci fs ha =>
            split at hs
            · next m hp =>
              simp only [sm_call] at hs
              cases hs
              refine Or.inr ⟨_, rfl, ?_⟩
              simp only [sm_step, sm_callV]
              rw [hargs]
              dsimp only
              rw [st_ne h0 ha st_obj]
              dsimp only
              rw [hp]
              rfl
            · cases hs
          · cases hs
        · cases hs
      · cases hs
    | _ => simp [st_heapI] at hn
theorem st_run {P : Nat → Option sm_M} : ∀ (n d m pc : Nat) (ls : sm_L) (st : List Value) (h : sm_H) (v : Option Value) (h' : sm_H), h[0]? = some st_d → sm_run P n d m pc ls st h = some (v, h') → h'[0]? = some st_d ∧ sm_run P n d m pc ls st (h.set 0 e) = some (v, h'.set 0 e) := by
  intro n
  induction n with
  | zero => intro d m pc ls st h v h' _ hr; simp [sm_run] at hr
  | succ n ih =>
    intro d m pc ls st h v h' h0 hr
    simp only [sm_run] at hr ⊢
    cases hP : P m with
    | none => rw [hP] at hr; cases hr
    | some M =>
      obtain ⟨a, k, tab⟩ := M
      rw [hP] at hr
      dsimp only at hr ⊢
      cases hq : tab[pc]? with
      | none => rw [hq] at hr; cases hr
      | some o =>
        cases o with
        | none => rw [hq] at hr; cases hr
        | some q =>
          rw [hq] at hr
          dsimp only at hr ⊢
          cases hs : sm_step q pc ls st h with
          | none => rw [hs] at hr; cases hr
          | some R =>
            rw [hs] at hr
            rcases st_step (e := e) h0 hs with ⟨pc1, ls1, st1, h1, rfl, g1, g2⟩ | ⟨x, rfl, g2⟩
            · rw [g2]
              exact ih _ _ _ _ _ _ _ _ g1 hr
            · rw [g2]
              rcases x with v1 | ⟨m1, as, r1⟩
              · dsimp only at hr ⊢
                split at hr
                · next hk =>
                  cases hr
                  rw [if_pos hk]
                  exact ⟨h0, rfl⟩
                · cases hr
              · dsimp only at hr ⊢
                cases d with
                | zero => cases hr
                | succ d0 =>
                  (try dsimp only at hr ⊢)
                  cases hP1 : P m1 with
                  | none => rw [hP1] at hr; cases hr
                  | some M1 =>
                    obtain ⟨nl, k1, t1⟩ := M1
                    rw [hP1] at hr
                    dsimp only at hr ⊢
                    split at hr
                    · next hc =>
                      rw [if_pos hc]
                      cases hcall : sm_run P n d0 m1 0 (sm_entry nl as) [] h with
                      | none => rw [hcall] at hr; cases hr
                      | some vr =>
                        obtain ⟨v1, h1⟩ := vr
                        rw [hcall] at hr
                        obtain ⟨k1, k2⟩ := ih _ _ _ _ _ _ _ _ h0 hcall
                        rw [k2]
                        exact ih _ _ _ _ _ _ _ _ k1 hr
                    · cases hr
end STC
/-! THE MACHINE OVER INTEGERS: an int is known by its value; what must hold on the way is gathered in a list; calls of the methods in a table are followed -/
abbrev mi_V : Type := Int ⊕ Int64 ⊕ Nat
abbrev mi_L : Type := List (Option mi_V)
/-- what was written: an int field, a long field, an int of an array, a long of an array -/
abbrev mi_U : Type := (Nat × Int) ⊕ (Nat × Int64) ⊕ (Nat × Nat × Int) ⊕ (Nat × Nat × Int64)
def mi_c (v : mi_V) : Value := match v with
  | .inl z => .int (Int32.ofInt z)
  | .inr (.inl x) => .long x
  | .inr (.inr n) => .ref n
def mi_cl (ls : mi_L) : sm_L := ls.map (Option.map mi_c)
def mi_cU (u : mi_U) : mx_U := match u with
  | .inl (c, z) => .inl (c, .int (Int32.ofInt z))
  | .inr (.inl (c, x)) => .inl (c, .long x)
  | .inr (.inr (.inl (k, i, z))) => .inr (.inl (k, i, Int32.ofInt z))
  | .inr (.inr (.inr (k, i, x))) => .inr (.inr (k, i, x))
def mi_in (z : Int) : Prop := -2147483648 ≤ z ∧ z ≤ 2147483647
def mi_ok (v : mi_V) : Prop := match v with
  | .inl z => mi_in z
  | _ => True
def mi_okL (ls : mi_L) : Prop := ∀ v, some v ∈ ls → mi_ok v
def mi_okS (st : List mi_V) : Prop := ∀ v ∈ st, mi_ok v
def mi_okO (O : List mi_U) : Prop := ∀ u ∈ O, match u with
  | .inl (_, z) => mi_in z
  | .inr (.inr (.inl (_, _, z))) => mi_in z
  | _ => True
/-- what lies in a field, in an array -/
def mi_f (h : sm_H) (c : Nat) : Int := (mx_i h c).toInt
def mi_a (h : sm_H) (k i : Nat) : Int := (mx_a h k i).toInt
def mi_ri : List mi_U → Nat → sm_H → Int
  | [], c, h => mi_f h c
  | .inl (c0, z) :: r, c, h => if c = c0 then z else mi_ri r c h
  | .inr (.inl (c0, _)) :: r, c, h => if c = c0 then 0 else mi_ri r c h
  | .inr (.inr _) :: r, c, h => mi_ri r c h
def mi_rl : List mi_U → Nat → sm_H → Int64
  | [], c, h => mx_l h c
  | .inl (c0, _) :: r, c, h => if c = c0 then 0 else mi_rl r c h
  | .inr (.inl (c0, x)) :: r, c, h => if c = c0 then x else mi_rl r c h
  | .inr (.inr _) :: r, c, h => mi_rl r c h
def mi_ra : List mi_U → Nat → Nat → sm_H → Int
  | [], k, i, h => mi_a h k i
  | .inr (.inr (.inl (k0, i0, z))) :: r, k, i, h => if k = k0 then (if i = i0 then z else mi_ra r k i h) else mi_ra r k i h
  | .inl _ :: r, k, i, h => mi_ra r k i h
  | .inr (.inl _) :: r, k, i, h => mi_ra r k i h
  | .inr (.inr (.inr _)) :: r, k, i, h => mi_ra r k i h
def mi_rb : List mi_U → Nat → Nat → sm_H → Int64
  | [], k, i, h => mx_b h k i
  | .inr (.inr (.inr (k0, i0, x))) :: r, k, i, h => if k = k0 then (if i = i0 then x else mi_rb r k i h) else mi_rb r k i h
  | .inl _ :: r, k, i, h => mi_rb r k i h
  | .inr (.inl _) :: r, k, i, h => mi_rb r k i h
  | .inr (.inr (.inl _)) :: r, k, i, h => mi_rb r k i h
def mi_lget (ls : mi_L) (i : Nat) : Option mi_V := match ls[i]? with
  | some (some v) => some v
  | _ => none
def mi_kill (ls : mi_L) (i : Nat) : mi_L := match i with
  | 0 => ls
  | j + 1 => match ls[j]? with
    | some (some (.inr (.inl _))) => ls.set j none
    | _ => ls
def mi_put1 (ls : mi_L) (i : Nat) (v : mi_V) : Option mi_L := if i < ls.length then some ((mi_kill ls i).set i (some v)) else none
def mi_put2 (ls : mi_L) (i : Nat) (v : mi_V) : Option mi_L := if i + 1 < ls.length then some (((mi_kill ls i).set i (some v)).set (i + 1) none) else none
def mi_cmp (c : ClassFile.Cond) (x y : Int) : Prop := match c with
  | .eq => x = y
  | .ne => x ≠ y
  | .lt => x < y
  | .ge => y ≤ x
  | .gt => y < x
  | .le => x ≤ y
def mi_cat (v : mi_V) : Nat := match v with
  | .inr (.inl _) => 2
  | _ => 1
/-- bounds that say something -/
def mi_bd (lo hi z : Int) : List Prop := if lo ≤ -2147483648 ∧ 2147483647 ≤ hi then [] else [lo ≤ z ∧ z ≤ hi]
def mi_bdL (lo hi : Int) (x : Int64) : List Prop := if lo ≤ -9223372036854775808 ∧ 9223372036854775807 ≤ hi then [] else [lo ≤ x.toInt ∧ x.toInt ≤ hi]
abbrev mi_R : Type := Nat × mi_L × List mi_V × List mi_U × List Prop
def mi_ld (n pc : Nat) (ls : mi_L) (st : List mi_V) (O : List mi_U) (v : Option mi_V) : Option mi_R := match v with
  | some w => some (pc + n, ls, w :: st, O, [])
  | none => none
def mi_isI (v : Option mi_V) : Option mi_V := match v with
  | some (.inl z) => some (.inl z)
  | _ => none
def mi_isL (v : Option mi_V) : Option mi_V := match v with
  | some (.inr (.inl z)) => some (.inr (.inl z))
  | _ => none
def mi_isA (v : Option mi_V) : Option mi_V := match v with
  | some (.inr (.inr z)) => some (.inr (.inr z))
  | _ => none
def mi_sto (n : Nat) (pc : Nat) (st : List mi_V) (O : List mi_U) (ls' : Option mi_L) : Option mi_R := match ls' with
  | some l => some (pc + n, l, st, O, [])
  | none => none
/-- a number out of two, as the machine makes it -/
def mi_raw (f : Int32 → Int32 → Int32) (pc : Nat) (ls : mi_L) (st : List mi_V) (O : List mi_U) : Option mi_R := match st with
  | .inl y :: .inl x :: r => some (pc + 1, ls, .inl (f (Int32.ofInt x) (Int32.ofInt y)).toInt :: r, O, [])
  | _ => none
def mi_binL (f : Int64 → Int64 → Int64) (pc : Nat) (ls : mi_L) (st : List mi_V) (O : List mi_U) : Option mi_R := match st with
  | .inr (.inl y) :: .inr (.inl x) :: r => some (pc + 1, ls, .inr (.inl (f x y)) :: r, O, [])
  | _ => none
def mi_shL (f : Int64 → Int32 → Int64) (pc : Nat) (ls : mi_L) (st : List mi_V) (O : List mi_U) : Option mi_R := match st with
  | .inl y :: .inr (.inl x) :: r => some (pc + 1, ls, .inr (.inl (f x (Int32.ofInt y))) :: r, O, [])
  | _ => none
def mi_ald (t0 : Nat) (sk : ab_K) (pc : Nat) (ls : mi_L) (st : List mi_V) (h : sm_H) (O : List mi_U) : Option mi_R := match st with
  | .inl x :: .inr (.inr a) :: r => (match mo_ak sk a with
    | some (t, n, _, _) => if t = t0 then some (pc + 1, ls, .inl (mi_ra O a x.toNat h) :: r, O, [0 ≤ x ∧ x < (n : Int)]) else none
    | none => none)
  | _ => none
def mi_if (c : ClassFile.Cond) (x y : Int) (pc : Nat) (off : Int) (ls : mi_L) (r : List mi_V) (O : List mi_U) (b : Nat) : Option mi_R := if b = 1 then some (sm_jmp pc off, ls, r, O, [mi_cmp c x y]) else some (pc + 3, ls, r, O, [mi_cmp (ab_neg c) x y])
def mi_step (sk : ab_K) (q : sm_I) (pc : Nat) (ls : mi_L) (st : List mi_V) (h : sm_H) (O : List mi_U) (b : Nat) : Option mi_R := match q with
  | (i, _, rs) => match i with
    | .iconst n => some (pc + 1, ls, .inl (Int32.ofInt n).toInt :: st, O, [])
    | .bipush n => some (pc + 2, ls, .inl (Int8.ofInt n).toInt32.toInt :: st, O, [])
    | .sipush n => some (pc + 3, ls, .inl (Int16.ofInt n).toInt32.toInt :: st, O, [])
    | .lconst n => some (pc + 1, ls, .inr (.inl (Int64.ofNat (n : Nat))) :: st, O, [])
    | .ldc _ => match rs with
      | [0, n] => some (pc + 2, ls, .inl (Int32.ofNat n).toInt :: st, O, [])
      | _ => none
    | .ldc_w _ => match rs with
      | [0, n] => some (pc + 3, ls, .inl (Int32.ofNat n).toInt :: st, O, [])
      | _ => none
    | .ldc2_w _ => match rs with
      | [n] => some (pc + 3, ls, .inr (.inl (Int64.ofNat n)) :: st, O, [])
      | _ => none
    | .iload_n k => mi_ld 1 pc ls st O (mi_isI (mi_lget ls k))
    | .iload k => mi_ld 2 pc ls st O (mi_isI (mi_lget ls k))
    | .lload_n k => mi_ld 1 pc ls st O (mi_isL (mi_lget ls k))
    | .lload k => mi_ld 2 pc ls st O (mi_isL (mi_lget ls k))
    | .aload_n k => mi_ld 1 pc ls st O (mi_isA (mi_lget ls k))
    | .aload k => mi_ld 2 pc ls st O (mi_isA (mi_lget ls k))
    | .istore_n k => match st with
      | .inl z :: r => mi_sto 1 pc r O (mi_put1 ls k (.inl z))
      | _ => none
    | .istore k => match st with
      | .inl z :: r => mi_sto 2 pc r O (mi_put1 ls k (.inl z))
      | _ => none
    | .lstore_n k => match st with
      | .inr (.inl z) :: r => mi_sto 1 pc r O (mi_put2 ls k (.inr (.inl z)))
      | _ => none
    | .lstore k => match st with
      | .inr (.inl z) :: r => mi_sto 2 pc r O (mi_put2 ls k (.inr (.inl z)))
      | _ => none
    | .iinc k n => match mi_lget ls k with
      | some (.inl z) => match mi_put1 ls k (.inl (z + (Int32.ofInt n).toInt)) with
        | some l => some (pc + 3, l, st, O, [mi_in (z + (Int32.ofInt n).toInt)])
        | none => none
      | _ => none
    | .iadd => match st with
      | .inl y :: .inl x :: r => if b = 9 then some (pc + 1, ls, .inl (Int32.ofInt x + Int32.ofInt y).toInt :: r, O, []) else some (pc + 1, ls, .inl (x + y) :: r, O, [mi_in (x + y)])
      | _ => none
    | .isub => match st with
      | .inl y :: .inl x :: r => if b = 9 then some (pc + 1, ls, .inl (Int32.ofInt x - Int32.ofInt y).toInt :: r, O, []) else some (pc + 1, ls, .inl (x - y) :: r, O, [mi_in (x - y)])
      | _ => none
    | .imul => match st with
      | .inl y :: .inl x :: r => some (pc + 1, ls, .inl (x * y) :: r, O, [mi_in (x * y)])
      | _ => none
    | .iand => mi_raw (· &&& ·) pc ls st O
    | .ior => mi_raw (· ||| ·) pc ls st O
    | .ishl => mi_raw (fun x y => x <<< (y &&& 31)) pc ls st O
    | .ishr => mi_raw (fun x y => x >>> (y &&& 31)) pc ls st O
    | .ladd => mi_binL (· + ·) pc ls st O
    | .lsub => mi_binL (· - ·) pc ls st O
    | .lmul => mi_binL (· * ·) pc ls st O
    | .land => mi_binL (· &&& ·) pc ls st O
    | .lor => mi_binL (· ||| ·) pc ls st O
    | .lxor => mi_binL (· ^^^ ·) pc ls st O
    | .lushr => mi_shL (fun x y => (x.toUInt64 >>> (y.toInt64.toUInt64 &&& Int64.toUInt64 63)).toInt64) pc ls st O
    | .lshl => mi_shL (fun x y => x <<< (y.toInt64 &&& 63)) pc ls st O
    | .lshr => mi_shL (fun x y => x >>> (y.toInt64 &&& 63)) pc ls st O
    | .lcmp => match st with
      | .inr (.inl y) :: .inr (.inl x) :: r => some (pc + 1, ls, .inl (lg_cmp x y).toInt :: r, O, [])
      | _ => none
    | .i2l => match st with
      | .inl x :: r => some (pc + 1, ls, .inr (.inl (Int32.ofInt x).toInt64) :: r, O, [])
      | _ => none
    | .l2i => match st with
      | .inr (.inl x) :: r => some (pc + 1, ls, .inl x.toInt32.toInt :: r, O, [])
      | _ => none
    | .dup => match st with
      | v :: r => if mi_cat v = 1 then some (pc + 1, ls, v :: v :: r, O, []) else none
      | _ => none
    | .pop => match st with
      | v :: r => if mi_cat v = 1 then some (pc + 1, ls, r, O, []) else none
      | _ => none
    | .dup_x1 => match st with
      | v :: w :: r => if mi_cat v = 1 ∧ mi_cat w = 1 then some (pc + 1, ls, v :: w :: v :: r, O, []) else none
      | _ => none
    | .dup_x2 => match st with
      | v :: w :: u :: r => if mi_cat v = 1 ∧ mi_cat w = 1 ∧ mi_cat u = 1 then some (pc + 1, ls, v :: w :: u :: v :: r, O, []) else none
      | _ => none
    | .dup2 => match st with
      | .inl v :: .inr (.inr w) :: r => some (pc + 1, ls, .inl v :: .inr (.inr w) :: .inl v :: .inr (.inr w) :: r, O, [])
      | _ => none
    | .goto off => some (sm_jmp pc off, ls, st, O, [])
    | .if_icmp c off => match st with
      | .inl y :: .inl x :: r => mi_if c x y pc off ls r O b
      | _ => none
    | .ifCond c off => match st with
      | .inl x :: r => mi_if c x 0 pc off ls r O b
      | _ => none
    | .tableswitch d lo hi offs => match st with
      | .inl x :: r => if b = 1000 then some (sm_jmp pc d, ls, r, O, [x < lo ∨ hi < x]) else (match offs[b]? with
        | some off => some (sm_jmp pc off, ls, r, O, [x = lo + (b : Int) ∧ x ≤ hi])
        | none => none)
      | _ => none
    | .idiv => match st with
      | .inl y :: .inl x :: r => some (pc + 1, ls, .inl (Int32.ofInt x / Int32.ofInt y).toInt :: r, O, [y ≠ 0])
      | _ => none
    | .irem => match st with
      | .inl y :: .inl x :: r => some (pc + 1, ls, .inl (Int32.ofInt x - Int32.ofInt x / Int32.ofInt y * Int32.ofInt y).toInt :: r, O, [y ≠ 0])
      | _ => none
    | .lrem => match st with
      | .inr (.inl y) :: .inr (.inl x) :: r => some (pc + 1, ls, .inr (.inl (x - x / y * y)) :: r, O, [y ≠ 0])
      | _ => none
    | .getfield _ => match st, rs with
      | .inr (.inr a) :: r, k :: z :: cs => if z = 0 then (match mo_fk sk a k cs with
        | some (t, lo, _) => some (pc + 3, ls, (if t = 0 then .inl (mi_ri O (a * 128 + k) h) else if t = 1 then .inr (.inl (mi_rl O (a * 128 + k) h)) else .inr (.inr lo.toNat)) :: r, O, [])
        | none => none) else none
      | _, _ => none
    | .putfield _ => match st, rs with
      | .inl x :: .inr (.inr a) :: r, k :: t :: _ :: cs => (match mo_fk sk a k cs with
        | some (t', lo, hi) => if t' = 0 ∧ (t = 0 ∨ t = 3) then some (pc + 3, ls, r, .inl (a * 128 + k, x) :: O, (if t = 3 then [0 ≤ x ∧ x ≤ 1] else []) ++ mi_bd lo hi x) else none
        | none => none)
      | .inr (.inl x) :: .inr (.inr a) :: r, k :: t :: _ :: cs => (match mo_fk sk a k cs with
        | some (t', lo, hi) => if t' = 1 ∧ t = 1 then some (pc + 3, ls, r, .inr (.inl (a * 128 + k, x)) :: O, mi_bdL lo hi x) else none
        | none => none)
      | _, _ => none
    | .iaload => mi_ald 0 sk pc ls st h O
    | .baload => mi_ald 3 sk pc ls st h O
    | .iastore => match st with
      | .inl y :: .inl x :: .inr (.inr a) :: r => (match mo_ak sk a with
        | some (t, n, lo, hi) => if t = 0 then some (pc + 1, ls, r, .inr (.inr (.inl (a, x.toNat, y))) :: O, [0 ≤ x ∧ x < (n : Int)] ++ mi_bd lo hi y) else none
        | none => none)
      | _ => none
    | .bastore => match st with
      | .inl y :: .inl x :: .inr (.inr a) :: r => (match mo_ak sk a with
        | some (t, n, lo, hi) => if t = 3 ∧ lo = 0 ∧ hi = 1 then some (pc + 1, ls, r, .inr (.inr (.inl (a, x.toNat, y))) :: O, [0 ≤ x ∧ x < (n : Int), 0 ≤ y ∧ y ≤ 1]) else none
        | none => none)
      | _ => none
    | .laload => match st with
      | .inl x :: .inr (.inr a) :: r => (match mo_ak sk a with
        | some (t, n, _, _) => if t = 1 then some (pc + 1, ls, .inr (.inl (mi_rb O a x.toNat h)) :: r, O, [0 ≤ x ∧ x < (n : Int)]) else none
        | none => none)
      | _ => none
    | .lastore => match st with
      | .inr (.inl y) :: .inl x :: .inr (.inr a) :: r => (match mo_ak sk a with
        | some (t, n, lo, hi) => if t = 1 then some (pc + 1, ls, r, .inr (.inr (.inr (a, x.toNat, y))) :: O, [0 ≤ x ∧ x < (n : Int)] ++ mi_bdL lo hi y) else none
        | none => none)
      | _ => none
    | _ => none
/-! calls and ends -/
def mi_args (n : Nat) (st : List mi_V) : Option (List mi_V × List mi_V) := if n ≤ st.length then some ((st.take n).reverse, st.drop n) else none
def mi_call (q : sm_I) (st : List mi_V) : Option (Nat × List mi_V × List mi_V) := match q.1, q.2.2 with
  | .invokestatic _, [_, m, n] => match mi_args n st with
    | some (as, r) => some (m, as, r)
    | none => none
  | .invokevirtual _, [_, n, ci, m] => if ci = 11 then (match mi_args (n + 1) st with
    | some (.inr (.inr a) :: as, r) => if a = 109 then some (m, .inr (.inr a) :: as, r) else none
    | _ => none) else none
  | _, _ => none
def mi_ret (q : sm_I) (k : Nat) (st : List mi_V) : Option (Option mi_V × List Prop) := match q.1, st with
  | .ireturn, [.inl z] => if k = 1 then some (some (.inl z), []) else if k = 4 then some (some (.inl z), [z = 0 ∨ z = 1]) else none
  | .lreturn, [.inr (.inl x)] => if k = 2 then some (some (.inr (.inl x)), []) else none
  | .return_, [] => if k = 0 then some (none, []) else none
  | _, _ => none
def mi_slots : List mi_V → mi_L
  | [] => []
  | v :: vs => if mi_cat v = 2 then some v :: none :: mi_slots vs else some v :: mi_slots vs
def mi_entry (n : Nat) (as : List mi_V) : mi_L := mi_slots as ++ List.replicate (n - (mi_slots as).length) none
def mi_back (v : Option mi_V) (r : List mi_V) : List mi_V := match v with
  | some x => x :: r
  | none => r
abbrev mi_F : Type := Nat × Nat × mi_L × List mi_V
/-- depth, method, place, locals, stack, what was written, callers that wait -/
abbrev mi_S : Type := Nat × Nat × Nat × mi_L × List mi_V × List mi_U × List mi_F
abbrev mi_T : Type := List (Nat × sm_M)
def mi_find : mi_T → Nat → Option sm_M
  | [], _ => none
  | e :: r, m => if e.1 = m then some e.2 else mi_find r m
/-- which instructions take one of the numbers that say the way: branches; sums and differences where it is 8, or 9 (as the machine makes them) -/
def mi_br (q : sm_I) (b : Nat) : Bool := match q.1 with
  | .if_icmp _ _ | .ifCond _ _ | .tableswitch _ _ _ _ => true
  | .iadd | .isub => b == 8 || b == 9
  | _ => false
def mi_pre (ob : List Prop) (R : Option (mi_S × List Prop)) : Option (mi_S × List Prop) := match R with
  | some (S, ob2) => some (S, ob ++ ob2)
  | none => none
def mi_path (T : mi_T) (sk : ab_K) (h : sm_H) : Nat → List Nat → mi_S → Option (mi_S × List Prop)
  | 0, _, S => some (S, [])
  | n + 1, bs, (d, m, pc, ls, st, O, F) => match mi_find T m with
    | none => none
    | some (_, k, tab) => match tab[pc]? with
      | some (some q) => match mi_step sk q pc ls st h O (bs.headD 0) with
        | some (pc', ls', st', O', ob) => mi_pre ob (mi_path T sk h n (if mi_br q (bs.headD 0) then bs.tail else bs) (d, m, pc', ls', st', O', F))
        | none => match mi_call q st with
          | some (m', as, r) => match d, mi_find T m' with
            | d' + 1, some (nl, _, _) => if (mi_slots as).length ≤ nl ∧ (r.map mi_cat).sum ≤ 8 then mi_path T sk h n bs (d', m', 0, mi_entry nl as, [], O, (m, pc, ls, r) :: F) else none
            | _, _ => none
          | none => match mi_ret q k st, F with
            | some (rv, ob), f :: F' => mi_pre ob (mi_path T sk h n bs (d + 1, f.1, f.2.1 + 3, f.2.2.1, mi_back rv f.2.2.2, O, F'))
            | _, _ => none
      | _ => none
/-! .. is the machine -/
theorem mi_ti {z : Int} (h : mi_in z) : (Int32.ofInt z).toInt = z := Int32.toInt_ofInt_of_le (by have := h.1; omega) (by have := h.2; omega)
theorem mi_inT (x : Int32) : mi_in x.toInt := ⟨by have := x.le_toInt; omega, by have := x.toInt_lt; omega⟩
theorem mi_tn {z : Int} (h : mi_in z) : (Int32.ofInt z).toNatClampNeg = z.toNat := by
  show (Int32.ofInt z).toInt.toNat = z.toNat
  rw [mi_ti h]
theorem mi_cT (x : Int32) : mi_c (.inl x.toInt) = .int x := by
  show Value.int (Int32.ofInt x.toInt) = _
  rw [Int32.ofInt_toInt]
section MIO
variable {sk : ab_K} {h : sm_H} {pc : Nat} {ls : mi_L} {st : List mi_V} {O : List mi_U}
theorem mi_okO_tl {u : mi_U} {r : List mi_U} (ho : mi_okO (u :: r)) : mi_okO r := fun v hv => ho v (List.mem_cons_of_mem _ hv)
theorem mi_ri_in (c : Nat) : ∀ O : List mi_U, mi_okO O → mi_in (mi_ri O c h) := by
  intro O
  induction O with
  | nil => intro _; exact mi_inT _
  | cons u r ih =>
    intro ho
    have ih := ih (mi_okO_tl ho)
    have h1 := ho u List.mem_cons_self
    rcases u with ⟨c0, z⟩ | ⟨c0, x⟩ | ⟨k, i, z⟩ | ⟨k, i, x⟩
    · unfold mi_ri
      split
      · exact h1
      · exact ih
    · unfold mi_ri
      split
      · exact ⟨by decide, by decide⟩
      · exact ih
    · exact ih
    · exact ih
theorem mi_ra_in (k i : Nat) : ∀ O : List mi_U, mi_okO O → mi_in (mi_ra O k i h) := by
  intro O
  induction O with
  | nil => intro _; exact mi_inT _
  | cons u r ih =>
    intro ho
    have ih := ih (mi_okO_tl ho)
    have h1 := ho u List.mem_cons_self
    rcases u with ⟨c0, z⟩ | ⟨c0, x⟩ | ⟨k0, i0, z⟩ | ⟨k0, i0, x⟩
    · exact ih
    · exact ih
    · unfold mi_ra
      split
      · split
        · exact h1
        · exact ih
      · exact ih
    · exact ih
theorem mi_ri_eq (c : Nat) : ∀ O : List mi_U, mx_ri (O.map mi_cU) c h = Int32.ofInt (mi_ri O c h) := by
  intro O
  induction O with
  | nil => exact (Int32.ofInt_toInt _).symm
  | cons u r ih =>
    rcases u with ⟨c0, z⟩ | ⟨c0, x⟩ | ⟨k, i, z⟩ | ⟨k, i, x⟩
    · show (if c = c0 then Int32.ofInt z else mx_ri (r.map mi_cU) c h) = _
      unfold mi_ri
      split
      · rfl
      · exact ih
    · show (if c = c0 then (0 : Int32) else mx_ri (r.map mi_cU) c h) = _
      unfold mi_ri
      split
      · rfl
      · exact ih
    · exact ih
    · exact ih
theorem mi_rl_eq (c : Nat) : ∀ O : List mi_U, mx_rl (O.map mi_cU) c h = mi_rl O c h := by
  intro O
  induction O with
  | nil => rfl
  | cons u r ih =>
    rcases u with ⟨c0, z⟩ | ⟨c0, x⟩ | ⟨k, i, z⟩ | ⟨k, i, x⟩
    · show (if c = c0 then (0 : Int64) else mx_rl (r.map mi_cU) c h) = _
      unfold mi_rl
      split
      · rfl
      · exact ih
    · show (if c = c0 then x else mx_rl (r.map mi_cU) c h) = _
      unfold mi_rl
      split
      · rfl
      · exact ih
    · exact ih
    · exact ih
theorem mi_ra_eq (k i : Nat) : ∀ O : List mi_U, mx_ra (O.map mi_cU) k i h = Int32.ofInt (mi_ra O k i h) := by
  intro O
  induction O with
  | nil => exact (Int32.ofInt_toInt _).symm
  | cons u r ih =>
    rcases u with ⟨c0, z⟩ | ⟨c0, x⟩ | ⟨k0, i0, z⟩ | ⟨k0, i0, x⟩
    · exact ih
    · exact ih
    · show (if k = k0 then (if i = i0 then Int32.ofInt z else mx_ra (r.map mi_cU) k i h) else mx_ra (r.map mi_cU) k i h) = _
      unfold mi_ra
      split
      · split
        · rfl
        · exact ih
      · exact ih
    · exact ih
theorem mi_rb_eq (k i : Nat) : ∀ O : List mi_U, mx_rb (O.map mi_cU) k i h = mi_rb O k i h := by
  intro O
  induction O with
  | nil => rfl
  | cons u r ih =>
    rcases u with ⟨c0, z⟩ | ⟨c0, x⟩ | ⟨k0, i0, z⟩ | ⟨k0, i0, x⟩
    · exact ih
    · exact ih
    · exact ih
    · show (if k = k0 then (if i = i0 then x else mx_rb (r.map mi_cU) k i h) else mx_rb (r.map mi_cU) k i h) = _
      unfold mi_rb
      split
      · split
        · rfl
        · exact ih
      · exact ih
theorem mi_lget_eq (i : Nat) : sm_lget (mi_cl ls) i = (mi_lget ls i).map mi_c := by
  unfold sm_lget mi_lget mi_cl
  rw [List.getElem?_map]
  cases ls[i]? with
  | none => rfl
  | some o => cases o <;> rfl
theorem mi_kill_eq (i : Nat) : sm_kill (mi_cl ls) i = mi_cl (mi_kill ls i) := by
  cases i with
  | zero => rfl
  | succ j =>
    unfold sm_kill mi_kill mi_cl
    dsimp only
    rw [List.getElem?_map]
    cases ls[j]? with
    | none => rfl
    | some o =>
      rcases o with _ | z | x | a
      · rfl
      · rfl
      · show (ls.map (Option.map mi_c)).set j none = _
        rw [List.map_set]
        rfl
      · rfl
theorem mi_put1_eq (i : Nat) (v : mi_V) : sm_put1 (mi_cl ls) i (mi_c v) = (mi_put1 ls i v).map mi_cl := by
  unfold sm_put1 mi_put1
  rw [mi_kill_eq]
  unfold mi_cl
  rw [List.length_map]
  split
  · rw [Option.map_some, List.map_set]
    rfl
  · rfl
theorem mi_put2_eq (i : Nat) (v : mi_V) : sm_put2 (mi_cl ls) i (mi_c v) = (mi_put2 ls i v).map mi_cl := by
  unfold sm_put2 mi_put2
  rw [mi_kill_eq]
  unfold mi_cl
  rw [List.length_map]
  split
  · rw [Option.map_some, List.map_set, List.map_set]
    rfl
  · rfl
theorem mi_okL_set {i : Nat} {o : Option mi_V} (hl : mi_okL ls) (ho : ∀ v, o = some v → mi_ok v) : mi_okL (ls.set i o) := fun v hv => by
  rcases List.mem_or_eq_of_mem_set hv with hv | hv
  · exact hl v hv
  · exact ho v hv.symm
theorem mi_okL_kill {i : Nat} (hl : mi_okL ls) : mi_okL (mi_kill ls i) := by
  unfold mi_kill
  split
  · exact hl
  · split
    · exact mi_okL_set hl (fun v hv => by cases hv)
    · exact hl
theorem mi_okL_put1 {i : Nat} {v : mi_V} {l : mi_L} (hl : mi_okL ls) (hv : mi_ok v) (hp : mi_put1 ls i v = some l) : mi_okL l := by
  unfold mi_put1 at hp
  split at hp
  · cases hp
    exact mi_okL_set (mi_okL_kill hl) (fun w hw => by cases hw; exact hv)
  · cases hp
theorem mi_okL_put2 {i : Nat} {v : mi_V} {l : mi_L} (hl : mi_okL ls) (hv : mi_ok v) (hp : mi_put2 ls i v = some l) : mi_okL l := by
  unfold mi_put2 at hp
  split at hp
  · cases hp
    exact mi_okL_set (mi_okL_set (mi_okL_kill hl) (fun w hw => by cases hw; exact hv)) (fun w hw => by cases hw)
  · cases hp
theorem mi_okL_get {i : Nat} {v : mi_V} (hl : mi_okL ls) (hg : mi_lget ls i = some v) : mi_ok v := by
  unfold mi_lget at hg
  split at hg
  · next w hw =>
    cases hg
    exact hl _ (List.mem_of_getElem? hw)
  · cases hg
theorem mi_okS_cons {v : mi_V} {r : List mi_V} (hv : mi_ok v) (hr : mi_okS r) : mi_okS (v :: r) := fun w hw => by
  rcases List.mem_cons.mp hw with rfl | hw
  · exact hv
  · exact hr w hw
theorem mi_okS_tl {v : mi_V} {r : List mi_V} (hs : mi_okS (v :: r)) : mi_okS r := fun w hw => hs w (List.mem_cons_of_mem _ hw)
theorem mi_okS_hd {v : mi_V} {r : List mi_V} (hs : mi_okS (v :: r)) : mi_ok v := hs v List.mem_cons_self
theorem mi_cmp_ok {c : ClassFile.Cond} {x y : Int} (hx : mi_in x) (hy : mi_in y) (hc : mi_cmp c x y) : sm_cmp c (Int32.ofInt x) (Int32.ofInt y) = true := by
  rw [ab_cmp]
  cases c <;> simp only [mi_ti hx, mi_ti hy, mi_cmp, decide_eq_true_eq, Bool.not_eq_true', decide_eq_false_iff_not, ne_eq] at hc ⊢ <;> exact hc
theorem mi_cmp_no {c : ClassFile.Cond} {x y : Int} (hx : mi_in x) (hy : mi_in y) (hc : mi_cmp (ab_neg c) x y) : sm_cmp c (Int32.ofInt x) (Int32.ofInt y) = false := by
  have := mi_cmp_ok hx hy hc
  rw [ab_cmp_neg] at this
  simpa using this
theorem mi_catv (v : mi_V) : (mi_c v).category = mi_cat v := by
  rcases v with z | x | a <;> rfl
theorem mi_none {p : Prop} (hp : p ∈ ([] : List Prop)) : p := absurd hp List.not_mem_nil
/-- what is said of one step -/
def mi_good (sk : ab_K) (q : sm_I) (pc : Nat) (ls : mi_L) (st : List mi_V) (h : sm_H) (O : List mi_U) (b : Nat) (R : mi_R) : Prop :=
  (∃ ob, mo_step sk q pc (mi_cl ls) (st.map mi_c) h (O.map mi_cU) b = some (R.1, mi_cl R.2.1, R.2.2.1.map mi_c, R.2.2.2.1.map mi_cU, ob) ∧ ∀ p ∈ ob, p) ∧ mi_okL R.2.1 ∧ mi_okS R.2.2.1 ∧ mi_okO R.2.2.2.1
theorem mi_ld_ok {q : sm_I} {b n : Nat} {R : mi_R} {v : Option mi_V} (hs : mi_ld n pc ls st O v = some R) (hl : mi_okL ls) (hst : mi_okS st) (hO : mi_okO O) (hv : ∀ w, v = some w → mi_ok w) (hm : ∀ w, v = some w → mo_step sk q pc (mi_cl ls) (st.map mi_c) h (O.map mi_cU) b = some (pc + n, mi_cl ls, mi_c w :: st.map mi_c, O.map mi_cU, [])) : mi_good sk q pc ls st h O b R := by
  unfold mi_ld at hs
  split at hs
  · next w =>
    cases hs
    exact ⟨⟨[], hm w rfl, fun p hp => mi_none hp⟩, hl, mi_okS_cons (hv w rfl) hst, hO⟩
  · cases hs
theorem mi_isI_eq {v : Option mi_V} {w : mi_V} (hv : mi_isI v = some w) : v = some w ∧ ∃ z, w = .inl z := by
  unfold mi_isI at hv
  split at hv
  · next z => cases hv; exact ⟨rfl, z, rfl⟩
  · cases hv
theorem mi_isL_eq {v : Option mi_V} {w : mi_V} (hv : mi_isL v = some w) : v = some w ∧ ∃ z, w = .inr (.inl z) := by
  unfold mi_isL at hv
  split at hv
  · next z => cases hv; exact ⟨rfl, z, rfl⟩
  · cases hv
theorem mi_isA_eq {v : Option mi_V} {w : mi_V} (hv : mi_isA v = some w) : v = some w ∧ ∃ z, w = .inr (.inr z) := by
  unfold mi_isA at hv
  split at hv
  · next z => cases hv; exact ⟨rfl, z, rfl⟩
  · cases hv
theorem mi_sto_ok {q : sm_I} {b n : Nat} {R : mi_R} {l : Option mi_L} {v : mi_V} {r : List mi_V} (hs : mi_sto n pc r O l = some R) (hst : mi_okS r) (hO : mi_okO O) (hv : ∀ w, l = some w → mi_okL w) (hm : ∀ w, l = some w → mo_step sk q pc (mi_cl ls) ((v :: r).map mi_c) h (O.map mi_cU) b = some (pc + n, mi_cl w, r.map mi_c, O.map mi_cU, [])) : mi_good sk q pc ls (v :: r) h O b R := by
  unfold mi_sto at hs
  split at hs
  · next w =>
    cases hs
    exact ⟨⟨[], hm w rfl, fun p hp => mi_none hp⟩, hv w rfl, hst, hO⟩
  · cases hs
theorem mi_bd_ok {lo hi z : Int} (hz : mi_in z) (hb : ∀ p ∈ mi_bd lo hi z, p) : lo ≤ z ∧ z ≤ hi := by
  unfold mi_bd at hb
  split at hb
  · next hc =>
    have h1 := hz.1
    have h2 := hz.2
    omega
  · exact hb _ List.mem_cons_self
theorem mi_bdL_ok {lo hi : Int} {x : Int64} (hb : ∀ p ∈ mi_bdL lo hi x, p) : lo ≤ x.toInt ∧ x.toInt ≤ hi := by
  unfold mi_bdL at hb
  split at hb
  · next hc =>
    have h1 := x.le_toInt
    have h2 := x.toInt_lt
    omega
  · exact hb _ List.mem_cons_self
theorem mi_okO_cons {u : mi_U} (hu : match u with
  | .inl (_, z) => mi_in z
  | .inr (.inr (.inl (_, _, z))) => mi_in z
  | _ => True) (ho : mi_okO O) : mi_okO (u :: O) := fun v hv => by
  rcases List.mem_cons.mp hv with rfl | hv
  · exact hu
  · exact ho v hv
end MIO
/-! one step -/
section MIP
variable {sk : ab_K} {h : sm_H} {pc : Nat} {ls : mi_L} {st : List mi_V} {O : List mi_U}
theorem mi_raw_ok {q : sm_I} {b : Nat} {R : mi_R} {f : Int32 → Int32 → Int32} (hs : mi_raw f pc ls st O = some R) (hl : mi_okL ls) (hst : mi_okS st) (hO : mi_okO O) (hm : ∀ x y r, mo_step sk q pc (mi_cl ls) (.int y :: .int x :: r) h (O.map mi_cU) b = some (pc + 1, mi_cl ls, .int (f x y) :: r, O.map mi_cU, [])) : mi_good sk q pc ls st h O b R := by
  unfold mi_raw at hs
  split at hs
  · next y x r =>
    cases hs
    refine ⟨⟨[], ?_, fun p hp => mi_none hp⟩, hl, mi_okS_cons (mi_inT _) (mi_okS_tl (mi_okS_tl hst)), hO⟩
    dsimp only
    rw [List.map_cons, List.map_cons, List.map_cons, mi_cT]
    exact hm _ _ _
  · cases hs
theorem mi_binL_ok {q : sm_I} {b : Nat} {R : mi_R} {f : Int64 → Int64 → Int64} (hs : mi_binL f pc ls st O = some R) (hl : mi_okL ls) (hst : mi_okS st) (hO : mi_okO O) (hm : ∀ x y r, mo_step sk q pc (mi_cl ls) (.long y :: .long x :: r) h (O.map mi_cU) b = some (pc + 1, mi_cl ls, .long (f x y) :: r, O.map mi_cU, [])) : mi_good sk q pc ls st h O b R := by
  unfold mi_binL at hs
  split at hs
  · next y x r =>
    cases hs
    exact ⟨⟨[], hm _ _ _, fun p hp => mi_none hp⟩, hl, mi_okS_cons trivial (mi_okS_tl (mi_okS_tl hst)), hO⟩
  · cases hs
theorem mi_shL_ok {q : sm_I} {b : Nat} {R : mi_R} {f : Int64 → Int32 → Int64} (hs : mi_shL f pc ls st O = some R) (hl : mi_okL ls) (hst : mi_okS st) (hO : mi_okO O) (hm : ∀ x y r, mo_step sk q pc (mi_cl ls) (.int y :: .long x :: r) h (O.map mi_cU) b = some (pc + 1, mi_cl ls, .long (f x y) :: r, O.map mi_cU, [])) : mi_good sk q pc ls st h O b R := by
  unfold mi_shL at hs
  split at hs
  · next y x r =>
    cases hs
    exact ⟨⟨[], hm _ _ _, fun p hp => mi_none hp⟩, hl, mi_okS_cons trivial (mi_okS_tl (mi_okS_tl hst)), hO⟩
  · cases hs
theorem mi_ald_ok {q : sm_I} {b : Nat} {R : mi_R} {t0 : Nat} (hs : mi_ald t0 sk pc ls st h O = some R) (hl : mi_okL ls) (hst : mi_okS st) (hO : mi_okO O) (ho : ∀ p ∈ R.2.2.2.2, p) (hm : ∀ (x : Int32) (a n : Nat) (lo hi : Int) (r : List Value), mo_ak sk a = some (t0, n, lo, hi) → mo_step sk q pc (mi_cl ls) (.int x :: .ref a :: r) h (O.map mi_cU) b = some (pc + 1, mi_cl ls, .int (mx_ra (O.map mi_cU) a x.toNatClampNeg h) :: r, O.map mi_cU, [0 ≤ x.toInt ∧ x.toInt < (n : Int)])) : mi_good sk q pc ls st h O b R := by
  unfold mi_ald at hs
  split at hs
  · next x a r =>
    split at hs
    · next t n lo hi hak =>
      split at hs
      · next ht =>
        cases hs
        subst ht
        have hx : mi_in x := mi_okS_hd hst
        have h1 := ho _ List.mem_cons_self
        refine ⟨⟨[0 ≤ (Int32.ofInt x).toInt ∧ (Int32.ofInt x).toInt < (n : Int)], ?_, ?_⟩, hl, mi_okS_cons (mi_ra_in _ _ O hO) (mi_okS_tl (mi_okS_tl hst)), hO⟩
        · have := hm (Int32.ofInt x) a n lo hi (r.map mi_c) hak
          rw [mi_ra_eq, mi_tn hx] at this
          exact this
        · intro p hp
          rw [List.mem_singleton.mp hp, mi_ti hx]
          exact h1
      · cases hs
    · cases hs
  · cases hs
theorem mi_if_ok {q : sm_I} {b : Nat} {R : mi_R} {c : ClassFile.Cond} {x y off : Int} {r : List mi_V} (hs : mi_if c x y pc off ls r O b = some R) (hx : mi_in x) (hy : mi_in y) (hl : mi_okL ls) (hst : mi_okS r) (hO : mi_okO O) (ho : ∀ p ∈ R.2.2.2.2, p) (hm : mo_step sk q pc (mi_cl ls) (st.map mi_c) h (O.map mi_cU) b = if b = 1 then some (sm_jmp pc off, mi_cl ls, r.map mi_c, O.map mi_cU, [sm_cmp c (Int32.ofInt x) (Int32.ofInt y) = true]) else some (pc + 3, mi_cl ls, r.map mi_c, O.map mi_cU, [sm_cmp c (Int32.ofInt x) (Int32.ofInt y) = false])) : mi_good sk q pc ls st h O b R := by
  unfold mi_if at hs
  split at hs
  · next hb =>
    cases hs
    have h1 := ho _ List.mem_cons_self
    rw [if_pos hb] at hm
    refine ⟨⟨_, hm, fun p hp => ?_⟩, hl, hst, hO⟩
    rw [List.mem_singleton.mp hp]
    exact mi_cmp_ok hx hy h1
  · next hb =>
    cases hs
    have h1 := ho _ List.mem_cons_self
    rw [if_neg hb] at hm
    refine ⟨⟨_, hm, fun p hp => ?_⟩, hl, hst, hO⟩
    rw [List.mem_singleton.mp hp]
    exact mi_cmp_no hx hy h1
set_option maxHeartbeats 4000000 in
theorem mi_step_ok {q : sm_I} {b : Nat} {R : mi_R} (hs : mi_step sk q pc ls st h O b = some R) (hl : mi_okL ls) (hst : mi_okS st) (hO : mi_okO O) (ho : ∀ p ∈ R.2.2.2.2, p) : mi_good sk q pc ls st h O b R := by
  obtain ⟨i, len, rs⟩ := q
  have pr : ∀ {n : Nat} {v : mi_V}, mi_ok v → mo_step sk (i, len, rs) pc (mi_cl ls) (st.map mi_c) h (O.map mi_cU) b = some (pc + n, mi_cl ls, mi_c v :: st.map mi_c, O.map mi_cU, []) → mi_good sk (i, len, rs) pc ls st h O b (pc + n, ls, v :: st, O, []) := fun hv hm => ⟨⟨[], hm, fun p hp => mi_none hp⟩, hl, mi_okS_cons hv hst, hO⟩
  cases i with
  | iconst n =>
    simp only [mi_step] at hs
    cases hs
    exact pr (mi_inT _) (by rw [mi_cT]; rfl)
  | bipush n =>
    simp only [mi_step] at hs
    cases hs
    exact pr (mi_inT _) (by rw [mi_cT]; rfl)
  | sipush n =>
    simp only [mi_step] at hs
    cases hs
    exact pr (mi_inT _) (by rw [mi_cT]; rfl)
  | lconst n =>
    simp only [mi_step] at hs
    cases hs
    exact pr trivial rfl
  | ldc n =>
    simp only [mi_step] at hs
    split at hs
    · cases hs
      exact pr (mi_inT _) (by rw [mi_cT]; rfl)
    · cases hs
  | ldc_w n =>
    simp only [mi_step] at hs
    split at hs
    · cases hs
      exact pr (mi_inT _) (by rw [mi_cT]; rfl)
    · cases hs
  | ldc2_w n =>
    simp only [mi_step] at hs
    split at hs
    · cases hs
      exact pr trivial rfl
    · cases hs
  | iload_n k =>
    simp only [mi_step] at hs
    refine mi_ld_ok hs hl hst hO (fun w hw => mi_okL_get hl (mi_isI_eq hw).1) (fun w hw => ?_)
    obtain ⟨e, z, rfl⟩ := mi_isI_eq hw
    simp only [mo_step, mx_pureI, if_true, sm_step, sm_loadK, mi_lget_eq, e, Option.map_some, mi_c, sm_isI, sm_nx]
  | iload k =>
    simp only [mi_step] at hs
    refine mi_ld_ok hs hl hst hO (fun w hw => mi_okL_get hl (mi_isI_eq hw).1) (fun w hw => ?_)
    obtain ⟨e, z, rfl⟩ := mi_isI_eq hw
    simp only [mo_step, mx_pureI, if_true, sm_step, sm_loadK, mi_lget_eq, e, Option.map_some, mi_c, sm_isI, sm_nx]
  | lload_n k =>
    simp only [mi_step] at hs
    refine mi_ld_ok hs hl hst hO (fun w hw => mi_okL_get hl (mi_isL_eq hw).1) (fun w hw => ?_)
    obtain ⟨e, z, rfl⟩ := mi_isL_eq hw
    simp only [mo_step, mx_pureI, if_true, sm_step, sm_loadK, mi_lget_eq, e, Option.map_some, mi_c, sm_isL, sm_nx]
  | lload k =>
    simp only [mi_step] at hs
    refine mi_ld_ok hs hl hst hO (fun w hw => mi_okL_get hl (mi_isL_eq hw).1) (fun w hw => ?_)
    obtain ⟨e, z, rfl⟩ := mi_isL_eq hw
    simp only [mo_step, mx_pureI, if_true, sm_step, sm_loadK, mi_lget_eq, e, Option.map_some, mi_c, sm_isL, sm_nx]
  | aload_n k =>
    simp only [mi_step] at hs
    refine mi_ld_ok hs hl hst hO (fun w hw => mi_okL_get hl (mi_isA_eq hw).1) (fun w hw => ?_)
    obtain ⟨e, z, rfl⟩ := mi_isA_eq hw
    simp only [mo_step, mx_pureI, if_true, sm_step, sm_loadK, mi_lget_eq, e, Option.map_some, mi_c, sm_isA, sm_nx]
  | aload k =>
    simp only [mi_step] at hs
    refine mi_ld_ok hs hl hst hO (fun w hw => mi_okL_get hl (mi_isA_eq hw).1) (fun w hw => ?_)
    obtain ⟨e, z, rfl⟩ := mi_isA_eq hw
    simp only [mo_step, mx_pureI, if_true, sm_step, sm_loadK, mi_lget_eq, e, Option.map_some, mi_c, sm_isA, sm_nx]
  | istore_n k =>
    simp only [mi_step] at hs
    split at hs
    · next z r =>
      refine mi_sto_ok hs (mi_okS_tl hst) hO (fun w hw => mi_okL_put1 hl (mi_okS_hd hst) hw) (fun w hw => ?_)
      have e := mi_put1_eq (ls := ls) k (.inl z)
      rw [hw] at e
      simp only [mi_c, Option.map_some] at e
      simp only [mo_step, mx_pureI, if_true, sm_step, sm_store1, List.map_cons, mi_c, sm_isI, e, Option.bind, sm_nx]
    · cases hs
  | istore k =>
    simp only [mi_step] at hs
    split at hs
    · next z r =>
      refine mi_sto_ok hs (mi_okS_tl hst) hO (fun w hw => mi_okL_put1 hl (mi_okS_hd hst) hw) (fun w hw => ?_)
      have e := mi_put1_eq (ls := ls) k (.inl z)
      rw [hw] at e
      simp only [mi_c, Option.map_some] at e
      simp only [mo_step, mx_pureI, if_true, sm_step, sm_store1, List.map_cons, mi_c, sm_isI, e, Option.bind, sm_nx]
    · cases hs
  | lstore_n k =>
    simp only [mi_step] at hs
    split at hs
    · next z r =>
      refine mi_sto_ok hs (mi_okS_tl hst) hO (fun w hw => mi_okL_put2 hl (mi_okS_hd hst) hw) (fun w hw => ?_)
      have e := mi_put2_eq (ls := ls) k (.inr (.inl z))
      rw [hw] at e
      simp only [mi_c, Option.map_some] at e
      simp only [mo_step, mx_pureI, if_true, sm_step, sm_store2, List.map_cons, mi_c, e, Option.bind, sm_nx]
    · cases hs
  | lstore k =>
    simp only [mi_step] at hs
    split at hs
    · next z r =>
      refine mi_sto_ok hs (mi_okS_tl hst) hO (fun w hw => mi_okL_put2 hl (mi_okS_hd hst) hw) (fun w hw => ?_)
      have e := mi_put2_eq (ls := ls) k (.inr (.inl z))
      rw [hw] at e
      simp only [mi_c, Option.map_some] at e
      simp only [mo_step, mx_pureI, if_true, sm_step, sm_store2, List.map_cons, mi_c, e, Option.bind, sm_nx]
    · cases hs
  | iinc k n =>
    simp only [mi_step] at hs
    split at hs
    · next z hz =>
      split at hs
      · next l hw =>
        cases hs
        have h1 := ho _ List.mem_cons_self
        refine ⟨⟨[], ?_, fun p hp => mi_none hp⟩, mi_okL_put1 (v := .inl (z + (Int32.ofInt n).toInt)) hl h1 hw, hst, hO⟩
        have e := mi_put1_eq (ls := ls) k (.inl (z + (Int32.ofInt n).toInt))
        rw [hw] at e
        simp only [mi_c, Option.map_some, Int32.ofInt_add, Int32.ofInt_toInt] at e
        simp only [mo_step, mx_pureI, if_true, sm_step, mi_lget_eq, hz, Option.map_some, mi_c, e, Option.bind, sm_nx]
      · cases hs
    · cases hs
  | iadd =>
    simp only [mi_step] at hs
    split at hs
    · next y x r =>
      split at hs
      · cases hs
        refine ⟨⟨[], ?_, fun p hp => mi_none hp⟩, hl, mi_okS_cons (mi_inT _) (mi_okS_tl (mi_okS_tl hst)), hO⟩
        dsimp only
        rw [List.map_cons, List.map_cons, List.map_cons, mi_cT]
        rfl
      · cases hs
        refine ⟨⟨[], ?_, fun p hp => mi_none hp⟩, hl, mi_okS_cons (ho _ List.mem_cons_self) (mi_okS_tl (mi_okS_tl hst)), hO⟩
        simp only [mo_step, mx_pureI, if_true, sm_step, sm_bin, List.map_cons, mi_c, sm_nx, Int32.ofInt_add]
    · cases hs
  | isub =>
    simp only [mi_step] at hs
    split at hs
    · next y x r =>
      split at hs
      · cases hs
        refine ⟨⟨[], ?_, fun p hp => mi_none hp⟩, hl, mi_okS_cons (mi_inT _) (mi_okS_tl (mi_okS_tl hst)), hO⟩
        dsimp only
        rw [List.map_cons, List.map_cons, List.map_cons, mi_cT]
        rfl
      · cases hs
        refine ⟨⟨[], ?_, fun p hp => mi_none hp⟩, hl, mi_okS_cons (ho _ List.mem_cons_self) (mi_okS_tl (mi_okS_tl hst)), hO⟩
        simp only [mo_step, mx_pureI, if_true, sm_step, sm_bin, List.map_cons, mi_c, sm_nx, Int32.ofInt_sub]
    · cases hs
  | imul =>
    simp only [mi_step] at hs
    split at hs
    · next y x r =>
      cases hs
      refine ⟨⟨[], ?_, fun p hp => mi_none hp⟩, hl, mi_okS_cons (ho _ List.mem_cons_self) (mi_okS_tl (mi_okS_tl hst)), hO⟩
      simp only [mo_step, mx_pureI, if_true, sm_step, sm_bin, List.map_cons, mi_c, sm_nx, Int32.ofInt_mul]
    · cases hs
  | iand => simp only [mi_step] at hs; exact mi_raw_ok hs hl hst hO (fun _ _ _ => rfl)
  | ior => simp only [mi_step] at hs; exact mi_raw_ok hs hl hst hO (fun _ _ _ => rfl)
  | ishl => simp only [mi_step] at hs; exact mi_raw_ok hs hl hst hO (fun _ _ _ => rfl)
  | ishr => simp only [mi_step] at hs; exact mi_raw_ok hs hl hst hO (fun _ _ _ => rfl)
  | ladd => simp only [mi_step] at hs; exact mi_binL_ok hs hl hst hO (fun _ _ _ => rfl)
  | lsub => simp only [mi_step] at hs; exact mi_binL_ok hs hl hst hO (fun _ _ _ => rfl)
  | lmul => simp only [mi_step] at hs; exact mi_binL_ok hs hl hst hO (fun _ _ _ => rfl)
  | land => simp only [mi_step] at hs; exact mi_binL_ok hs hl hst hO (fun _ _ _ => rfl)
  | lor => simp only [mi_step] at hs; exact mi_binL_ok hs hl hst hO (fun _ _ _ => rfl)
  | lxor => simp only [mi_step] at hs; exact mi_binL_ok hs hl hst hO (fun _ _ _ => rfl)
  | lushr => simp only [mi_step] at hs; exact mi_shL_ok hs hl hst hO (fun _ _ _ => rfl)
  | lshl => simp only [mi_step] at hs; exact mi_shL_ok hs hl hst hO (fun _ _ _ => rfl)
  | lshr => simp only [mi_step] at hs; exact mi_shL_ok hs hl hst hO (fun _ _ _ => rfl)
  | lcmp =>
    simp only [mi_step] at hs
    split at hs
    · next y x r =>
      cases hs
      refine ⟨⟨[], ?_, fun p hp => mi_none hp⟩, hl, mi_okS_cons (mi_inT _) (mi_okS_tl (mi_okS_tl hst)), hO⟩
      dsimp only
      rw [List.map_cons, List.map_cons, List.map_cons, mi_cT]
      rfl
    · cases hs
  | i2l =>
    simp only [mi_step] at hs
    split at hs
    · next x r =>
      cases hs
      exact ⟨⟨[], rfl, fun p hp => mi_none hp⟩, hl, mi_okS_cons trivial (mi_okS_tl hst), hO⟩
    · cases hs
  | l2i =>
    simp only [mi_step] at hs
    split at hs
    · next x r =>
      cases hs
      refine ⟨⟨[], ?_, fun p hp => mi_none hp⟩, hl, mi_okS_cons (mi_inT _) (mi_okS_tl hst), hO⟩
      dsimp only
      rw [List.map_cons, List.map_cons, mi_cT]
      rfl
    · cases hs
  | dup =>
    simp only [mi_step] at hs
    split at hs
    · next v r =>
      split at hs
      · next hc =>
        cases hs
        refine ⟨⟨[], ?_, fun p hp => mi_none hp⟩, hl, mi_okS_cons (mi_okS_hd hst) hst, hO⟩
        simp only [mo_step, mx_pureI, if_true, sm_step, List.map_cons, mi_catv, hc, sm_nx]
      · cases hs
    · cases hs
  | pop =>
    simp only [mi_step] at hs
    split at hs
    · next v r =>
      split at hs
      · next hc =>
        cases hs
        refine ⟨⟨[], ?_, fun p hp => mi_none hp⟩, hl, mi_okS_tl hst, hO⟩
        simp only [mo_step, mx_pureI, if_true, sm_step, List.map_cons, mi_catv, hc, sm_nx]
      · cases hs
    · cases hs
  | dup_x1 =>
    simp only [mi_step] at hs
    split at hs
    · next v w r =>
      split at hs
      · next hc =>
        cases hs
        refine ⟨⟨[], ?_, fun p hp => mi_none hp⟩, hl, mi_okS_cons (mi_okS_hd hst) (mi_okS_cons (mi_okS_hd (mi_okS_tl hst)) (mi_okS_cons (mi_okS_hd hst) (mi_okS_tl (mi_okS_tl hst)))), hO⟩
        simp only [mo_step, mx_pureI, if_true, sm_step, List.map_cons, mi_catv, hc.1, hc.2, and_self, sm_nx]
      · cases hs
    · cases hs
  | dup_x2 =>
    simp only [mi_step] at hs
    split at hs
    · next v w u r =>
      split at hs
      · next hc =>
        cases hs
        have k1 := mi_okS_hd hst
        have k2 := mi_okS_hd (mi_okS_tl hst)
        have k3 := mi_okS_tl (mi_okS_tl hst)
        refine ⟨⟨[], ?_, fun p hp => mi_none hp⟩, hl, mi_okS_cons k1 (mi_okS_cons k2 (mi_okS_cons (mi_okS_hd k3) (mi_okS_cons k1 (mi_okS_tl k3)))), hO⟩
        simp only [mo_step, mx_pureI, if_true, sm_step, List.map_cons, mi_catv, hc.1, hc.2.1, hc.2.2, and_self, sm_nx]
      · cases hs
    · cases hs
  | dup2 =>
    simp only [mi_step] at hs
    split at hs
    · next v w r =>
      cases hs
      have k1 := mi_okS_hd hst
      have k2 := mi_okS_hd (mi_okS_tl hst)
      exact ⟨⟨[], rfl, fun p hp => mi_none hp⟩, hl, mi_okS_cons k1 (mi_okS_cons k2 hst), hO⟩
    · cases hs
  | goto off =>
    simp only [mi_step] at hs
    cases hs
    exact ⟨⟨[], rfl, fun p hp => mi_none hp⟩, hl, hst, hO⟩
  | if_icmp c off =>
    simp only [mi_step] at hs
    split at hs
    · next y x r => exact mi_if_ok hs (mi_okS_hd (mi_okS_tl hst)) (mi_okS_hd hst) hl (mi_okS_tl (mi_okS_tl hst)) hO ho rfl
    · cases hs
  | ifCond c off =>
    simp only [mi_step] at hs
    split at hs
    · next x r => exact mi_if_ok (y := 0) hs (mi_okS_hd hst) ⟨by decide, by decide⟩ hl (mi_okS_tl hst) hO ho rfl
    · cases hs
  | tableswitch d lo hi offs =>
    simp only [mi_step] at hs
    split at hs
    · next x r =>
      have hx : mi_in x := mi_okS_hd hst
      split at hs
      · next hb =>
        cases hs
        have h1 := ho _ List.mem_cons_self
        refine ⟨⟨[(Int32.ofInt x).toInt < lo ∨ hi < (Int32.ofInt x).toInt], ?_, fun p hp => ?_⟩, hl, mi_okS_tl hst, hO⟩
        · simp only [mo_step, List.map_cons, mi_c, hb, if_true]
        · rw [List.mem_singleton.mp hp, mi_ti hx]
          exact h1
      · next hb =>
        split at hs
        · next off hoff =>
          cases hs
          have h1 := ho _ List.mem_cons_self
          refine ⟨⟨[(Int32.ofInt x).toInt = lo + (b : Int) ∧ (Int32.ofInt x).toInt ≤ hi], ?_, fun p hp => ?_⟩, hl, mi_okS_tl hst, hO⟩
          · simp only [mo_step, List.map_cons, mi_c]
            rw [if_neg hb, hoff]
          · rw [List.mem_singleton.mp hp, mi_ti hx]
            exact h1
        · cases hs
    · cases hs
  | idiv =>
    simp only [mi_step] at hs
    split at hs
    · next y x r =>
      cases hs
      have h1 := ho _ List.mem_cons_self
      have hy : mi_in y := mi_okS_hd hst
      refine ⟨⟨[Int32.ofInt y ≠ 0], ?_, fun p hp => ?_⟩, hl, mi_okS_cons (mi_inT _) (mi_okS_tl (mi_okS_tl hst)), hO⟩
      · dsimp only
        rw [List.map_cons, List.map_cons, List.map_cons, mi_cT]
        rfl
      · rw [List.mem_singleton.mp hp]
        intro e
        have e2 := mi_ti hy
        rw [e] at e2
        exact h1 e2.symm
    · cases hs
  | irem =>
    simp only [mi_step] at hs
    split at hs
    · next y x r =>
      cases hs
      have h1 := ho _ List.mem_cons_self
      have hy : mi_in y := mi_okS_hd hst
      refine ⟨⟨[Int32.ofInt y ≠ 0], ?_, fun p hp => ?_⟩, hl, mi_okS_cons (mi_inT _) (mi_okS_tl (mi_okS_tl hst)), hO⟩
      · dsimp only
        rw [List.map_cons, List.map_cons, List.map_cons, mi_cT]
        rfl
      · rw [List.mem_singleton.mp hp]
        intro e
        have e2 := mi_ti hy
        rw [e] at e2
        exact h1 e2.symm
    · cases hs
  | lrem =>
    simp only [mi_step] at hs
    split at hs
    · next y x r =>
      cases hs
      exact ⟨⟨_, rfl, ho⟩, hl, mi_okS_cons trivial (mi_okS_tl (mi_okS_tl hst)), hO⟩
    · cases hs
  | getfield n =>
    simp only [mi_step] at hs
    split at hs
    · next a r k z cs =>
      split at hs
      · next hz =>
        split at hs
        · next t lo hi hfk =>
          cases hs
          refine ⟨⟨[], ?_, fun p hp => mi_none hp⟩, hl, mi_okS_cons ?_ (mi_okS_tl hst), hO⟩
          · simp only [mo_step, List.map_cons, mi_c]
            rw [if_pos hz, hfk]
            dsimp only
            rw [mi_ri_eq, mi_rl_eq]
            split
            · rfl
            · split <;> rfl
          · split
            · exact mi_ri_in _ O hO
            · split <;> trivial
        · cases hs
      · cases hs
    · cases hs
  | putfield n =>
    simp only [mi_step] at hs
    split at hs
    · next x a r k t fin cs =>
      split at hs
      · next t' lo hi hfk =>
        split at hs
        · next hc =>
          cases hs
          have hx : mi_in x := mi_okS_hd hst
          have h2 := mi_bd_ok hx (fun p hp => ho p (List.mem_append_right _ hp))
          refine ⟨⟨[lo ≤ (Int32.ofInt x).toInt ∧ (Int32.ofInt x).toInt ≤ hi, t = 3 → 0 ≤ (Int32.ofInt x).toInt ∧ (Int32.ofInt x).toInt ≤ 1], ?_, fun p hp => ?_⟩, hl, mi_okS_tl (mi_okS_tl hst), mi_okO_cons hx hO⟩
          · simp only [mo_step, List.map_cons, mi_c]
            rw [hfk]
            dsimp only
            rw [if_pos hc]
            rfl
          · rcases List.mem_cons.mp hp with rfl | hp
            · rw [mi_ti hx]; exact h2
            · rw [List.mem_singleton.mp hp, mi_ti hx]
              intro ht
              exact ho _ (List.mem_append_left _ (by rw [if_pos ht]; exact List.mem_cons_self))
        · cases hs
      · cases hs
    · next x a r k t fin cs =>
      split at hs
      · next t' lo hi hfk =>
        split at hs
        · next hc =>
          cases hs
          have h2 := mi_bdL_ok ho
          refine ⟨⟨[lo ≤ x.toInt ∧ x.toInt ≤ hi], ?_, fun p hp => ?_⟩, hl, mi_okS_tl (mi_okS_tl hst), mi_okO_cons trivial hO⟩
          · simp only [mo_step, List.map_cons, mi_c]
            rw [hfk]
            dsimp only
            rw [if_pos hc]
            rfl
          · rw [List.mem_singleton.mp hp]
            exact h2
        · cases hs
      · cases hs
    · cases hs
  | iaload =>
    simp only [mi_step] at hs
    refine mi_ald_ok hs hl hst hO ho (fun x a n lo hi r hak => ?_)
    simp only [mo_step]
    rw [hak]
    rfl
  | baload =>
    simp only [mi_step] at hs
    refine mi_ald_ok hs hl hst hO ho (fun x a n lo hi r hak => ?_)
    simp only [mo_step]
    rw [hak]
    rfl
  | iastore =>
    simp only [mi_step] at hs
    split at hs
    · next y x a r =>
      split at hs
      · next t n lo hi hak =>
        split at hs
        · next ht =>
          cases hs
          have hy : mi_in y := mi_okS_hd hst
          have hx : mi_in x := mi_okS_hd (mi_okS_tl hst)
          have h1 := ho _ (List.mem_append_left _ List.mem_cons_self)
          have h2 := mi_bd_ok hy (fun p hp => ho p (List.mem_append_right _ hp))
          refine ⟨⟨[0 ≤ (Int32.ofInt x).toInt ∧ (Int32.ofInt x).toInt < (n : Int), lo ≤ (Int32.ofInt y).toInt ∧ (Int32.ofInt y).toInt ≤ hi], ?_, fun p hp => ?_⟩, hl, mi_okS_tl (mi_okS_tl (mi_okS_tl hst)), mi_okO_cons hy hO⟩
          · simp only [mo_step, List.map_cons, mi_c]
            rw [hak]
            dsimp only
            rw [if_pos ht, mi_tn hx]
            rfl
          · rcases List.mem_cons.mp hp with rfl | hp
            · rw [mi_ti hx]; exact h1
            · rw [List.mem_singleton.mp hp, mi_ti hy]; exact h2
        · cases hs
      · cases hs
    · cases hs
  | bastore =>
    simp only [mi_step] at hs
    split at hs
    · next y x a r =>
      split at hs
      · next t n lo hi hak =>
        split at hs
        · next ht =>
          cases hs
          obtain ⟨ht, rfl, rfl⟩ := ht
          have hy : mi_in y := mi_okS_hd hst
          have hx : mi_in x := mi_okS_hd (mi_okS_tl hst)
          have h1 := ho _ List.mem_cons_self
          have h2 := ho _ (List.mem_cons_of_mem _ List.mem_cons_self)
          have ey : Int32.ofInt y &&& 1 = Int32.ofInt y := by
            have hc : y = 0 ∨ y = 1 := by omega
            rcases hc with rfl | rfl <;> rfl
          refine ⟨⟨[0 ≤ (Int32.ofInt x).toInt ∧ (Int32.ofInt x).toInt < (n : Int), 0 ≤ (Int32.ofInt y).toInt ∧ (Int32.ofInt y).toInt ≤ 1], ?_, fun p hp => ?_⟩, hl, mi_okS_tl (mi_okS_tl (mi_okS_tl hst)), mi_okO_cons hy hO⟩
          · simp only [mo_step, List.map_cons, mi_c]
            rw [hak]
            dsimp only
            rw [if_pos ht, mi_tn hx, ey]
            rfl
          · rcases List.mem_cons.mp hp with rfl | hp
            · rw [mi_ti hx]; exact h1
            · rw [List.mem_singleton.mp hp, mi_ti hy]; exact h2
        · cases hs
      · cases hs
    · cases hs
  | laload =>
    simp only [mi_step] at hs
    split at hs
    · next x a r =>
      split at hs
      · next t n lo hi hak =>
        split at hs
        · next ht =>
          cases hs
          have hx : mi_in x := mi_okS_hd hst
          have h1 := ho _ List.mem_cons_self
          refine ⟨⟨[0 ≤ (Int32.ofInt x).toInt ∧ (Int32.ofInt x).toInt < (n : Int)], ?_, fun p hp => ?_⟩, hl, mi_okS_cons trivial (mi_okS_tl (mi_okS_tl hst)), hO⟩
          · simp only [mo_step, List.map_cons, mi_c]
            rw [hak]
            dsimp only
            rw [if_pos ht, mi_tn hx, mi_rb_eq]
          · rw [List.mem_singleton.mp hp, mi_ti hx]; exact h1
        · cases hs
      · cases hs
    · cases hs
  | lastore =>
    simp only [mi_step] at hs
    split at hs
    · next y x a r =>
      split at hs
      · next t n lo hi hak =>
        split at hs
        · next ht =>
          cases hs
          have hx : mi_in x := mi_okS_hd (mi_okS_tl hst)
          have h1 := ho _ (List.mem_append_left _ List.mem_cons_self)
          have h2 := mi_bdL_ok (fun p hp => ho p (List.mem_append_right _ hp))
          refine ⟨⟨[0 ≤ (Int32.ofInt x).toInt ∧ (Int32.ofInt x).toInt < (n : Int), lo ≤ y.toInt ∧ y.toInt ≤ hi], ?_, fun p hp => ?_⟩, hl, mi_okS_tl (mi_okS_tl (mi_okS_tl hst)), mi_okO_cons trivial hO⟩
          · simp only [mo_step, List.map_cons, mi_c]
            rw [hak]
            dsimp only
            rw [if_pos ht, mi_tn hx]
            rfl
          · rcases List.mem_cons.mp hp with rfl | hp
            · rw [mi_ti hx]; exact h1
            · rw [List.mem_singleton.mp hp]; exact h2
        · cases hs
      · cases hs
    · cases hs
  | _ => simp [mi_step] at hs
end MIP
/-! a path, calls and ends -/
def mi_cF (f : mi_F) : ab_CF := (f.1, f.2.1, mi_cl f.2.2.1, f.2.2.2.map mi_c)
def mi_okF (F : List mi_F) : Prop := ∀ f ∈ F, mi_okL f.2.2.1 ∧ mi_okS f.2.2.2
def mi_ap (O : List mi_U) (h : sm_H) : sm_H := mx_ap (O.map mi_cU) h
def mi_K (P : Nat → Option sm_M) (QT : Nat → sm_H → Prop) (Q : Option Value → sm_H → Prop) (h : sm_H) (S : mi_S) : Prop := ab_EndsK P QT Q (S.2.2.2.2.2.2.map mi_cF) S.1 S.2.1 S.2.2.1 (mi_cl S.2.2.2.1) (S.2.2.2.2.1.map mi_c) (mi_ap S.2.2.2.2.2.1 h)
def mi_okA (sk : ab_K) (h : sm_H) (S : mi_S) : Prop := ab_Sh sk (mi_ap S.2.2.2.2.2.1 h) ∧ mx_oO sk (S.2.2.2.2.2.1.map mi_cU) ∧ mi_okL S.2.2.2.1 ∧ mi_okS S.2.2.2.2.1 ∧ mi_okO S.2.2.2.2.2.1 ∧ mi_okF S.2.2.2.2.2.2
section MIQ
variable {sk : ab_K} {h : sm_H} {P : Nat → Option sm_M} {QT : Nat → sm_H → Prop} {Q : Option Value → sm_H → Prop} {T : mi_T}
theorem mi_find_mem : ∀ (T : mi_T) {m : Nat} {M : sm_M}, mi_find T m = some M → (m, M) ∈ T := by
  intro T
  induction T with
  | nil => intro m M hf; cases hf
  | cons e r ih =>
    intro m M hf
    unfold mi_find at hf
    split at hf
    · next he =>
      cases hf
      rw [← he]
      exact List.mem_cons_self
    · exact List.mem_cons_of_mem _ (ih hf)
theorem mi_pre_inv {ob ob2 : List Prop} {X : Option (mi_S × List Prop)} {R : mi_S} (hx : mi_pre ob X = some (R, ob2)) : ∃ ob3, X = some (R, ob3) ∧ ob2 = ob ++ ob3 := by
  unfold mi_pre at hx
  split at hx
  · next S ob3 => cases hx; exact ⟨ob3, rfl, rfl⟩
  · cases hx
theorem mi_slots_eq : ∀ as : List mi_V, sm_slots (as.map mi_c) = mi_cl (mi_slots as) := by
  intro as
  induction as with
  | nil => rfl
  | cons v r ih =>
    simp only [List.map_cons, sm_slots, mi_slots, mi_catv]
    split
    · rw [ih]; rfl
    · rw [ih]; rfl
theorem mi_entry_eq (n : Nat) (as : List mi_V) : sm_entry n (as.map mi_c) = mi_cl (mi_entry n as) := by
  unfold sm_entry mi_entry
  rw [mi_slots_eq]
  unfold mi_cl
  rw [List.map_append, List.length_map, List.map_replicate]
  rfl
theorem mi_slots_len (as : List mi_V) : (sm_slots (as.map mi_c)).length = (mi_slots as).length := by
  rw [mi_slots_eq]
  unfold mi_cl
  rw [List.length_map]
theorem mi_cats_eq (r : List mi_V) : ((r.map mi_c).map fun v => v.category) = r.map mi_cat := by
  rw [List.map_map]
  exact List.map_congr_left (fun v _ => mi_catv v)
theorem mi_slots_ok : ∀ as : List mi_V, mi_okS as → mi_okL (mi_slots as) := by
  intro as
  induction as with
  | nil => intro _ v hv; cases hv
  | cons a r ih =>
    intro hs v hv
    have ih := ih (mi_okS_tl hs)
    unfold mi_slots at hv
    split at hv
    · rcases List.mem_cons.mp hv with e | hv
      · cases e; exact mi_okS_hd hs
      · rcases List.mem_cons.mp hv with e | hv
        · cases e
        · exact ih v hv
    · rcases List.mem_cons.mp hv with e | hv
      · cases e; exact mi_okS_hd hs
      · exact ih v hv
theorem mi_entry_ok {n : Nat} {as : List mi_V} (hs : mi_okS as) : mi_okL (mi_entry n as) := fun v hv => by
  rcases List.mem_append.mp hv with hv | hv
  · exact mi_slots_ok as hs v hv
  · cases (List.mem_replicate.mp hv).2
theorem mi_args_inv {n : Nat} {st as r : List mi_V} (ha : mi_args n st = some (as, r)) : sm_args n (st.map mi_c) = some (as.map mi_c, r.map mi_c) ∧ (mi_okS st → mi_okS as ∧ mi_okS r) := by
  unfold mi_args at ha
  split at ha
  · next hn =>
    cases ha
    refine ⟨?_, fun hs => ⟨fun v hv => hs v (List.mem_of_mem_take (List.mem_reverse.mp hv)), fun v hv => hs v (List.mem_of_mem_drop hv)⟩⟩
    unfold sm_args
    rw [List.length_map, if_pos hn, List.map_reverse, List.map_take, List.map_drop]
  · cases ha
theorem mi_call_ok {q : sm_I} {st as r : List mi_V} {m pc : Nat} {ls : sm_L} {H : sm_H} (hv : ∃ fl, sk[109]? = some (some (.inr (11, fl)))) (hS : ab_Sh sk H) (hc : mi_call q st = some (m, as, r)) : sm_step q pc ls (st.map mi_c) H = some (.inr (.inr (m, as.map mi_c, r.map mi_c))) ∧ (mi_okS st → mi_okS as ∧ mi_okS r) := by
  obtain ⟨i, len, rs⟩ := q
  unfold mi_call at hc
  split at hc
  · next idx k m1 n hi hrs =>
    dsimp only at hi hrs
    subst hi
    subst hrs
    split at hc
    · next as1 r1 ha =>
      cases hc
      obtain ⟨e1, e2⟩ := mi_args_inv ha
      refine ⟨?_, e2⟩
      simp only [sm_step, sm_callS]
      rw [e1]
      rfl
    · cases hc
  · next idx k n ci m1 hi hrs =>
    dsimp only at hi hrs
    subst hi
    subst hrs
    split at hc
    · next hci =>
      subst hci
      split at hc
      · next a as1 r1 ha =>
        split at hc
        · next h109 =>
          cases hc
          subst h109
          obtain ⟨e1, e2⟩ := mi_args_inv ha
          refine ⟨?_, e2⟩
          obtain ⟨fl, hk⟩ := hv
          obtain ⟨fs, ho, -, -⟩ := mx_obj hS hk
          simp only [sm_step, sm_callV]
          rw [e1]
          simp only [List.map_cons, mi_c]
          rw [ho]
          rfl
        · cases hc
      · cases hc
    · cases hc
  · cases hc
theorem mi_ret_ok {q : sm_I} {k pc : Nat} {st : List mi_V} {rv : Option mi_V} {ob : List Prop} {ls : sm_L} {H : sm_H} (hr : mi_ret q k st = some (rv, ob)) (hst : mi_okS st) (ho : ∀ p ∈ ob, p) : sm_step q pc ls (st.map mi_c) H = some (.inr (.inl (rv.map mi_c))) ∧ sm_okret k (rv.map mi_c) = true ∧ ∀ v, rv = some v → mi_ok v := by
  obtain ⟨i, len, rs⟩ := q
  unfold mi_ret at hr
  split at hr
  · next hrs =>
    dsimp only at hrs
    subst hrs
    split at hr
    · next hk =>
      cases hr
      subst hk
      exact ⟨rfl, rfl, fun v hv => by cases hv; exact mi_okS_hd hst⟩
    · split at hr
      · next hk =>
        cases hr
        subst hk
        refine ⟨rfl, ?_, fun v hv => by cases hv; exact mi_okS_hd hst⟩
        have h1 := ho _ List.mem_cons_self
        rcases h1 with rfl | rfl <;> rfl
      · cases hr
  · next hrs =>
    dsimp only at hrs
    subst hrs
    split at hr
    · next hk =>
      cases hr
      subst hk
      exact ⟨rfl, rfl, fun v hv => by cases hv; trivial⟩
    · cases hr
  · next hrs =>
    dsimp only at hrs
    subst hrs
    split at hr
    · next hk =>
      cases hr
      subst hk
      exact ⟨rfl, rfl, fun v hv => by cases hv⟩
    · cases hr
  · cases hr
theorem mi_back_eq (rv : Option mi_V) (r : List mi_V) : sm_back (rv.map mi_c) (r.map mi_c) = (mi_back rv r).map mi_c := by
  cases rv <;> rfl
theorem mi_back_ok {rv : Option mi_V} {r : List mi_V} (hv : ∀ v, rv = some v → mi_ok v) (hr : mi_okS r) : mi_okS (mi_back rv r) := by
  cases rv with
  | none => exact hr
  | some v => exact mi_okS_cons (hv v rfl) hr
set_option maxHeartbeats 1000000 in
theorem mi_path_ok (hT : ∀ e ∈ T, P e.1 = some e.2) (hv : ∃ fl, sk[109]? = some (some (.inr (11, fl)))) (hP : mx_Sp sk h) : ∀ (n : Nat) (bs : List Nat) (S R : mi_S) (ob : List Prop), mi_path T sk h n bs S = some (R, ob) → mi_okA sk h S → (∀ p ∈ ob, p) → (mi_okA sk h R → mi_K P QT Q h R) → mi_K P QT Q h S := by
  intro n
  induction n with
  | zero =>
    intro bs S R ob hp hA ho hk
    simp only [mi_path] at hp
    cases hp
    exact hk hA
  | succ n ih =>
    intro bs S R ob hp hA ho hk
    obtain ⟨d, m, pc, ls, st, O, F⟩ := S
    obtain ⟨hS, hO, hl, hst, hU, hF⟩ := hA
    simp only [mi_path] at hp
    split at hp
    · cases hp
    · next nl k tab hfm =>
      have hM := hT _ (mi_find_mem T hfm)
      split at hp
      · next q hq =>
        split at hp
        · next pc' ls' st' O' ob1 hs =>
          obtain ⟨ob2, hp2, rfl⟩ := mi_pre_inv hp
          obtain ⟨⟨ob', hm, hob'⟩, g1, g2, g3⟩ := mi_step_ok hs hl hst hU (fun p hp => ho p (List.mem_append_left _ hp))
          obtain ⟨e1, e2, e3⟩ := mo_step_ok hm hP hO hS hob'
          exact ab_EndsK.step (M := (nl, k, tab)) hM hq e1 (ih _ _ _ _ hp2 ⟨e2, e3, g1, g2, g3, hF⟩ (fun p hp => ho p (List.mem_append_right _ hp)) hk)
        · split at hp
          · next m' as r hc =>
            obtain ⟨e1, e2⟩ := mi_call_ok (pc := pc) (ls := mi_cl ls) hv hS hc
            obtain ⟨k1, k2⟩ := e2 hst
            split at hp
            · next d' nl' k' tab' hfm' =>
              split at hp
              · next hcc =>
                have hM' := hT _ (mi_find_mem T hfm')
                refine ab_EndsK.inl (M := (nl, k, tab)) (M' := (nl', k', tab')) hM hq e1 hM' (by rw [mi_slots_len]; exact hcc.1) (by rw [mi_cats_eq]; exact hcc.2) ?_
                have := ih _ _ _ _ hp ⟨hS, hO, mi_entry_ok k1, (fun v hv => by cases hv), hU, fun f hf => by
                  rcases List.mem_cons.mp hf with rfl | hf
                  · exact ⟨hl, k2⟩
                  · exact hF f hf⟩ ho hk
                rw [mi_entry_eq]
                exact this
              · cases hp
            · cases hp
          · split at hp
            · next rv ob1 f F' hr =>
              obtain ⟨ob2, hp2, rfl⟩ := mi_pre_inv hp
              obtain ⟨e1, e2, e3⟩ := mi_ret_ok (pc := pc) (ls := mi_cl ls) (H := mi_ap O h) hr hst (fun p hp => ho p (List.mem_append_left _ hp))
              have hf := hF f List.mem_cons_self
              refine ab_EndsK.ret (c := mi_cF f) (M := (nl, k, tab)) hM hq e1 e2 ?_
              have := ih _ _ _ _ hp2 ⟨hS, hO, hf.1, mi_back_ok e3 hf.2, hU, fun g hg => hF g (List.mem_cons_of_mem _ hg)⟩ (fun p hp => ho p (List.mem_append_right _ hp)) hk
              show ab_EndsK P QT Q (F'.map mi_cF) (d + 1) f.1 (f.2.1 + 3) (mi_cl f.2.2.1) (sm_back (rv.map mi_c) (f.2.2.2.map mi_c)) (mi_ap O h)
              rw [mi_back_eq]
              exact this
            · cases hp
      · cases hp
end MIQ
/-! THE REFERENCE'S METHODS over integers: rules -/
def mi_loc (u : mi_U) : Nat := match u with
  | .inl (c, _) => c
  | .inr (.inl (c, _)) => c
  | .inr (.inr (.inl (k, _, _))) => k * 128
  | .inr (.inr (.inr (k, _, _))) => k * 128
def mi_wr (wr : List (Nat × Nat)) (O : List mi_U) : Bool := O.all (fun u => ab_in wr (mi_loc u))
section MEA
variable {sk : ab_K} {h h' : sm_H} {wr : List (Nat × Nat)}
theorem mi_Fr1 {u : mi_U} (hw : ab_in wr (mi_loc u) = true) : ab_Fr wr h (mx_ap1 (mi_cU u) h) := by
  rcases u with ⟨c, z⟩ | ⟨c, x⟩ | ⟨k, i, z⟩ | ⟨k, i, x⟩
  · have e : c / 128 * 128 + c % 128 = c := by omega
    show ab_Fr wr h (mx_pf h c (.int (Int32.ofInt z)))
    unfold mx_pf
    split
    · next ci fs hk => exact ab_Fr_obj hk (by rw [e]; exact hw)
    · exact ab_Fr.refl
  · have e : c / 128 * 128 + c % 128 = c := by omega
    show ab_Fr wr h (mx_pf h c (.long x))
    unfold mx_pf
    split
    · next ci fs hk => exact ab_Fr_obj hk (by rw [e]; exact hw)
    · exact ab_Fr.refl
  · show ab_Fr wr h (mx_pa h k i (Int32.ofInt z))
    unfold mx_pa
    split
    · next t n f hk => exact ab_Fr_arr hk (by simp [sm_sz]) hw
    · exact ab_Fr.refl
  · show ab_Fr wr h (mx_pb h k i x)
    unfold mx_pb
    split
    · next t n f hk => exact ab_Fr_arr hk (by simp [sm_sz]) hw
    · exact ab_Fr.refl
theorem mi_Fr : ∀ O : List mi_U, mi_wr wr O = true → ab_Fr wr h (mi_ap O h) := by
  intro O
  induction O with
  | nil => intro _; exact ab_Fr.refl
  | cons u r ih =>
    intro hw
    unfold mi_wr at hw
    rw [List.all_cons, Bool.and_eq_true] at hw
    exact (ih hw.2).trans (mi_Fr1 hw.1)
/-- what a frame keeps -/
theorem me_fld {c : Nat} (hS : ab_Sh sk h) (hF : ab_Fr wr h h') (hc : mx_isF sk c = true) (hn : ab_in wr c = false) : ab_fld h' c = ab_fld h c := by
  unfold mx_isF at hc
  split at hc
  · next ci fl hsk =>
    rw [decide_eq_true_eq] at hc
    obtain ⟨fs, e1, e2, -⟩ := hS _ _ hsk
    have hlt : c % 128 < fs.length := by rw [e2]; exact hc
    have e : ab_fld h c = some fs[c % 128] := by
      unfold ab_fld
      rw [e1]
      exact List.getElem?_eq_getElem hlt
    rw [e]
    exact ab_Fr_fld hF hn e
  · cases hc
theorem me_f {c : Nat} (hF : ab_Fr wr h h') (hS : ab_Sh sk h) (hc : mx_isF sk c = true) (hn : ab_in wr c = false) : mi_f h' c = mi_f h c := by
  unfold mi_f mx_i
  rw [me_fld hS hF hc hn]
theorem me_l {c : Nat} (hF : ab_Fr wr h h') (hS : ab_Sh sk h) (hc : mx_isF sk c = true) (hn : ab_in wr c = false) : mx_l h' c = mx_l h c := by
  unfold mx_l
  rw [me_fld hS hF hc hn]
theorem me_arr {k : Nat} (hF : ab_Fr wr h h') (hS : ab_Sh sk h) (hk : (mx_isA sk k || mx_isB sk k) = true) (hn : ab_in wr (k * 128) = false) : h'[k]? = h[k]? := by
  have : ∃ t n lo hi ex, sk[k]? = some (some (.inl (t, n, lo, hi, ex))) := by
    unfold mx_isA mx_isB at hk
    split at hk
    · next t n lo hi ex hsk => exact ⟨t, n, lo, hi, ex, hsk⟩
    · cases hk
  obtain ⟨t, n, lo, hi, ex, hsk⟩ := this
  obtain ⟨c, e1, -⟩ := hS _ _ hsk
  rw [e1]
  exact hF.2.2 k _ e1 hn
theorem me_a {k i : Nat} (hF : ab_Fr wr h h') (hS : ab_Sh sk h) (hk : (mx_isA sk k || mx_isB sk k) = true) (hn : ab_in wr (k * 128) = false) : mi_a h' k i = mi_a h k i := by
  unfold mi_a mx_a
  rw [me_arr hF hS hk hn]
theorem me_b {k i : Nat} (hF : ab_Fr wr h h') (hS : ab_Sh sk h) (hk : (mx_isA sk k || mx_isB sk k) = true) (hn : ab_in wr (k * 128) = false) : mx_b h' k i = mx_b h k i := by
  unfold mx_b
  rw [me_arr hF hS hk hn]
/-- bounds -/
theorem me_fb {c : Nat} {lo hi : Int} (hS : ab_Sh sk h) (hd : ab_dflt sk c = some (1, lo, hi, [])) : lo ≤ mi_f h c ∧ mi_f h c ≤ hi := mx_i_bd hS hd
theorem me_ab {k t n i : Nat} {lo hi : Int} {ex : List Int} (hS : ab_Sh sk h) (hk : sk[k]? = some (some (.inl (t, n, lo, hi, ex)))) (ht : t ≠ 1) (hi' : i < n) : lo ≤ mi_a h k i ∧ mi_a h k i ≤ hi := mx_a_bd hS hk ht hi'
theorem me_nv1 {z lo hi : Int} (hz : mi_in z) (h1 : lo ≤ z) (h2 : z ≤ hi) : ab_nv (1, lo, hi, []) (some (mi_c (.inl z))) := ⟨Int32.ofInt z, rfl, by rw [mi_ti hz]; exact h1, by rw [mi_ti hz]; exact h2, fun _ ht => absurd ht List.not_mem_nil⟩
theorem me_nvf {c : Nat} {lo hi lo0 hi0 : Int} (hS : ab_Sh sk h) (hd : ab_dflt sk c = some (1, lo0, hi0, [])) (h1 : lo ≤ mi_f h c) (h2 : mi_f h c ≤ hi) : ab_nv (1, lo, hi, []) (ab_fld h c) := by
  obtain ⟨x, e, -, -, -⟩ := ab_kd1 (ab_dflt_ok (ls := []) (L0 := []) (h0 := []) hS hd) rfl
  have e2 : mi_f h c = x.toInt := by
    unfold mi_f mx_i
    rw [e]
  rw [e2] at h1 h2
  rw [e]
  exact ⟨x, rfl, h1, h2, fun _ ht => absurd ht List.not_mem_nil⟩
end MEA
theorem sx_109 : ∃ fl, sx_sk[109]? = some (some (.inr (11, fl))) := ⟨_, rfl⟩
/-- what lies in the cells behind a path -/
def me_W (O : List mi_U) (h h' : sm_H) : Prop := ab_Sh sx_sk h' ∧ (∀ c, mi_f h' c = mi_ri O c h) ∧ (∀ k i, mi_a h' k i = mi_ra O k i h) ∧ (∀ c, mx_l h' c = mi_rl O c h) ∧ (∀ k i, mx_b h' k i = mi_rb O k i h) ∧ ∀ wr, mi_wr wr O = true → ab_Fr wr h h'
theorem me_W_ap {O : List mi_U} {h : sm_H} (hP : mx_Sp sx_sk h) (hS : ab_Sh sx_sk (mi_ap O h)) (ho : mx_oO sx_sk (O.map mi_cU)) (hU : mi_okO O) : me_W O h (mi_ap O h) := by
  refine ⟨hS, fun c => ?_, fun k i => ?_, fun c => ?_, fun k i => ?_, fun wr hw => mi_Fr O hw⟩
  · unfold mi_f mi_ap
    rw [mx_i_ap hP _ ho, mi_ri_eq, mi_ti (mi_ri_in c O hU)]
  · unfold mi_a mi_ap
    rw [mx_a_ap hP _ ho, mi_ra_eq, mi_ti (mi_ra_in k i O hU)]
  · unfold mi_ap
    rw [mx_l_ap hP _ ho, mi_rl_eq]
  · unfold mi_ap
    rw [mx_b_ap hP _ ho, mi_rb_eq]
/-- a run of one of the reference's methods from here ends with Q -/
def me_E (d m pc : Nat) (ls : mi_L) (st : List mi_V) (h : sm_H) (Q : Option mi_V → sm_H → Prop) : Prop := ab_Ends sc_P d m pc (mi_cl ls) (st.map mi_c) h (fun v h' => ∃ w, v = w.map mi_c ∧ (∀ x, w = some x → mi_ok x) ∧ Q w h')
section MEB
variable {d m pc : Nat} {ls : mi_L} {st : List mi_V} {h : sm_H} {Q Q' : Option mi_V → sm_H → Prop} {M M' : sm_M} {q : sm_I}
theorem me_E.imp (k : me_E d m pc ls st h Q) (hQ : ∀ w h', Q w h' → Q' w h') : me_E d m pc ls st h Q' := ab_Ends.imp k (fun v h' ⟨w, e1, e2, e3⟩ => ⟨w, e1, e2, hQ w h' e3⟩)
theorem me_E.deep {d' : Nat} (k : me_E d m pc ls st h Q) (hd : d ≤ d') : me_E d' m pc ls st h Q := ab_Ends.deep k hd
theorem me_seg {T : mi_T} {n d' m' pc' : Nat} {bs : List Nat} {ls' : mi_L} {st' : List mi_V} {O : List mi_U} {ob : List Prop} (hp : mi_path T sx_sk h n bs (d, m, pc, ls, st, [], []) = some ((d', m', pc', ls', st', O, []), ob)) (hT : ∀ e ∈ T, sc_P e.1 = some e.2) (hS : ab_Sh sx_sk h) (hl : mi_okL ls) (hst : mi_okS st) (ho : ∀ p ∈ ob, p) (k : ∀ h', me_W O h h' → mi_okL ls' → mi_okS st' → me_E d' m' pc' ls' st' h' Q) : me_E d m pc ls st h Q := by
  have hP := mx_Sh_Sp hS
  have := mi_path_ok (P := sc_P) (QT := fun _ _ => False) (Q := fun v h' => ∃ w, v = w.map mi_c ∧ (∀ x, w = some x → mi_ok x) ∧ Q w h') hT sx_109 hP n bs _ _ ob hp ⟨hS, (fun u hu => by cases hu), hl, hst, (fun u hu => by cases hu), (fun f hf => by cases hf)⟩ ho (fun hA => by
    obtain ⟨a1, a2, a3, a4, a5, -⟩ := hA
    exact Or.inl (k _ (me_W_ap hP a1 a2 a5) a3 a4))
  rcases this with this | ⟨n, x, h', -, hf⟩
  · exact this
  · exact hf.elim
theorem me_call {m' : Nat} {as r : List mi_V} {Q1 : Option mi_V → sm_H → Prop} (hM : sc_P m = some M) (hq : M.2.2[pc]? = some (some q)) (hc : mi_call q st = some (m', as, r)) (hM' : sc_P m' = some M') (hsl : (mi_slots as).length ≤ M'.1) (hcat : (r.map mi_cat).sum ≤ 8) (hS : ab_Sh sx_sk h) (k : me_E d m' 0 (mi_entry M'.1 as) [] h Q1) (kk : ∀ w h', (∀ x, w = some x → mi_ok x) → Q1 w h' → me_E (d + 1) m (pc + 3) ls (mi_back w r) h' Q) : me_E (d + 1) m pc ls st h Q := by
  obtain ⟨e1, -⟩ := mi_call_ok (pc := pc) (ls := mi_cl ls) sx_109 hS hc
  refine ab_Ends.call hM hq e1 hM' (by rw [mi_slots_len]; exact hsl) (by rw [mi_cats_eq]; exact hcat) ?_
  rw [mi_entry_eq]
  refine ab_Ends.imp k (fun v h' hw => ?_)
  obtain ⟨w, rfl, hw, hQ⟩ := hw
  rw [mi_back_eq]
  exact kk w h' hw hQ
theorem me_ret {rv : Option mi_V} {ob : List Prop} (hM : sc_P m = some M) (hq : M.2.2[pc]? = some (some q)) (hr : mi_ret q M.2.1 st = some (rv, ob)) (hst : mi_okS st) (ho : ∀ p ∈ ob, p) (hQ : Q rv h) : me_E d m pc ls st h Q := by
  obtain ⟨e1, e2, e3⟩ := mi_ret_ok (pc := pc) (ls := mi_cl ls) (H := h) hr hst ho
  exact ab_Ends.ret hM hq e1 e2 ⟨rv, rfl, e3, hQ⟩
/-- an answer within bounds -/
def mi_res (k : Nat) (a : ab_V) (w : Option mi_V) : Prop := if k = 0 then w = none else (a.1 = 1 ∧ ∃ z, w = some (.inl z) ∧ a.2.1 ≤ z ∧ z ≤ a.2.2.1) ∨ (a.1 = 2 ∧ ∃ x, w = some (.inr (.inl x)) ∧ a.2.1 ≤ x.toInt ∧ x.toInt ≤ a.2.2.1) ∨ (a.1 = 3 ∧ w = some (.inr (.inr a.2.1.toNat)))
theorem me_abs {c : ab_C} {as : List mi_V} (hok : ab_Ok sc_P sx_sk c) (hM : sc_P c.1 = some M) (hS : ab_Sh sx_sk h) (has : ab_nvs c.2.1 (as.map mi_c)) (hpre : ab_nvH c.2.2.1 h) (hk : c.2.2.2.1.all (fun p => M.2.1 == 0 || p.1.1 == 1 || p.1.1 == 2 || p.1.1 == 3) = true) : me_E c.2.2.2.2.2 c.1 0 (mi_entry M.1 as) [] h (fun w h' => ab_Sh sx_sk h' ∧ ab_Fr c.2.2.2.2.1 h h' ∧ ∃ p ∈ c.2.2.2.1, mi_res M.2.1 p.1 w ∧ ab_nvH p.2 h') := by
  have := hok h (as.map mi_c) M hM hS has hpre
  rw [mi_entry_eq] at this
  refine ab_Ends.imp this (fun v h' hp => ?_)
  obtain ⟨p1, p2, p, pm, pr, ph⟩ := hp
  have hkp := List.all_eq_true.mp hk p pm
  unfold ab_res at pr
  by_cases hk0 : M.2.1 = 0
  · rw [if_pos hk0] at pr
    refine ⟨none, pr, (fun x hx => by cases hx), p1, p2, p, pm, ?_, ph⟩
    unfold mi_res
    rw [if_pos hk0]
  · rw [if_neg hk0] at pr
    simp only [Bool.or_eq_true, beq_iff_eq] at hkp
    rcases hkp with ((hkp | hkp) | hkp) | hkp
    · exact absurd hkp hk0
    · obtain ⟨x, e, h1, h2, -⟩ := ab_kd1 (pr.1 (by omega)) hkp
      refine ⟨some (.inl x.toInt), by rw [e, Option.map_some, mi_cT], (fun y hy => by cases hy; exact mi_inT x), p1, p2, p, pm, ?_, ph⟩
      unfold mi_res
      rw [if_neg hk0]
      exact Or.inl ⟨hkp, x.toInt, rfl, h1, h2⟩
    · obtain ⟨x, e, h1, h2⟩ := ab_kd2 (pr.1 (by omega)) hkp
      refine ⟨some (.inr (.inl x)), e, (fun y hy => by cases hy; trivial), p1, p2, p, pm, ?_, ph⟩
      unfold mi_res
      rw [if_neg hk0]
      exact Or.inr (Or.inl ⟨hkp, x, rfl, h1, h2⟩)
    · have e := ab_kd3 (pr.1 (by omega)) hkp
      refine ⟨some (.inr (.inr p.1.2.1.toNat)), e, (fun y hy => by cases hy; trivial), p1, p2, p, pm, ?_, ph⟩
      unfold mi_res
      rw [if_neg hk0]
      exact Or.inr (Or.inr ⟨hkp, rfl⟩)
end MEB
/-! THE WALK, purely. Entries: what is to be done (0 unit, 1 form, 2 out, 3 middle, 4 turn, 5 again), with, also; g: what lies in the arrays -/
abbrev wk_E : Type := Int × Int × Int
abbrev wk_g : Type := Nat → Nat → Int
def wk_alt (g : wk_g) : Nat → Int → Int
  | 0, a => a
  | n + 1, a => wk_alt g n (g 128 a.toNat)
/-- the items from a unit on, as they are put on the stack -/
def wk_it (g : wk_g) : Nat → Int → List wk_E
  | 0, _ => []
  | n + 1, u => if u < 0 then [] else if 0 ≤ g 124 u.toNat then (0, u, 1) :: (3, 0, 0) :: (0, g 124 u.toNat, 0) :: (4, 0, 0) :: wk_it g n (g 125 u.toNat) else (0, u, 0) :: wk_it g n (g 125 u.toNat)
/-- what nobody writes down: of a unit its end and its form; of a form its begin, its end, its depth; how many units, how many forms -/
abbrev wk_Y : Type := (Int → Int) × (Int → Int) × (Int → Int) × (Int → Int) × (Int → Int) × Int × Int
def wk_e (Y : wk_Y) (u : Int) : Int := Y.1 u
def wk_c (Y : wk_Y) (u : Int) : Int := Y.2.1 u
def wk_b (Y : wk_Y) (f : Int) : Int := Y.2.2.1 f
def wk_x (Y : wk_Y) (f : Int) : Int := Y.2.2.2.1 f
def wk_d (Y : wk_Y) (f : Int) : Int := Y.2.2.2.2.1 f
def wk_u (Y : wk_Y) : Int := Y.2.2.2.2.2.1
def wk_f (Y : wk_Y) : Int := Y.2.2.2.2.2.2
/-- the rule's form that a use stands for -/
def wk_rf (g : wk_g) (u : Int) : Int := g 114 (g 115 (g 120 u.toNat).toNat).toNat
def wk_Lrule (Y : wk_Y) (f : Int) : Prop := 0 ≤ f ∧ f < wk_f Y ∧ wk_x Y f - wk_b Y f ≤ 61
def wk_Lunit (g : wk_g) (Y : wk_Y) (u : Int) : Prop :=
  (u < wk_e Y u ∧ wk_e Y u ≤ wk_x Y (wk_c Y u) ∧ wk_b Y (wk_c Y u) < u ∧ 0 ≤ wk_c Y u ∧ wk_c Y u < wk_f Y) ∧
  (0 ≤ g 124 u.toNat → g 124 u.toNat < wk_u Y ∧ wk_c Y (g 124 u.toNat) = wk_c Y u ∧ wk_e Y u ≤ g 124 u.toNat ∧ g 124 (g 124 u.toNat).toNat < 0) ∧
  (0 ≤ g 125 u.toNat → g 125 u.toNat < wk_u Y ∧ wk_c Y (g 125 u.toNat) = wk_c Y u ∧ wk_e Y u ≤ g 125 u.toNat ∧ (0 ≤ g 124 u.toNat → wk_e Y (g 124 u.toNat) ≤ g 125 u.toNat)) ∧
  (g 119 u.toNat = 9 → 0 ≤ g 120 u.toNat ∧ g 120 u.toNat < 26 ∧ 0 ≤ g 115 (g 120 u.toNat).toNat ∧ g 115 (g 120 u.toNat).toNat < 10 ∧ wk_Lrule Y (wk_rf g u)) ∧
  (g 119 u.toNat = 10 → 0 ≤ g 120 u.toNat ∧ g 120 u.toNat < wk_f Y ∧ wk_x Y (g 120 u.toNat) - wk_b Y (g 120 u.toNat) ≤ wk_e Y u - u ∧ wk_d Y (g 120 u.toNat) = wk_d Y (wk_c Y u) + 1) ∧
  (g 119 u.toNat = 8 → 0 ≤ g 120 u.toNat ∧ g 120 u.toNat < 20)
def wk_Lform (g : wk_g) (Y : wk_Y) (f : Int) : Prop :=
  0 ≤ wk_d Y f ∧ wk_d Y f ≤ 4 ∧ 1 ≤ g 130 f.toNat ∧ wk_alt g (g 130 f.toNat).toNat (g 129 f.toNat) < 0 ∧ wk_b Y f < wk_x Y f ∧
  ∀ j : Nat, (j : Int) < g 130 f.toNat → 0 ≤ wk_alt g j (g 129 f.toNat) ∧ wk_alt g j (g 129 f.toNat) < 80 ∧ (g 126 (wk_alt g j (g 129 f.toNat)).toNat < 0 ∨ (g 126 (wk_alt g j (g 129 f.toNat)).toNat < wk_u Y ∧ wk_c Y (g 126 (wk_alt g j (g 129 f.toNat)).toNat) = f))
def wk_L (g : wk_g) (Y : wk_Y) : Prop := wk_u Y ≤ 60 ∧ wk_f Y ≤ 80 ∧ (∀ u, 0 ≤ u → u < wk_u Y → wk_Lunit g Y u) ∧ ∀ f, 0 ≤ f → f < wk_f Y → wk_Lform g Y f
/-- pairs: where they begin, their middle, how many nodes there are -/
abbrev wk_P : Type := (Nat → Int) × (Nat → Int) × Int
def wk_PB (Z : wk_P) (p : Int) : Prop := 0 ≤ Z.1 (p - 1).toNat ∧ Z.1 (p - 1).toNat ≤ Z.2.2
def wk_PM (Z : wk_P) (p : Int) : Prop := 0 ≤ Z.1 (p - 1).toNat ∧ Z.1 (p - 1).toNat ≤ Z.2.1 (p - 1).toNat ∧ Z.2.1 (p - 1).toNat ≤ Z.2.2
def wk_U (Y : wk_Y) (w i p l e : Int) : Prop := 0 ≤ w ∧ w < wk_u Y ∧ i + 4 * (wk_e Y w - w) - 2 ≤ 242 * l ∧ 0 ≤ p ∧ p ≤ 5 * (l - 1) + wk_d Y (wk_c Y w) + e ∧ 1 ≤ l ∧ l ≤ 12
def wk_F (Y : wk_Y) (f i p l : Int) : Prop := 0 ≤ f ∧ f < wk_f Y ∧ i + 4 * (wk_x Y f - wk_b Y f) - 4 ≤ 242 * l ∧ 0 ≤ p ∧ p ≤ 5 * (l - 1) + wk_d Y f ∧ 1 ≤ l ∧ l ≤ 12
def wk_A (Y : wk_Y) (w i p l : Int) : Prop := 0 ≤ w ∧ w < wk_u Y ∧ i + 4 * (wk_e Y w - w) - 2 ≤ 242 * l + 1 ∧ 0 ≤ p ∧ p ≤ 5 * (l - 1) + wk_d Y (wk_c Y w) + 1 ∧ 1 ≤ l ∧ l ≤ 12
/-- what holds of the stack (the top first), of how many pairs are open and of how many uses; q: 1 to 3 below the first one of a pair that is not open yet -/
def wk_SI (Y : wk_Y) (Z : wk_P) : List wk_E → Nat → Int → Int → Prop
  | [], q, p, l => q = 0 ∧ p = 0 ∧ l = 0
  | e :: r, q, p, l =>
    (q = 0 ∧ e.1 = 0 ∧ e.2.2 = 0 ∧ wk_U Y e.2.1 (r.length : Int) p l 1 ∧ wk_SI Y Z r 0 p l) ∨
    (q = 0 ∧ e.1 = 0 ∧ e.2.2 = 1 ∧ wk_U Y e.2.1 (r.length : Int) p l 0 ∧ wk_SI Y Z r 1 (p + 1) l) ∨
    (q = 0 ∧ e.1 = 3 ∧ 1 ≤ p ∧ wk_PB Z p ∧ wk_SI Y Z r 2 p l) ∨
    (q = 1 ∧ e.1 = 3 ∧ 1 ≤ p ∧ wk_SI Y Z r 2 p l) ∨
    (q = 2 ∧ e.1 = 0 ∧ e.2.2 = 0 ∧ wk_U Y e.2.1 (r.length : Int) p l 1 ∧ wk_SI Y Z r 3 p l) ∨
    (q = 0 ∧ e.1 = 4 ∧ 1 ≤ p ∧ wk_PM Z p ∧ wk_SI Y Z r 0 (p - 1) l) ∨
    (q = 3 ∧ e.1 = 4 ∧ 1 ≤ p ∧ wk_SI Y Z r 0 (p - 1) l) ∨
    (q = 0 ∧ e.1 = 1 ∧ wk_F Y e.2.1 (r.length : Int) p l ∧ wk_SI Y Z r 0 p l) ∨
    (q = 0 ∧ e.1 = 5 ∧ wk_A Y e.2.1 (r.length : Int) p l ∧ wk_SI Y Z r 0 p l) ∨
    (q = 0 ∧ e.1 = 2 ∧ (e.2.1 = 0 ∨ e.2.1 = 1) ∧ 0 ≤ p ∧ 1 ≤ l ∧ l ≤ 12 ∧ wk_SI Y Z r 0 p (l - e.2.1))
section WK1
variable {g : wk_g} {Y : wk_Y} {Z Z' : wk_P} {r : List wk_E} {p l : Int}
theorem wk_unit0 {w : Int} (h : wk_SI Y Z ((0, w, 0) :: r) 0 p l) : wk_U Y w (r.length : Int) p l 1 ∧ wk_SI Y Z r 0 p l := by
  unfold wk_SI at h
  dsimp only at h
  rcases h with h | h | h | h | h | h | h | h | h | h
  · exact ⟨h.2.2.2.1, h.2.2.2.2⟩
  all_goals (exfalso; omega)
theorem wk_unit1 {w : Int} (h : wk_SI Y Z ((0, w, 1) :: r) 0 p l) : wk_U Y w (r.length : Int) p l 0 ∧ wk_SI Y Z r 1 (p + 1) l := by
  unfold wk_SI at h
  dsimp only at h
  rcases h with h | h | h | h | h | h | h | h | h | h
  · exfalso; omega
  · exact ⟨h.2.2.2.1, h.2.2.2.2⟩
  all_goals (exfalso; omega)
theorem wk_mid {w a : Int} (h : wk_SI Y Z ((3, w, a) :: r) 0 p l) : 1 ≤ p ∧ wk_PB Z p ∧ wk_SI Y Z r 2 p l := by
  unfold wk_SI at h
  dsimp only at h
  rcases h with h | h | h | h | h | h | h | h | h | h
  · exfalso; omega
  · exfalso; omega
  · exact h.2.2
  all_goals (exfalso; omega)
theorem wk_turn {w a : Int} (h : wk_SI Y Z ((4, w, a) :: r) 0 p l) : 1 ≤ p ∧ wk_PM Z p ∧ wk_SI Y Z r 0 (p - 1) l := by
  unfold wk_SI at h
  dsimp only at h
  rcases h with h | h | h | h | h | h | h | h | h | h
  · exfalso; omega
  · exfalso; omega
  · exfalso; omega
  · exfalso; omega
  · exfalso; omega
  · exact h.2.2
  all_goals (exfalso; omega)
theorem wk_form {w a : Int} (h : wk_SI Y Z ((1, w, a) :: r) 0 p l) : wk_F Y w (r.length : Int) p l ∧ wk_SI Y Z r 0 p l := by
  unfold wk_SI at h
  dsimp only at h
  rcases h with h | h | h | h | h | h | h | h | h | h
  · exfalso; omega
  · exfalso; omega
  · exfalso; omega
  · exfalso; omega
  · exfalso; omega
  · exfalso; omega
  · exfalso; omega
  · exact h.2.2
  all_goals (exfalso; omega)
theorem wk_again {w a : Int} (h : wk_SI Y Z ((5, w, a) :: r) 0 p l) : wk_A Y w (r.length : Int) p l ∧ wk_SI Y Z r 0 p l := by
  unfold wk_SI at h
  dsimp only at h
  rcases h with h | h | h | h | h | h | h | h | h | h
  · exfalso; omega
  · exfalso; omega
  · exfalso; omega
  · exfalso; omega
  · exfalso; omega
  · exfalso; omega
  · exfalso; omega
  · exfalso; omega
  · exact h.2.2
  · exfalso; omega
theorem wk_out {w a : Int} (h : wk_SI Y Z ((2, w, a) :: r) 0 p l) : (w = 0 ∨ w = 1) ∧ 0 ≤ p ∧ 1 ≤ l ∧ l ≤ 12 ∧ wk_SI Y Z r 0 p (l - w) := by
  unfold wk_SI at h
  dsimp only at h
  rcases h with h | h | h | h | h | h | h | h | h | h
  · exfalso; omega
  · exfalso; omega
  · exfalso; omega
  · exfalso; omega
  · exfalso; omega
  · exfalso; omega
  · exfalso; omega
  · exfalso; omega
  · exfalso; omega
  · exact h.2.2
/-- what stands on the top: one of the seven -/
theorem wk_cases {e : wk_E} (h : wk_SI Y Z (e :: r) 0 p l) : (e.1 = 0 ∧ (e.2.2 = 0 ∨ e.2.2 = 1)) ∨ e.1 = 1 ∨ e.1 = 2 ∨ e.1 = 3 ∨ e.1 = 4 ∨ e.1 = 5 := by
  unfold wk_SI at h
  rcases h with h | h | h | h | h | h | h | h | h | h <;> omega
/-- .. put there -/
theorem wk_pu0 {w : Int} (h1 : wk_U Y w (r.length : Int) p l 1) (h2 : wk_SI Y Z r 0 p l) : wk_SI Y Z ((0, w, 0) :: r) 0 p l := by
  unfold wk_SI
  exact Or.inl ⟨rfl, rfl, rfl, h1, h2⟩
theorem wk_pform {f a : Int} (h1 : wk_F Y f (r.length : Int) p l) (h2 : wk_SI Y Z r 0 p l) : wk_SI Y Z ((1, f, a) :: r) 0 p l := by
  unfold wk_SI
  exact Or.inr (Or.inr (Or.inr (Or.inr (Or.inr (Or.inr (Or.inr (Or.inl ⟨rfl, rfl, h1, h2⟩)))))))
theorem wk_pagain {w a : Int} (h1 : wk_A Y w (r.length : Int) p l) (h2 : wk_SI Y Z r 0 p l) : wk_SI Y Z ((5, w, a) :: r) 0 p l := by
  unfold wk_SI
  exact Or.inr (Or.inr (Or.inr (Or.inr (Or.inr (Or.inr (Or.inr (Or.inr (Or.inl ⟨rfl, rfl, h1, h2⟩))))))))
theorem wk_pout {w a : Int} (hw : w = 0 ∨ w = 1) (hp : 0 ≤ p) (h0 : 1 ≤ l) (h1 : l ≤ 12) (h2 : wk_SI Y Z r 0 p (l - w)) : wk_SI Y Z ((2, w, a) :: r) 0 p l := by
  unfold wk_SI
  exact Or.inr (Or.inr (Or.inr (Or.inr (Or.inr (Or.inr (Or.inr (Or.inr (Or.inr ⟨rfl, rfl, hw, hp, h0, h1, h2⟩))))))))
theorem wk_ppair {u v a b c d : Int} (h1 : wk_U Y u ((r.length : Int) + 3) p l 0) (h2 : wk_U Y v ((r.length : Int) + 1) (p + 1) l 1) (h3 : wk_SI Y Z r 0 p l) : wk_SI Y Z ((0, u, 1) :: (3, a, b) :: (0, v, 0) :: (4, c, d) :: r) 0 p l := by
  have hp : 0 ≤ p := h1.2.2.2.1
  have e1 : (((3, a, b) :: (0, v, 0) :: (4, c, d) :: r : List wk_E).length : Int) = (r.length : Int) + 3 := by simp only [List.length_cons]; omega
  have e2 : (((4, c, d) :: r : List wk_E).length : Int) = (r.length : Int) + 1 := by simp only [List.length_cons]; omega
  have s3 : wk_SI Y Z ((4, c, d) :: r) 3 (p + 1) l := by
    unfold wk_SI
    refine Or.inr (Or.inr (Or.inr (Or.inr (Or.inr (Or.inr (Or.inl ⟨rfl, rfl, by omega, ?_⟩))))))
    have : p + 1 - 1 = p := by omega
    rw [this]
    exact h3
  have s2 : wk_SI Y Z ((0, v, 0) :: (4, c, d) :: r) 2 (p + 1) l := by
    unfold wk_SI
    refine Or.inr (Or.inr (Or.inr (Or.inr (Or.inl ⟨rfl, rfl, rfl, ?_, s3⟩))))
    rw [e2]
    exact h2
  have s1 : wk_SI Y Z ((3, a, b) :: (0, v, 0) :: (4, c, d) :: r) 1 (p + 1) l := by
    unfold wk_SI
    exact Or.inr (Or.inr (Or.inr (Or.inl ⟨rfl, rfl, by omega, s2⟩)))
  unfold wk_SI
  refine Or.inr (Or.inl ⟨rfl, rfl, rfl, ?_, s1⟩)
  rw [e1]
  exact h1
/-- other pairs -/
theorem wk_SI_Z : ∀ (r : List wk_E) (q : Nat) (p l : Int), wk_SI Y Z r q p l → (∀ i : Nat, (i : Int) < (if q = 0 then p else p - 1) → Z'.1 i = Z.1 i ∧ Z'.2.1 i = Z.2.1 i) → Z.2.2 ≤ Z'.2.2 → wk_SI Y Z' r q p l := by
  intro r
  induction r with
  | nil => intro q p l h _ _; exact h
  | cons e r ih =>
    intro q p l h hz hm
    unfold wk_SI at h ⊢
    rcases h with h | h | h | h | h | h | h | h | h | h
    · obtain ⟨rfl, h1, h2, h3, h4⟩ := h
      exact Or.inl ⟨rfl, h1, h2, h3, ih _ _ _ h4 hz hm⟩
    · obtain ⟨rfl, h1, h2, h3, h4⟩ := h
      refine Or.inr (Or.inl ⟨rfl, h1, h2, h3, ih _ _ _ h4 (fun i hi => hz i ?_) hm⟩)
      rw [if_neg (by decide)] at hi
      rw [if_pos rfl]
      omega
    · obtain ⟨rfl, h1, h2, h3, h4⟩ := h
      refine Or.inr (Or.inr (Or.inl ⟨rfl, h1, h2, ?_, ih _ _ _ h4 (fun i hi => hz i ?_) hm⟩))
      · obtain ⟨z1, -⟩ := hz (p - 1).toNat (by rw [if_pos rfl]; omega)
        unfold wk_PB at h3 ⊢
        rw [z1]
        omega
      · rw [if_neg (by decide)] at hi
        rw [if_pos rfl]
        omega
    · obtain ⟨rfl, h1, h2, h4⟩ := h
      exact Or.inr (Or.inr (Or.inr (Or.inl ⟨rfl, h1, h2, ih _ _ _ h4 hz hm⟩)))
    · obtain ⟨rfl, h1, h2, h3, h4⟩ := h
      exact Or.inr (Or.inr (Or.inr (Or.inr (Or.inl ⟨rfl, h1, h2, h3, ih _ _ _ h4 hz hm⟩))))
    · obtain ⟨rfl, h1, h2, h3, h4⟩ := h
      refine Or.inr (Or.inr (Or.inr (Or.inr (Or.inr (Or.inl ⟨rfl, h1, h2, ?_, ih _ _ _ h4 (fun i hi => hz i ?_) hm⟩)))))
      · obtain ⟨z1, z2⟩ := hz (p - 1).toNat (by rw [if_pos rfl]; omega)
        unfold wk_PM at h3 ⊢
        rw [z1, z2]
        omega
      · rw [if_pos rfl] at hi ⊢
        omega
    · obtain ⟨rfl, h1, h2, h4⟩ := h
      refine Or.inr (Or.inr (Or.inr (Or.inr (Or.inr (Or.inr (Or.inl ⟨rfl, h1, h2, ih _ _ _ h4 (fun i hi => hz i ?_) hm⟩))))))
      rw [if_pos rfl] at hi
      rw [if_neg (by decide)]
      exact hi
    · obtain ⟨rfl, h1, h2, h4⟩ := h
      exact Or.inr (Or.inr (Or.inr (Or.inr (Or.inr (Or.inr (Or.inr (Or.inl ⟨rfl, h1, h2, ih _ _ _ h4 hz hm⟩)))))))
    · obtain ⟨rfl, h1, h2, h4⟩ := h
      exact Or.inr (Or.inr (Or.inr (Or.inr (Or.inr (Or.inr (Or.inr (Or.inr (Or.inl ⟨rfl, h1, h2, ih _ _ _ h4 hz hm⟩))))))))
    · obtain ⟨rfl, h1, h2, h3, h4, h5, h6⟩ := h
      exact Or.inr (Or.inr (Or.inr (Or.inr (Or.inr (Or.inr (Or.inr (Or.inr (Or.inr ⟨rfl, h1, h2, h3, h4, h5, ih _ _ _ h6 hz hm⟩))))))))
/-- a pair is opened; its middle comes -/
theorem wk_open (h : wk_SI Y Z r 1 p l) (hb : wk_PB Z p) : wk_SI Y Z r 0 p l := by
  cases r with
  | nil =>
    unfold wk_SI at h
    omega
  | cons e r =>
    unfold wk_SI at h ⊢
    rcases h with h | h | h | h | h | h | h | h | h | h
    · exfalso; omega
    · exfalso; omega
    · exfalso; omega
    · exact Or.inr (Or.inr (Or.inl ⟨rfl, h.2.1, h.2.2.1, hb, h.2.2.2⟩))
    all_goals (exfalso; omega)
theorem wk_middle (h : wk_SI Y Z r 2 p l) (hb : wk_PM Z p) : wk_SI Y Z r 0 p l := by
  cases r with
  | nil =>
    unfold wk_SI at h
    omega
  | cons e r =>
    unfold wk_SI at h ⊢
    rcases h with h | h | h | h | h | h | h | h | h | h
    · exfalso; omega
    · exfalso; omega
    · exfalso; omega
    · exfalso; omega
    · refine Or.inl ⟨rfl, h.2.1, h.2.2.1, h.2.2.2.1, ?_⟩
      have h3 := h.2.2.2.2
      cases r with
      | nil =>
        unfold wk_SI at h3
        omega
      | cons e2 r2 =>
        unfold wk_SI at h3 ⊢
        rcases h3 with k | k | k | k | k | k | k | k | k | k
        · exfalso; omega
        · exfalso; omega
        · exfalso; omega
        · exfalso; omega
        · exfalso; omega
        · exfalso; omega
        · exact Or.inr (Or.inr (Or.inr (Or.inr (Or.inr (Or.inl ⟨rfl, k.2.1, k.2.2.1, hb, k.2.2.2⟩)))))
        all_goals (exfalso; omega)
    all_goals (exfalso; omega)
/-- the items of an alternative -/
theorem wk_SI_it (hL : wk_L g Y) {f : Int} (hf0 : 0 ≤ f) (hf1 : f < wk_f Y) (hr : wk_SI Y Z r 0 p l) (hl0 : 1 ≤ l) (hl1 : l ≤ 12) (hp0 : 0 ≤ p) (hp1 : p ≤ 5 * (l - 1) + wk_d Y f) : ∀ (n : Nat) (u : Int), (u < 0 ∨ (u < wk_u Y ∧ wk_c Y u = f)) → (0 ≤ u → (r.length : Int) + 4 * (wk_x Y f - u) - 1 ≤ 242 * l) → wk_SI Y Z (wk_it g n u ++ r) 0 p l ∧ (0 ≤ u → ((wk_it g n u).length : Int) ≤ 2 * (wk_x Y f - u)) ∧ (u < 0 → (wk_it g n u).length = 0) := by
  intro n
  induction n with
  | zero =>
    intro u hu hb
    refine ⟨hr, fun h0 => ?_, fun _ => rfl⟩
    show (0 : Int) ≤ _
    have hu2 : u < wk_u Y ∧ wk_c Y u = f := by omega
    obtain ⟨⟨a1, a2, -⟩, -⟩ := hL.2.2.1 u h0 hu2.1
    rw [hu2.2] at a2
    omega
  | succ n ih =>
    intro u hu hb
    unfold wk_it
    by_cases hneg : u < 0
    · rw [if_pos hneg]
      exact ⟨hr, fun h0 => absurd hneg (by omega), fun _ => rfl⟩
    · rw [if_neg hneg]
      have h0 : 0 ≤ u := by omega
      have hu2 : u < wk_u Y ∧ wk_c Y u = f := by omega
      have hb := hb h0
      obtain ⟨⟨a1, a2, -⟩, a3, a4, -⟩ := hL.2.2.1 u h0 hu2.1
      rw [hu2.2] at a2 a3 a4
      generalize hv : g 125 u.toNat = v at a4
      have hih := ih v (by
        by_cases hv0 : 0 ≤ v
        · have := a4 hv0
          exact Or.inr ⟨this.1, this.2.1⟩
        · exact Or.inl (by omega)) (fun hv0 => by have := a4 hv0; omega)
      obtain ⟨i1, i2, i3⟩ := hih
      generalize hm : g 124 u.toNat = m at a3 a4
      by_cases hm0 : 0 ≤ m
      · rw [if_pos hm0]
        have a3 := a3 hm0
        obtain ⟨⟨b1, b2, -⟩, -⟩ := hL.2.2.1 m hm0 a3.1
        rw [a3.2.1] at b2
        have hk : (((wk_it g n v).length : Nat) : Int) ≤ 2 * (wk_x Y f - wk_e Y m) := by
          by_cases hv0 : 0 ≤ v
          · have := i2 hv0
            have := (a4 hv0).2.2.2 hm0
            omega
          · have := i3 (by omega)
            omega
        have hlen : ((wk_it g n v ++ r).length : Int) = ((wk_it g n v).length : Int) + (r.length : Int) := by rw [List.length_append]; omega
        refine ⟨?_, fun _ => ?_, fun z => absurd z hneg⟩
        · show wk_SI Y Z ((0, u, 1) :: (3, 0, 0) :: (0, m, 0) :: (4, 0, 0) :: (wk_it g n v ++ r)) 0 p l
          refine wk_ppair ?_ ?_ i1
          · rw [hlen]
            unfold wk_U
            rw [hu2.2]
            exact ⟨h0, hu2.1, by omega, hp0, by omega, hl0, hl1⟩
          · rw [hlen]
            unfold wk_U
            rw [a3.2.1]
            exact ⟨hm0, a3.1, by omega, by omega, by omega, hl0, hl1⟩
        · simp only [List.length_cons]
          omega
      · rw [if_neg hm0]
        have hk : (((wk_it g n v).length : Nat) : Int) ≤ 2 * (wk_x Y f - wk_e Y u) := by
          by_cases hv0 : 0 ≤ v
          · have := i2 hv0
            have := (a4 hv0).2.2.1
            omega
          · have := i3 (by omega)
            omega
        have hlen : ((wk_it g n v ++ r).length : Int) = ((wk_it g n v).length : Int) + (r.length : Int) := by rw [List.length_append]; omega
        refine ⟨?_, fun _ => ?_, fun z => absurd z hneg⟩
        · show wk_SI Y Z ((0, u, 0) :: (wk_it g n v ++ r)) 0 p l
          refine wk_pu0 ?_ i1
          rw [hlen]
          unfold wk_U
          rw [hu2.2]
          exact ⟨h0, hu2.1, by omega, hp0, by omega, hl0, hl1⟩
        · simp only [List.length_cons]
          omega
/-- what a unit by itself puts on the stack -/
def wk_sS (g : wk_g) (u : Int) (r : List wk_E) : List wk_E := if g 119 u.toNat = 9 then (1, wk_rf g u, 0) :: (2, 1, 0) :: r else if g 119 u.toNat = 10 then (1, g 120 u.toNat, 0) :: r else r
def wk_sl (g : wk_g) (u l : Int) : Int := if g 119 u.toNat = 9 then l + 1 else l
theorem wk_SI_s (hL : wk_L g Y) {u : Int} (hu0 : 0 ≤ u) (hu1 : u < wk_u Y) (hr : wk_SI Y Z r 0 p l) (hl0 : 1 ≤ l) (hl1 : wk_sl g u l ≤ 12) (hp0 : 0 ≤ p) (hp1 : p ≤ 5 * (l - 1) + wk_d Y (wk_c Y u) + 1) (hi : (r.length : Int) + 4 * (wk_e Y u - u) - 4 ≤ 242 * l) : wk_SI Y Z (wk_sS g u r) 0 p (wk_sl g u l) := by
  obtain ⟨⟨a1, a2, a3, a4, a5⟩, -, -, a6, a7, -⟩ := hL.2.2.1 u hu0 hu1
  have hd := hL.2.2.2 _ a4 a5
  unfold wk_sS wk_sl at *
  by_cases h9 : g 119 u.toNat = 9
  · rw [if_pos h9] at hl1 ⊢
    rw [if_pos h9]
    obtain ⟨-, -, -, -, b1, b2, b3⟩ := a6 h9
    have hd2 := hL.2.2.2 _ b1 b2
    refine wk_pform ⟨b1, b2, ?_, hp0, ?_, by omega, hl1⟩ (wk_pout (Or.inr rfl) hp0 (by omega) hl1 ?_)
    · simp only [List.length_cons]
      omega
    · have h1 := hd.2.1
      have h2 := hd2.1
      omega
    · have : l + 1 - 1 = l := by omega
      rw [this]
      exact hr
  · rw [if_neg h9] at hl1 ⊢
    rw [if_neg h9]
    by_cases h10 : g 119 u.toNat = 10
    · rw [if_pos h10]
      obtain ⟨b1, b2, b3, b4⟩ := a7 h10
      refine wk_pform ⟨b1, b2, by omega, hp0, by omega, hl0, hl1⟩ hr
    · rw [if_neg h10]
      exact hr
end WK1
/-! THE REPLAY: K, V the kinds and the values of the nodes in the order in which they were made -/
/-- uses on the stack -/
def wk_ul : List wk_E → Int
  | [] => 0
  | e :: r => (if e.1 = 2 then e.2.1 else 0) + wk_ul r
def wk_sg (g : wk_g) (K : Nat → Int) (u : Int) (r : List wk_E) (c : Nat) : Option (List wk_E × Nat) :=
  if g 119 u.toNat = 9 then (if K c = 1 ∧ wk_ul r < 12 then some (wk_sS g u r, c + 1) else none)
  else if g 119 u.toNat = 1 then (if K c = 2 then some (r, c + 1) else none)
  else if g 119 u.toNat = 2 then (if K c = 3 then some (r, c + 1) else none)
  else some (wk_sS g u r, c)
def wk_pf (g : wk_g) (K V : Nat → Int) (s : List wk_E × Nat) : Option (List wk_E × Nat) := match s.1 with
  | [] => none
  | e :: r =>
    if e.1 = 0 then
      (if g 122 e.2.1.toNat = 1 then (if K s.2 = 5 ∧ 0 ≤ V s.2 ∧ V s.2 ≤ 1000000 then some ((5, e.2.1, V s.2) :: (2, 0, 0) :: r, s.2 + 1) else none)
       else if g 122 e.2.1.toNat = 2 then (if K s.2 = 6 ∧ 0 ≤ V s.2 ∧ V s.2 ≤ 1000000 then (if 0 < V s.2 then wk_sg g K e.2.1 ((2, 0, 0) :: r) (s.2 + 1) else some ((2, 0, 0) :: r, s.2 + 1)) else none)
       else wk_sg g K e.2.1 r s.2)
    else if e.1 = 1 then
      (if 1 < g 130 e.2.1.toNat then (if K s.2 = 4 ∧ 0 ≤ V s.2 ∧ V s.2 < g 130 e.2.1.toNat then some (wk_it g 61 (g 126 (wk_alt g (V s.2).toNat (g 129 e.2.1.toNat)).toNat) ++ (2, 0, 0) :: r, s.2 + 1) else none)
       else some (wk_it g 61 (g 126 (g 129 e.2.1.toNat).toNat) ++ r, s.2))
    else if e.1 = 5 then (if 0 < e.2.2 then wk_sg g K e.2.1 ((5, e.2.1, e.2.2 - 1) :: r) s.2 else some (r, s.2))
    else some (r, s.2)
def wk_tr (g : wk_g) (K V : Nat → Int) : Nat → List wk_E × Nat → Option (List wk_E × Nat)
  | 0, s => some s
  | n + 1, s => (wk_tr g K V n s).bind (wk_pf g K V)
def wk_0 (g : wk_g) : List wk_E × Nat := ([(1, g 114 0, 0), (2, 1, 0)], 1)
section WK2
variable {g : wk_g} {Y : wk_Y} {Z : wk_P} {K V V' : Nat → Int}
theorem wk_SI_ul : ∀ (r : List wk_E) (q : Nat) (p l : Int), wk_SI Y Z r q p l → wk_ul r = l := by
  intro r
  induction r with
  | nil => intro q p l h; unfold wk_SI at h; unfold wk_ul; omega
  | cons e r ih =>
    intro q p l h
    unfold wk_SI at h
    unfold wk_ul
    rcases h with h | h | h | h | h | h | h | h | h | h
    · rw [if_neg (by omega), ih _ _ _ h.2.2.2.2]; omega
    · rw [if_neg (by omega), ih _ _ _ h.2.2.2.2]; omega
    · rw [if_neg (by omega), ih _ _ _ h.2.2.2.2]; omega
    · rw [if_neg (by omega), ih _ _ _ h.2.2.2]; omega
    · rw [if_neg (by omega), ih _ _ _ h.2.2.2.2]; omega
    · rw [if_neg (by omega), ih _ _ _ h.2.2.2.2]; omega
    · rw [if_neg (by omega), ih _ _ _ h.2.2.2]; omega
    · rw [if_neg (by omega), ih _ _ _ h.2.2.2]; omega
    · rw [if_neg (by omega), ih _ _ _ h.2.2.2]; omega
    · rw [if_pos h.2.1, ih _ _ _ h.2.2.2.2.2.2]; omega
theorem wk_sg_mono {u : Int} {r : List wk_E} {c : Nat} {s' : List wk_E × Nat} (h : wk_sg g K u r c = some s') : c ≤ s'.2 := by
  unfold wk_sg at h
  repeat' split at h
  all_goals first
    | (cases h; done)
    | (cases h; exact Nat.le_succ _)
    | (cases h; exact Nat.le_refl _)
theorem wk_pf_mono {s s' : List wk_E × Nat} (h : wk_pf g K V s = some s') : s.2 ≤ s'.2 := by
  unfold wk_pf at h
  split at h
  · cases h
  · split at h
    · split at h
      · split at h
        · cases h; exact Nat.le_succ _
        · cases h
      · split at h
        · split at h
          · split at h
            · exact Nat.le_trans (Nat.le_succ _) (wk_sg_mono h)
            · cases h; exact Nat.le_succ _
          · cases h
        · exact wk_sg_mono h
    · split at h
      · split at h
        · split at h
          · cases h; exact Nat.le_succ _
          · cases h
        · cases h; exact Nat.le_refl _
      · split at h
        · split at h
          · exact wk_sg_mono h
          · cases h; exact Nat.le_refl _
        · cases h; exact Nat.le_refl _
/-- what the replay does not look at may change -/
theorem wk_pf_V (hV : ∀ k, K k = 4 ∨ K k = 5 ∨ K k = 6 → V' k = V k) (s : List wk_E × Nat) : wk_pf g K V' s = wk_pf g K V s := by
  unfold wk_pf
  split
  · rfl
  · by_cases h4 : K s.2 = 4 ∨ K s.2 = 5 ∨ K s.2 = 6
    · rw [hV _ h4]
    · have n4 : ¬ K s.2 = 4 := fun h => h4 (Or.inl h)
      have n5 : ¬ K s.2 = 5 := fun h => h4 (Or.inr (Or.inl h))
      have n6 : ¬ K s.2 = 6 := fun h => h4 (Or.inr (Or.inr h))
      simp only [n4, n5, n6, false_and, if_false]
theorem wk_tr_V (hV : ∀ k, K k = 4 ∨ K k = 5 ∨ K k = 6 → V' k = V k) (s : List wk_E × Nat) : ∀ n, wk_tr g K V' n s = wk_tr g K V n s := by
  intro n
  induction n with
  | zero => rfl
  | succ n ih =>
    unfold wk_tr
    rw [ih]
    exact congrArg _ (funext fun x => wk_pf_V hV x)
/-- a trace, up to any time -/
theorem wk_tr_le {s x : List wk_E × Nat} : ∀ (n t : Nat), wk_tr g K V n s = some x → t ≤ n → ∃ y, wk_tr g K V t s = some y ∧ y.2 ≤ x.2 := by
  intro n
  induction n generalizing x with
  | zero =>
    intro t h ht
    have : t = 0 := by omega
    subst this
    exact ⟨x, h, Nat.le_refl _⟩
  | succ n ih =>
    intro t h ht
    by_cases he : t = n + 1
    · subst he
      exact ⟨x, h, Nat.le_refl _⟩
    · unfold wk_tr at h
      cases hn : wk_tr g K V n s with
      | none => rw [hn] at h; cases h
      | some y =>
        rw [hn] at h
        obtain ⟨z, z1, z2⟩ := ih t hn (by omega)
        exact ⟨z, z1, Nat.le_trans z2 (wk_pf_mono h)⟩
theorem wk_tr_next {s x y : List wk_E × Nat} {n t : Nat} (h : wk_tr g K V n s = some x) (ht : t < n) (hy : wk_tr g K V t s = some y) : ∃ y', wk_pf g K V y = some y' ∧ wk_tr g K V (t + 1) s = some y' ∧ y'.2 ≤ x.2 := by
  obtain ⟨y', h1, h2⟩ := wk_tr_le n (t + 1) h ht
  refine ⟨y', ?_, h1, h2⟩
  unfold wk_tr at h1
  rw [hy] at h1
  exact h1
end WK2
/-! methods of the table -/
theorem mi_P12 : sc_P 12 = some (2, 1, sb_12) := rfl
theorem mi_P13 : sc_P 13 = some (1, 0, sb_13) := rfl
theorem mi_P14 : sc_P 14 = some (3, 1, sb_14) := rfl
theorem mi_P15 : sc_P 15 = some (2, 0, sb_15) := rfl
theorem mi_P16 : sc_P 16 = some (3, 0, sb_16) := rfl
theorem mi_P17 : sc_P 17 = some (1, 0, sb_17) := rfl
theorem mi_P18 : sc_P 18 = some (2, 0, sb_18) := rfl
theorem mi_P19 : sc_P 19 = some (3, 1, sb_19) := rfl
theorem mi_P20 : sc_P 20 = some (2, 5, sb_20) := rfl
theorem mi_P21 : sc_P 21 = some (1, 4, sb_21) := rfl
theorem mi_P22 : sc_P 22 = some (1, 1, sb_22) := rfl
theorem mi_P23 : sc_P 23 = some (1, 4, sb_23) := rfl
theorem mi_P24 : sc_P 24 = some (1, 0, sb_24) := rfl
theorem mi_P25 : sc_P 25 = some (3, 1, sb_25) := rfl
theorem mi_P26 : sc_P 26 = some (6, 4, sb_26) := rfl
theorem mi_P33 : sc_P 33 = some (3, 0, sb_33) := rfl
theorem mi_P34 : sc_P 34 = some (5, 1, sb_34) := rfl
theorem mi_P35 : sc_P 35 = some (2, 0, sb_35) := rfl
theorem mi_P36 : sc_P 36 = some (1, 4, sb_36) := rfl
theorem mi_P37 : sc_P 37 = some (1, 4, sb_37) := rfl
theorem mi_P38 : sc_P 38 = some (1, 1, sb_38) := rfl
theorem mi_P39 : sc_P 39 = some (2, 0, sb_39) := rfl
theorem mi_P40 : sc_P 40 = some (2, 1, sb_40) := rfl
theorem mi_P41 : sc_P 41 = some (3, 1, sb_41) := rfl
theorem mi_P42 : sc_P 42 = some (4, 1, sb_42) := rfl
theorem mi_P44 : sc_P 44 = some (6, 1, sb_44) := rfl
theorem mi_P46 : sc_P 46 = some (2, 1, sb_46) := rfl
theorem mi_P47 : sc_P 47 = some (3, 0, sb_47) := rfl
theorem mi_P48 : sc_P 48 = some (3, 1, sb_48) := rfl
theorem mi_P49 : sc_P 49 = some (2, 1, sb_49) := rfl
theorem mi_P50 : sc_P 50 = some (3, 1, sb_50) := rfl
theorem mi_P51 : sc_P 51 = some (2, 0, sb_51) := rfl
theorem mi_P52 : sc_P 52 = some (7, 0, sb_52) := rfl
theorem mi_P53 : sc_P 53 = some (5, 1, sb_53) := rfl
theorem mi_P54 : sc_P 54 = some (7, 0, sb_54) := rfl
theorem mi_P55 : sc_P 55 = some (5, 1, sb_55) := rfl
theorem mi_P56 : sc_P 56 = some (1, 4, sb_56) := rfl
theorem mi_P57 : sc_P 57 = some (3, 4, sb_57) := rfl
theorem mi_P58 : sc_P 58 = some (3, 1, sb_58) := rfl
theorem mi_P59 : sc_P 59 = some (5, 1, sb_59) := rfl
theorem mi_P60 : sc_P 60 = some (5, 1, sb_60) := rfl
theorem mi_P61 : sc_P 61 = some (3, 1, sb_61) := rfl
theorem mi_P62 : sc_P 62 = some (1, 1, sb_62) := rfl
theorem mi_P63 : sc_P 63 = some (4, 0, sb_63) := rfl
theorem mi_P64 : sc_P 64 = some (3, 0, sb_64) := rfl
theorem mi_P65 : sc_P 65 = some (2, 0, sb_65) := rfl
theorem mi_P66 : sc_P 66 = some (4, 0, sb_66) := rfl
theorem mi_P67 : sc_P 67 = some (3, 0, sb_67) := rfl
theorem mi_P68 : sc_P 68 = some (9, 0, sb_68) := rfl
theorem mi_P69 : sc_P 69 = some (9, 0, sb_69) := rfl
theorem mi_P70 : sc_P 70 = some (4, 0, sb_70) := rfl
theorem mi_P71 : sc_P 71 = some (3, 1, sb_71) := rfl
theorem mi_P72 : sc_P 72 = some (2, 2, sb_72) := rfl
theorem mi_P73 : sc_P 73 = some (4, 1, sb_73) := rfl
theorem mi_P74 : sc_P 74 = some (2, 4, sb_74) := rfl
theorem mi_P75 : sc_P 75 = some (4, 1, sb_75) := rfl
theorem mi_P76 : sc_P 76 = some (5, 0, sb_76) := rfl
theorem mi_P77 : sc_P 77 = some (12, 0, sb_77) := rfl
theorem mi_P78 : sc_P 78 = some (9, 2, sb_78) := rfl
theorem mi_P79 : sc_P 79 = some (6, 0, sb_79) := rfl
theorem mi_P80 : sc_P 80 = some (4, 0, sb_80) := rfl
theorem mi_P81 : sc_P 81 = some (5, 1, sb_81) := rfl
theorem mi_P82 : sc_P 82 = some (2, 1, sb_82) := rfl
theorem mi_P83 : sc_P 83 = some (3, 0, sb_83) := rfl
theorem mi_P84 : sc_P 84 = some (4, 0, sb_84) := rfl
theorem mi_P85 : sc_P 85 = some (2, 4, sb_85) := rfl
theorem mi_P86 : sc_P 86 = some (3, 0, sb_86) := rfl
theorem mi_P87 : sc_P 87 = some (8, 0, sb_87) := rfl
theorem mi_P88 : sc_P 88 = some (1, 1, sb_88) := rfl
theorem mi_P89 : sc_P 89 = some (3, 0, sb_89) := rfl
theorem mi_P90 : sc_P 90 = some (1, 0, sb_90) := rfl
theorem mi_P91 : sc_P 91 = some (3, 4, sb_91) := rfl
theorem mi_P92 : sc_P 92 = some (1, 4, sb_92) := rfl
theorem mi_P93 : sc_P 93 = some (3, 0, sb_93) := rfl
theorem mi_P95 : sc_P 95 = some (3, 4, sb_95) := rfl
theorem mi_P97 : sc_P 97 = some (3, 1, sb_97) := rfl
theorem mi_P98 : sc_P 98 = some (2, 1, sb_98) := rfl
theorem mi_P99 : sc_P 99 = some (3, 0, sb_99) := rfl
theorem mi_P102 : sc_P 102 = some (1, 1, sb_102) := rfl
theorem mi_P103 : sc_P 103 = some (1, 0, sb_103) := rfl
theorem mi_P104 : sc_P 104 = some (1, 0, sb_104) := rfl
theorem mi_P105 : sc_P 105 = some (1, 0, sb_105) := rfl
theorem mi_P106 : sc_P 106 = some (2, 0, sb_106) := rfl
theorem mi_P107 : sc_P 107 = some (2, 0, sb_107) := rfl
theorem mi_P108 : sc_P 108 = some (3, 1, sb_108) := rfl
theorem mi_P109 : sc_P 109 = some (1, 0, sb_109) := rfl
theorem mi_P110 : sc_P 110 = some (4, 1, sb_110) := rfl
theorem mi_P111 : sc_P 111 = some (1, 0, sb_111) := rfl
theorem mi_P112 : sc_P 112 = some (1, 0, sb_112) := rfl
theorem mi_P113 : sc_P 113 = some (4, 0, sb_113) := rfl
theorem mi_P114 : sc_P 114 = some (1, 0, sb_114) := rfl
theorem mi_P115 : sc_P 115 = some (3, 1, sb_115) := rfl
theorem mi_P116 : sc_P 116 = some (4, 1, sb_116) := rfl
theorem mi_P117 : sc_P 117 = some (3, 1, sb_117) := rfl
theorem mi_P118 : sc_P 118 = some (1, 0, sb_118) := rfl
theorem mi_P119 : sc_P 119 = some (1, 0, sb_119) := rfl
theorem mi_P120 : sc_P 120 = some (11, 0, sb_120) := rfl
theorem mi_P121 : sc_P 121 = some (2, 1, sb_121) := rfl
theorem mi_P122 : sc_P 122 = some (6, 1, sb_122) := rfl
theorem mi_P123 : sc_P 123 = some (2, 1, sb_123) := rfl
theorem mi_P124 : sc_P 124 = some (4, 1, sb_124) := rfl
theorem mi_P125 : sc_P 125 = some (3, 4, sb_125) := rfl
theorem mi_P126 : sc_P 126 = some (2, 1, sb_126) := rfl
theorem mi_P127 : sc_P 127 = some (5, 1, sb_127) := rfl
theorem mi_P128 : sc_P 128 = some (3, 1, sb_128) := rfl
theorem mi_P129 : sc_P 129 = some (5, 1, sb_129) := rfl
theorem mi_P130 : sc_P 130 = some (2, 1, sb_130) := rfl
theorem mi_P131 : sc_P 131 = some (7, 0, sb_131) := rfl
theorem mi_P132 : sc_P 132 = some (4, 0, sb_132) := rfl
theorem mi_P133 : sc_P 133 = some (3, 0, sb_133) := rfl
theorem mi_P134 : sc_P 134 = some (4, 1, sb_134) := rfl
theorem mi_P135 : sc_P 135 = some (4, 0, sb_135) := rfl
theorem mi_P136 : sc_P 136 = some (3, 0, sb_136) := rfl
theorem mi_P137 : sc_P 137 = some (1, 1, sb_137) := rfl
theorem mi_P138 : sc_P 138 = some (3, 0, sb_138) := rfl
theorem mi_P139 : sc_P 139 = some (3, 0, sb_139) := rfl
theorem mi_P140 : sc_P 140 = some (2, 0, sb_140) := rfl
theorem mi_P141 : sc_P 141 = some (4, 0, sb_141) := rfl
theorem mi_P142 : sc_P 142 = some (2, 1, sb_142) := rfl
theorem mi_P143 : sc_P 143 = some (2, 1, sb_143) := rfl
theorem mi_P144 : sc_P 144 = some (5, 4, sb_144) := rfl
theorem mi_P145 : sc_P 145 = some (4, 4, sb_145) := rfl
theorem mi_P146 : sc_P 146 = some (2, 0, sb_146) := rfl
theorem mi_P147 : sc_P 147 = some (2, 0, sb_147) := rfl
theorem mi_P148 : sc_P 148 = some (2, 0, sb_148) := rfl
theorem mi_P149 : sc_P 149 = some (3, 1, sb_149) := rfl
theorem mi_P150 : sc_P 150 = some (2, 1, sb_150) := rfl
theorem mi_P151 : sc_P 151 = some (3, 0, sb_151) := rfl
theorem mi_P152 : sc_P 152 = some (3, 0, sb_152) := rfl
theorem mi_P153 : sc_P 153 = some (3, 0, sb_153) := rfl
theorem mi_P154 : sc_P 154 = some (5, 0, sb_154) := rfl
theorem mi_P155 : sc_P 155 = some (4, 0, sb_155) := rfl
theorem mi_P156 : sc_P 156 = some (1, 0, sb_156) := rfl
theorem mi_P157 : sc_P 157 = some (1, 0, sb_157) := rfl
theorem mi_P158 : sc_P 158 = some (4, 1, sb_158) := rfl
theorem mi_P159 : sc_P 159 = some (4, 0, sb_159) := rfl
theorem mi_P160 : sc_P 160 = some (3, 2, sb_160) := rfl
theorem mi_P161 : sc_P 161 = some (3, 1, sb_161) := rfl
theorem mi_P162 : sc_P 162 = some (6, 4, sb_162) := rfl
theorem mi_P163 : sc_P 163 = some (7, 4, sb_163) := rfl
theorem mi_P164 : sc_P 164 = some (1, 1, sb_164) := rfl
theorem mi_P171 : sc_P 171 = some (3, 4, sb_171) := rfl
theorem mi_P172 : sc_P 172 = some (3, 1, sb_172) := rfl
theorem mi_P173 : sc_P 173 = some (2, 1, sb_173) := rfl
theorem mi_P174 : sc_P 174 = some (5, 0, sb_174) := rfl
theorem mi_P175 : sc_P 175 = some (2, 1, sb_175) := rfl
theorem mi_P176 : sc_P 176 = some (3, 0, sb_176) := rfl
theorem mi_P177 : sc_P 177 = some (4, 0, sb_177) := rfl
theorem mi_P178 : sc_P 178 = some (1, 4, sb_178) := rfl
theorem mi_P179 : sc_P 179 = some (2, 1, sb_179) := rfl
theorem mi_P180 : sc_P 180 = some (1, 4, sb_180) := rfl
theorem mi_P181 : sc_P 181 = some (4, 1, sb_181) := rfl
theorem mi_P182 : sc_P 182 = some (1, 4, sb_182) := rfl
theorem mi_P183 : sc_P 183 = some (3, 0, sb_183) := rfl
theorem mi_P184 : sc_P 184 = some (3, 0, sb_184) := rfl
theorem mi_P185 : sc_P 185 = some (1, 1, sb_185) := rfl
theorem mi_P186 : sc_P 186 = some (9, 0, sb_186) := rfl
theorem mi_P187 : sc_P 187 = some (4, 0, sb_187) := rfl
theorem mi_P188 : sc_P 188 = some (1, 4, sb_188) := rfl
theorem mi_P189 : sc_P 189 = some (2, 1, sb_189) := rfl
theorem mi_P190 : sc_P 190 = some (2, 0, sb_190) := rfl
theorem mi_P191 : sc_P 191 = some (2, 1, sb_191) := rfl
theorem mi_P192 : sc_P 192 = some (2, 0, sb_192) := rfl
theorem mi_P193 : sc_P 193 = some (2, 0, sb_193) := rfl
theorem mi_P194 : sc_P 194 = some (4, 0, sb_194) := rfl
theorem mi_P195 : sc_P 195 = some (4, 0, sb_195) := rfl
theorem mi_P196 : sc_P 196 = some (11, 0, sb_196) := rfl
theorem mi_P197 : sc_P 197 = some (4, 1, sb_197) := rfl
theorem mi_P198 : sc_P 198 = some (2, 4, sb_198) := rfl
theorem mi_P199 : sc_P 199 = some (8, 0, sb_199) := rfl
theorem mi_P200 : sc_P 200 = some (11, 0, sb_200) := rfl
theorem mi_P201 : sc_P 201 = some (8, 1, sb_201) := rfl
theorem mi_P202 : sc_P 202 = some (5, 1, sb_202) := rfl
theorem mi_P203 : sc_P 203 = some (3, 2, sb_203) := rfl
theorem mi_P205 : sc_P 205 = some (2, 1, sb_205) := rfl
theorem mi_P206 : sc_P 206 = some (5, 0, sb_206) := rfl
theorem mi_P207 : sc_P 207 = some (2, 0, sb_207) := rfl
theorem mi_P208 : sc_P 208 = some (4, 1, sb_208) := rfl
theorem mi_P209 : sc_P 209 = some (4, 0, sb_209) := rfl
theorem mi_P210 : sc_P 210 = some (5, 0, sb_210) := rfl
theorem mi_P211 : sc_P 211 = some (2, 1, sb_211) := rfl
theorem mi_P212 : sc_P 212 = some (3, 4, sb_212) := rfl
theorem mi_P213 : sc_P 213 = some (2, 0, sb_213) := rfl
theorem mi_P214 : sc_P 214 = some (3, 0, sb_214) := rfl
theorem mi_P215 : sc_P 215 = some (6, 0, sb_215) := rfl
theorem mi_P216 : sc_P 216 = some (4, 1, sb_216) := rfl
theorem mi_P217 : sc_P 217 = some (7, 0, sb_217) := rfl
theorem mi_P218 : sc_P 218 = some (5, 0, sb_218) := rfl
theorem mi_P219 : sc_P 219 = some (3, 0, sb_219) := rfl
theorem mi_P220 : sc_P 220 = some (2, 0, sb_220) := rfl
theorem mi_P221 : sc_P 221 = some (1, 4, sb_221) := rfl
theorem mi_P222 : sc_P 222 = some (2, 0, sb_222) := rfl
theorem mi_P223 : sc_P 223 = some (6, 0, sb_223) := rfl
theorem mi_P224 : sc_P 224 = some (4, 1, sb_224) := rfl
theorem mi_P225 : sc_P 225 = some (6, 1, sb_225) := rfl
theorem mi_P226 : sc_P 226 = some (5, 0, sb_226) := rfl
theorem mi_P227 : sc_P 227 = some (4, 0, sb_227) := rfl
theorem mi_P228 : sc_P 228 = some (1, 1, sb_228) := rfl
theorem mi_P229 : sc_P 229 = some (8, 0, sb_229) := rfl
theorem mi_P230 : sc_P 230 = some (3, 1, sb_230) := rfl
theorem mi_P231 : sc_P 231 = some (2, 1, sb_231) := rfl
theorem mi_P232 : sc_P 232 = some (4, 1, sb_232) := rfl
theorem mi_P233 : sc_P 233 = some (4, 2, sb_233) := rfl
theorem mi_P234 : sc_P 234 = some (2, 1, sb_234) := rfl
theorem mi_P235 : sc_P 235 = some (6, 4, sb_235) := rfl
theorem mi_P236 : sc_P 236 = some (5, 4, sb_236) := rfl
theorem mi_P238 : sc_P 238 = some (2, 1, sb_238) := rfl
theorem mi_P239 : sc_P 239 = some (2, 4, sb_239) := rfl
/-! segments: push, comes, enter, draw -/
theorem mi_em (c : ClassFile.Cond) (x y : Int) : mi_cmp c x y ∨ mi_cmp (ab_neg c) x y := by
  cases c <;> simp only [mi_cmp, ab_neg] <;> omega
theorem mi_okL_e : mi_okL [] := fun v hv => by cases hv
theorem mi_okL_n {r : mi_L} (hr : mi_okL r) : mi_okL (none :: r) := fun v hv => by
  rcases List.mem_cons.mp hv with e | hv
  · cases e
  · exact hr v hv
theorem mi_okL_c {v : mi_V} {r : mi_L} (hv : mi_ok v) (hr : mi_okL r) : mi_okL (some v :: r) := fun w hw => by
  rcases List.mem_cons.mp hw with e | hw
  · cases e; exact hv
  · exact hr w hw
theorem mi_okS_e : mi_okS [] := fun v hv => by cases hv
theorem mi_al_e : ∀ p ∈ ([] : List Prop), p := fun p hp => by cases hp
theorem mi_al {a : Prop} {r : List Prop} (ha : a) (hr : ∀ p ∈ r, p) : ∀ p ∈ a :: r, p := fun p hp => by
  rcases List.mem_cons.mp hp with rfl | hp
  · exact ha
  · exact hr p hp
theorem mi_tb_e : ∀ e ∈ ([] : mi_T), sc_P e.1 = some e.2 := fun e he => by cases he
theorem mi_tb {m : Nat} {M : sm_M} {r : mi_T} (hm : sc_P m = some M) (hr : ∀ e ∈ r, sc_P e.1 = some e.2) : ∀ e ∈ (m, M) :: r, sc_P e.1 = some e.2 := fun e he => by
  rcases List.mem_cons.mp he with rfl | he
  · exact hm
  · exact hr e he

set_option maxRecDepth 20000 in
theorem mp_push_0 (h : sm_H) (d : Nat) (e0 e1 e2 : Int) : mi_path [(209, (4, 0, sb_209))] sx_sk h 23 [8] (d, 209, 0, [some (.inr (.inr 109)), some (.inl (e0)), some (.inl (e1)), some (.inl (e2))], [], [], []) = some ((d, 209, 37, [some (.inr (.inr 109)), some (.inl (e0)), some (.inl (e1)), some (.inl (e2))], [], [.inr (.inr (.inl (167, Int.toNat (mi_f h 14029), e2))), .inl (14029, (mi_f h 14029) + ((1 : Int))), .inr (.inr (.inl (166, Int.toNat (mi_f h 14029), e1))), .inr (.inr (.inl (165, Int.toNat (mi_f h 14029), e0)))], []), [0 ≤ (mi_f h 14029) ∧ (mi_f h 14029) < 3000, 0 ≤ (mi_f h 14029) ∧ (mi_f h 14029) < 3000, -2147483648 ≤ (mi_f h 14029) + ((1 : Int)) ∧ (mi_f h 14029) + ((1 : Int)) ≤ 2147483647, 0 ≤ (mi_f h 14029) ∧ (mi_f h 14029) < 3000]) := rfl
theorem mi_tab_push_0 : ∀ e ∈ ([(209, (4, 0, sb_209))] : mi_T), sc_P e.1 = some e.2 := mi_tb mi_P209 (mi_tb_e)
set_option maxRecDepth 20000 in
theorem ms_push_0 {h : sm_H} {d : Nat} {Q : Option mi_V → sm_H → Prop} {e0 e1 e2 : Int} (hS : ab_Sh sx_sk h) (ok_e0 : mi_in e0) (ok_e1 : mi_in e1) (ok_e2 : mi_in e2) (ho : (0 ≤ (mi_f h 14029) ∧ (mi_f h 14029) < 3000) ∧ (0 ≤ (mi_f h 14029) ∧ (mi_f h 14029) < 3000) ∧ (-2147483648 ≤ (mi_f h 14029) + ((1 : Int)) ∧ (mi_f h 14029) + ((1 : Int)) ≤ 2147483647) ∧ (0 ≤ (mi_f h 14029) ∧ (mi_f h 14029) < 3000)) (kon : ∀ h1, me_W [.inr (.inr (.inl (167, Int.toNat (mi_f h 14029), e2))), .inl (14029, (mi_f h 14029) + ((1 : Int))), .inr (.inr (.inl (166, Int.toNat (mi_f h 14029), e1))), .inr (.inr (.inl (165, Int.toNat (mi_f h 14029), e0)))] h h1 → Q none h1) : me_E (d) 209 0 [some (.inr (.inr 109)), some (.inl (e0)), some (.inl (e1)), some (.inl (e2))] [] h Q := me_seg (mp_push_0 h d e0 e1 e2) (mi_tab_push_0) hS (mi_okL_c (trivial) (mi_okL_c (ok_e0) (mi_okL_c (ok_e1) (mi_okL_c (ok_e2) (mi_okL_e))))) (mi_okS_e) (mi_al (ho.1) (mi_al (ho.2.1) (mi_al (ho.2.2.1) (mi_al (ho.2.2.2) (mi_al_e))))) (fun h1 W _ hst => me_ret (M := (4, 0, sb_209)) rfl rfl rfl hst (mi_al_e) (kon h1 W))
set_option maxRecDepth 20000 in
theorem mt_push {h : sm_H} {d : Nat} {Q : Option mi_V → sm_H → Prop} {e0 e1 e2 : Int} (hS : ab_Sh sx_sk h) (ok_e0 : mi_in e0) (ok_e1 : mi_in e1) (ok_e2 : mi_in e2) (k0 : ((-2147483648) ≤ mi_f h 14029 ∧ mi_f h 14029 ≤ 2147483647) → ((0 ≤ (mi_f h 14029) ∧ (mi_f h 14029) < 3000) ∧ (-2147483648 ≤ (mi_f h 14029) + ((1 : Int)) ∧ (mi_f h 14029) + ((1 : Int)) ≤ 2147483647)) ∧ (∀ h1, ab_Sh sx_sk h1 → mi_f h1 14029 = (mi_f h 14029) + ((1 : Int)) → (∀ i, mi_a h1 165 i = if i = Int.toNat (mi_f h 14029) then e0 else (mi_a h 165 i)) → (∀ i, mi_a h1 166 i = if i = Int.toNat (mi_f h 14029) then e1 else (mi_a h 166 i)) → (∀ i, mi_a h1 167 i = if i = Int.toNat (mi_f h 14029) then e2 else (mi_a h 167 i)) → ab_Fr [(14029, 14030), (21120, 21121), (21248, 21249), (21376, 21377)] h h1 → Q none h1)) : me_E (d) 209 0 [some (.inr (.inr 109)), some (.inl (e0)), some (.inl (e1)), some (.inl (e2))] [] h Q := ms_push_0 hS ok_e0 ok_e1 ok_e2 ⟨(k0 (me_fb hS rfl)).1.1, (k0 (me_fb hS rfl)).1.1, (k0 (me_fb hS rfl)).1.2, (k0 (me_fb hS rfl)).1.1⟩ (fun h1 W => (k0 (me_fb hS rfl)).2 h1 W.1 (W.2.1 14029) (fun i => W.2.2.1 165 i) (fun i => W.2.2.1 166 i) (fun i => W.2.2.1 167 i) (W.2.2.2.2.2 _ rfl))
set_option maxRecDepth 20000 in
theorem mp_comes_0 (h : sm_H) (d : Nat) (zk : Int) (zv : Int64) : mi_path [(208, (4, 1, sb_208))] sx_sk h 47 [1, 1, 1, 8] (d, 208, 0, [some (.inr (.inr 109)), some (.inl (zk)), some (.inr (.inl (zv))), none], [], [], []) = some ((d, 208, 104, [some (.inr (.inr 109)), some (.inl (zk)), some (.inr (.inl (zv))), none], [.inl (mi_f h 14016)], [.inl (14016, (mi_f h 14016) + ((1 : Int))), .inr (.inr (.inl (160, Int.toNat (mi_f h 14016), mi_f h 14016))), .inr (.inr (.inl (159, Int.toNat (mi_f h 14016), mi_f h 14031))), .inr (.inr (.inr (163, Int.toNat (mi_f h 14016), zv))), .inr (.inr (.inl (158, Int.toNat (mi_f h 14016), zk))), .inl (14044, (0 : Int))], []), [(mi_f h 14028) ≠ ((2 : Int)), (mi_f h 14016) ≠ ((100 : Int)), 0 ≤ ((0 : Int)) ∧ ((0 : Int)) ≤ 1, 0 ≤ ((0 : Int)) ∧ ((0 : Int)) ≤ 1, ((0 : Int)) = ((0 : Int)), 0 ≤ (mi_f h 14016) ∧ (mi_f h 14016) < 100, 0 ≤ (mi_f h 14016) ∧ (mi_f h 14016) < 100, 0 ≤ (mi_f h 14016) ∧ (mi_f h 14016) < 100, 0 ≤ (mi_f h 14016) ∧ (mi_f h 14016) < 100, 0 ≤ (mi_f h 14016) ∧ (mi_f h 14016) ≤ 99, -2147483648 ≤ (mi_f h 14016) + ((1 : Int)) ∧ (mi_f h 14016) + ((1 : Int)) ≤ 2147483647, 0 ≤ ((mi_f h 14016) + ((1 : Int))) ∧ ((mi_f h 14016) + ((1 : Int))) ≤ 100]) := rfl
theorem mi_tab_comes_0 : ∀ e ∈ ([(208, (4, 1, sb_208))] : mi_T), sc_P e.1 = some e.2 := mi_tb mi_P208 (mi_tb_e)
set_option maxRecDepth 20000 in
theorem ms_comes_0 {h : sm_H} {d : Nat} {Q : Option mi_V → sm_H → Prop} {zk : Int} {zv : Int64} (hS : ab_Sh sx_sk h) (ok_zk : mi_in zk) (ho : ((mi_f h 14028) ≠ ((2 : Int))) ∧ ((mi_f h 14016) ≠ ((100 : Int))) ∧ (0 ≤ ((0 : Int)) ∧ ((0 : Int)) ≤ 1) ∧ (0 ≤ ((0 : Int)) ∧ ((0 : Int)) ≤ 1) ∧ (((0 : Int)) = ((0 : Int))) ∧ (0 ≤ (mi_f h 14016) ∧ (mi_f h 14016) < 100) ∧ (0 ≤ (mi_f h 14016) ∧ (mi_f h 14016) < 100) ∧ (0 ≤ (mi_f h 14016) ∧ (mi_f h 14016) < 100) ∧ (0 ≤ (mi_f h 14016) ∧ (mi_f h 14016) < 100) ∧ (0 ≤ (mi_f h 14016) ∧ (mi_f h 14016) ≤ 99) ∧ (-2147483648 ≤ (mi_f h 14016) + ((1 : Int)) ∧ (mi_f h 14016) + ((1 : Int)) ≤ 2147483647) ∧ (0 ≤ ((mi_f h 14016) + ((1 : Int))) ∧ ((mi_f h 14016) + ((1 : Int))) ≤ 100)) (kon : ∀ h1, me_W [.inl (14016, (mi_f h 14016) + ((1 : Int))), .inr (.inr (.inl (160, Int.toNat (mi_f h 14016), mi_f h 14016))), .inr (.inr (.inl (159, Int.toNat (mi_f h 14016), mi_f h 14031))), .inr (.inr (.inr (163, Int.toNat (mi_f h 14016), zv))), .inr (.inr (.inl (158, Int.toNat (mi_f h 14016), zk))), .inl (14044, (0 : Int))] h h1 → Q (some (.inl (mi_f h 14016))) h1) : me_E (d) 208 0 [some (.inr (.inr 109)), some (.inl (zk)), some (.inr (.inl (zv))), none] [] h Q := me_seg (mp_comes_0 h d zk zv) (mi_tab_comes_0) hS (mi_okL_c (trivial) (mi_okL_c (ok_zk) (mi_okL_c (trivial) (mi_okL_n (mi_okL_e))))) (mi_okS_e) (mi_al (ho.1) (mi_al (ho.2.1) (mi_al (ho.2.2.1) (mi_al (ho.2.2.2.1) (mi_al (ho.2.2.2.2.1) (mi_al (ho.2.2.2.2.2.1) (mi_al (ho.2.2.2.2.2.2.1) (mi_al (ho.2.2.2.2.2.2.2.1) (mi_al (ho.2.2.2.2.2.2.2.2.1) (mi_al (ho.2.2.2.2.2.2.2.2.2.1) (mi_al (ho.2.2.2.2.2.2.2.2.2.2.1) (mi_al (ho.2.2.2.2.2.2.2.2.2.2.2) (mi_al_e))))))))))))) (fun h1 W _ hst => me_ret (M := (4, 1, sb_208)) rfl rfl rfl hst (mi_al_e) (kon h1 W))
set_option maxRecDepth 20000 in
theorem mp_comes_1 (h : sm_H) (d : Nat) (zk : Int) (zv : Int64) : mi_path [(208, (4, 1, sb_208))] sx_sk h 16 [1, 0, 0] (d, 208, 0, [some (.inr (.inr 109)), some (.inl (zk)), some (.inr (.inl (zv))), none], [], [], []) = some ((d, 208, 46, [some (.inr (.inr 109)), some (.inl (zk)), some (.inr (.inl (zv))), none], [.inl ((0 : Int))], [.inl (14044, (1 : Int))], []), [(mi_f h 14028) ≠ ((2 : Int)), (mi_f h 14016) = ((100 : Int)), 0 ≤ ((1 : Int)) ∧ ((1 : Int)) ≤ 1, 0 ≤ ((1 : Int)) ∧ ((1 : Int)) ≤ 1, ((1 : Int)) ≠ ((0 : Int))]) := rfl
theorem mi_tab_comes_1 : ∀ e ∈ ([(208, (4, 1, sb_208))] : mi_T), sc_P e.1 = some e.2 := mi_tb mi_P208 (mi_tb_e)
set_option maxRecDepth 20000 in
theorem ms_comes_1 {h : sm_H} {d : Nat} {Q : Option mi_V → sm_H → Prop} {zk : Int} {zv : Int64} (hS : ab_Sh sx_sk h) (ok_zk : mi_in zk) (ho : ((mi_f h 14028) ≠ ((2 : Int))) ∧ ((mi_f h 14016) = ((100 : Int))) ∧ (0 ≤ ((1 : Int)) ∧ ((1 : Int)) ≤ 1) ∧ (0 ≤ ((1 : Int)) ∧ ((1 : Int)) ≤ 1) ∧ (((1 : Int)) ≠ ((0 : Int)))) (kon : ∀ h1, me_W [.inl (14044, (1 : Int))] h h1 → Q (some (.inl ((0 : Int)))) h1) : me_E (d) 208 0 [some (.inr (.inr 109)), some (.inl (zk)), some (.inr (.inl (zv))), none] [] h Q := me_seg (mp_comes_1 h d zk zv) (mi_tab_comes_1) hS (mi_okL_c (trivial) (mi_okL_c (ok_zk) (mi_okL_c (trivial) (mi_okL_n (mi_okL_e))))) (mi_okS_e) (mi_al (ho.1) (mi_al (ho.2.1) (mi_al (ho.2.2.1) (mi_al (ho.2.2.2.1) (mi_al (ho.2.2.2.2) (mi_al_e)))))) (fun h1 W _ hst => me_ret (M := (4, 1, sb_208)) rfl rfl rfl hst (mi_al_e) (kon h1 W))
set_option maxRecDepth 20000 in
theorem mp_comes_2 (h : sm_H) (d : Nat) (zk : Int) (zv : Int64) : mi_path [(208, (4, 1, sb_208))] sx_sk h 11 [0, 8] (d, 208, 0, [some (.inr (.inr 109)), some (.inl (zk)), some (.inr (.inl (zv))), none], [], [], []) = some ((d, 208, 19, [some (.inr (.inr 109)), some (.inl (zk)), some (.inr (.inl (zv))), none], [.inl (mi_f h 14033)], [.inl (14033, (mi_f h 14033) + ((1 : Int)))], []), [(mi_f h 14028) = ((2 : Int)), -2147483648 ≤ (mi_f h 14033) + ((1 : Int)) ∧ (mi_f h 14033) + ((1 : Int)) ≤ 2147483647]) := rfl
theorem mi_tab_comes_2 : ∀ e ∈ ([(208, (4, 1, sb_208))] : mi_T), sc_P e.1 = some e.2 := mi_tb mi_P208 (mi_tb_e)
set_option maxRecDepth 20000 in
theorem ms_comes_2 {h : sm_H} {d : Nat} {Q : Option mi_V → sm_H → Prop} {zk : Int} {zv : Int64} (hS : ab_Sh sx_sk h) (ok_zk : mi_in zk) (ho : ((mi_f h 14028) = ((2 : Int))) ∧ (-2147483648 ≤ (mi_f h 14033) + ((1 : Int)) ∧ (mi_f h 14033) + ((1 : Int)) ≤ 2147483647)) (kon : ∀ h1, me_W [.inl (14033, (mi_f h 14033) + ((1 : Int)))] h h1 → Q (some (.inl (mi_f h 14033))) h1) : me_E (d) 208 0 [some (.inr (.inr 109)), some (.inl (zk)), some (.inr (.inl (zv))), none] [] h Q := me_seg (mp_comes_2 h d zk zv) (mi_tab_comes_2) hS (mi_okL_c (trivial) (mi_okL_c (ok_zk) (mi_okL_c (trivial) (mi_okL_n (mi_okL_e))))) (mi_okS_e) (mi_al (ho.1) (mi_al (ho.2) (mi_al_e))) (fun h1 W _ hst => me_ret (M := (4, 1, sb_208)) rfl rfl rfl hst (mi_al_e) (kon h1 W))
set_option maxRecDepth 20000 in
theorem mt_comes {h : sm_H} {d : Nat} {Q : Option mi_V → sm_H → Prop} {zk : Int} {zv : Int64} (hS : ab_Sh sx_sk h) (ok_zk : mi_in zk) (k0 : ((-2147483648) ≤ mi_f h 14028 ∧ mi_f h 14028 ≤ 2147483647) → (0 ≤ mi_f h 14016 ∧ mi_f h 14016 ≤ 100) → ((mi_f h 14028) ≠ ((2 : Int))) → ((mi_f h 14016) ≠ ((100 : Int))) → ((0 ≤ (mi_f h 14016) ∧ (mi_f h 14016) < 100) ∧ (0 ≤ (mi_f h 14016) ∧ (mi_f h 14016) ≤ 99) ∧ (-2147483648 ≤ (mi_f h 14016) + ((1 : Int)) ∧ (mi_f h 14016) + ((1 : Int)) ≤ 2147483647) ∧ (0 ≤ ((mi_f h 14016) + ((1 : Int))) ∧ ((mi_f h 14016) + ((1 : Int))) ≤ 100)) ∧ (∀ h1, ab_Sh sx_sk h1 → mi_f h1 14016 = (mi_f h 14016) + ((1 : Int)) → mi_f h1 14044 = (0 : Int) → (∀ i, mi_a h1 158 i = if i = Int.toNat (mi_f h 14016) then zk else (mi_a h 158 i)) → (∀ i, mi_a h1 159 i = if i = Int.toNat (mi_f h 14016) then mi_f h 14031 else (mi_a h 159 i)) → (∀ i, mi_a h1 160 i = if i = Int.toNat (mi_f h 14016) then mi_f h 14016 else (mi_a h 160 i)) → (∀ i, mx_b h1 163 i = if i = Int.toNat (mi_f h 14016) then zv else (mx_b h 163 i)) → ab_Fr [(14016, 14017), (14044, 14045), (20224, 20225), (20352, 20353), (20480, 20481), (20864, 20865)] h h1 → Q (some (.inl (mi_f h 14016))) h1)) (k1 : ((-2147483648) ≤ mi_f h 14028 ∧ mi_f h 14028 ≤ 2147483647) → (0 ≤ mi_f h 14016 ∧ mi_f h 14016 ≤ 100) → ((mi_f h 14028) ≠ ((2 : Int))) → ((mi_f h 14016) = ((100 : Int))) → (∀ h1, ab_Sh sx_sk h1 → mi_f h1 14044 = (1 : Int) → ab_Fr [(14044, 14045)] h h1 → Q (some (.inl ((0 : Int)))) h1)) (k2 : ((-2147483648) ≤ mi_f h 14028 ∧ mi_f h 14028 ≤ 2147483647) → ((-2147483648) ≤ mi_f h 14033 ∧ mi_f h 14033 ≤ 2147483647) → ((mi_f h 14028) = ((2 : Int))) → ((-2147483648 ≤ (mi_f h 14033) + ((1 : Int)) ∧ (mi_f h 14033) + ((1 : Int)) ≤ 2147483647)) ∧ (∀ h1, ab_Sh sx_sk h1 → mi_f h1 14033 = (mi_f h 14033) + ((1 : Int)) → ab_Fr [(14033, 14034)] h h1 → Q (some (.inl (mi_f h 14033))) h1)) : me_E (d) 208 0 [some (.inr (.inr 109)), some (.inl (zk)), some (.inr (.inl (zv))), none] [] h Q := Or.elim (mi_em .ne ((mi_f h 14028)) (((2 : Int)))) (fun c0 => Or.elim (mi_em .ne ((mi_f h 14016)) (((100 : Int)))) (fun c1 => ms_comes_0 hS ok_zk ⟨c0, c1, (by decide), (by decide), (by decide), (k0 (me_fb hS rfl) (me_fb hS rfl) c0 c1).1.1, (k0 (me_fb hS rfl) (me_fb hS rfl) c0 c1).1.1, (k0 (me_fb hS rfl) (me_fb hS rfl) c0 c1).1.1, (k0 (me_fb hS rfl) (me_fb hS rfl) c0 c1).1.1, (k0 (me_fb hS rfl) (me_fb hS rfl) c0 c1).1.2.1, (k0 (me_fb hS rfl) (me_fb hS rfl) c0 c1).1.2.2.1, (k0 (me_fb hS rfl) (me_fb hS rfl) c0 c1).1.2.2.2⟩ (fun h1 W => (k0 (me_fb hS rfl) (me_fb hS rfl) c0 c1).2 h1 W.1 (W.2.1 14016) (W.2.1 14044) (fun i => W.2.2.1 158 i) (fun i => W.2.2.1 159 i) (fun i => W.2.2.1 160 i) (fun i => W.2.2.2.2.1 163 i) (W.2.2.2.2.2 _ rfl))) (fun c1 => ms_comes_1 hS ok_zk ⟨c0, c1, (by decide), (by decide), (by decide)⟩ (fun h1 W => (k1 (me_fb hS rfl) (me_fb hS rfl) c0 c1) h1 W.1 (W.2.1 14044) (W.2.2.2.2.2 _ rfl)))) (fun c0 => ms_comes_2 hS ok_zk ⟨c0, (k2 (me_fb hS rfl) (me_fb hS rfl) c0).1⟩ (fun h1 W => (k2 (me_fb hS rfl) (me_fb hS rfl) c0).2 h1 W.1 (W.2.1 14033) (W.2.2.2.2.2 _ rfl)))
set_option maxRecDepth 20000 in
theorem mp_enA_0 (h : sm_H) (d : Nat) (zr : Int) : mi_path [(207, (2, 0, sb_207))] sx_sk h 20 [1, 1, 9] (d + 2, 207, 0, [some (.inr (.inr 109)), some (.inl (zr))], [], [], []) = some ((d + 2, 207, 48, [some (.inr (.inr 109)), some (.inl (zr))], [.inr (.inl ((Int32.ofInt zr).toInt64)), .inl ((1 : Int)), .inr (.inr 109)], [.inl (14035, (Int32.ofInt (mi_f h 14035) - Int32.ofInt ((1 : Int))).toInt), .inl (14044, (0 : Int))], []), [(mi_f h 14032) ≠ ((12 : Int)), 0 ≤ ((0 : Int)) ∧ ((0 : Int)) ≤ 1, 0 ≤ ((0 : Int)) ∧ ((0 : Int)) ≤ 1, ((0 : Int)) = ((0 : Int))]) := rfl
theorem mi_tab_enA_0 : ∀ e ∈ ([(207, (2, 0, sb_207))] : mi_T), sc_P e.1 = some e.2 := mi_tb mi_P207 (mi_tb_e)
set_option maxRecDepth 20000 in
theorem ms_enA_0 {h : sm_H} {d : Nat} {Q : Option mi_V → sm_H → Prop} {zr : Int} (hS : ab_Sh sx_sk h) (ok_zr : mi_in zr) (ho : ((mi_f h 14032) ≠ ((12 : Int))) ∧ (0 ≤ ((0 : Int)) ∧ ((0 : Int)) ≤ 1) ∧ (0 ≤ ((0 : Int)) ∧ ((0 : Int)) ≤ 1) ∧ (((0 : Int)) = ((0 : Int)))) (kon : ∀ h1, me_W [.inl (14035, (Int32.ofInt (mi_f h 14035) - Int32.ofInt ((1 : Int))).toInt), .inl (14044, (0 : Int))] h h1 → ∃ Q1, me_E (d + 1) 208 0 (mi_entry 4 [.inr (.inr 109), .inl ((1 : Int)), .inr (.inl ((Int32.ofInt zr).toInt64))]) [] h1 Q1 ∧ ∀ w h2, (∀ x, w = some x → mi_ok x) → Q1 w h2 → me_E (d + 2) 207 51 [some (.inr (.inr 109)), some (.inl (zr))] (mi_back w []) h2 Q) : me_E (d + 2) 207 0 [some (.inr (.inr 109)), some (.inl (zr))] [] h Q := me_seg (mp_enA_0 h d zr) (mi_tab_enA_0) hS (mi_okL_c (trivial) (mi_okL_c (ok_zr) (mi_okL_e))) (mi_okS_e) (mi_al (ho.1) (mi_al (ho.2.1) (mi_al (ho.2.2.1) (mi_al (ho.2.2.2) (mi_al_e))))) (fun h1 W _ hst => let ⟨_, k1, k2⟩ := kon h1 W; me_call (M := (2, 0, sb_207)) (M' := (4, 1, sb_208)) rfl rfl rfl rfl (Nat.le_of_ble_eq_true rfl) (Nat.le_of_ble_eq_true rfl) W.1 k1 k2)
set_option maxRecDepth 20000 in
theorem mp_enA_1 (h : sm_H) (d : Nat) (zr : Int) : mi_path [(207, (2, 0, sb_207))] sx_sk h 24 [0, 1, 1, 9] (d + 2, 207, 0, [some (.inr (.inr 109)), some (.inl (zr))], [], [], []) = some ((d + 2, 207, 48, [some (.inr (.inr 109)), some (.inl (zr))], [.inr (.inl ((Int32.ofInt zr).toInt64)), .inl ((1 : Int)), .inr (.inr 109)], [.inl (14035, (Int32.ofInt (mi_f h 14035) - Int32.ofInt ((1 : Int))).toInt), .inl (14044, (0 : Int))], []), [(mi_f h 14032) = ((12 : Int)), (mi_f h 14028) = ((2 : Int)), 0 ≤ ((0 : Int)) ∧ ((0 : Int)) ≤ 1, 0 ≤ ((0 : Int)) ∧ ((0 : Int)) ≤ 1, ((0 : Int)) = ((0 : Int))]) := rfl
theorem mi_tab_enA_1 : ∀ e ∈ ([(207, (2, 0, sb_207))] : mi_T), sc_P e.1 = some e.2 := mi_tb mi_P207 (mi_tb_e)
set_option maxRecDepth 20000 in
theorem ms_enA_1 {h : sm_H} {d : Nat} {Q : Option mi_V → sm_H → Prop} {zr : Int} (hS : ab_Sh sx_sk h) (ok_zr : mi_in zr) (ho : ((mi_f h 14032) = ((12 : Int))) ∧ ((mi_f h 14028) = ((2 : Int))) ∧ (0 ≤ ((0 : Int)) ∧ ((0 : Int)) ≤ 1) ∧ (0 ≤ ((0 : Int)) ∧ ((0 : Int)) ≤ 1) ∧ (((0 : Int)) = ((0 : Int)))) (kon : ∀ h1, me_W [.inl (14035, (Int32.ofInt (mi_f h 14035) - Int32.ofInt ((1 : Int))).toInt), .inl (14044, (0 : Int))] h h1 → ∃ Q1, me_E (d + 1) 208 0 (mi_entry 4 [.inr (.inr 109), .inl ((1 : Int)), .inr (.inl ((Int32.ofInt zr).toInt64))]) [] h1 Q1 ∧ ∀ w h2, (∀ x, w = some x → mi_ok x) → Q1 w h2 → me_E (d + 2) 207 51 [some (.inr (.inr 109)), some (.inl (zr))] (mi_back w []) h2 Q) : me_E (d + 2) 207 0 [some (.inr (.inr 109)), some (.inl (zr))] [] h Q := me_seg (mp_enA_1 h d zr) (mi_tab_enA_1) hS (mi_okL_c (trivial) (mi_okL_c (ok_zr) (mi_okL_e))) (mi_okS_e) (mi_al (ho.1) (mi_al (ho.2.1) (mi_al (ho.2.2.1) (mi_al (ho.2.2.2.1) (mi_al (ho.2.2.2.2) (mi_al_e)))))) (fun h1 W _ hst => let ⟨_, k1, k2⟩ := kon h1 W; me_call (M := (2, 0, sb_207)) (M' := (4, 1, sb_208)) rfl rfl rfl rfl (Nat.le_of_ble_eq_true rfl) (Nat.le_of_ble_eq_true rfl) W.1 k1 k2)
set_option maxRecDepth 20000 in
theorem mp_enA_2 (h : sm_H) (d : Nat) (zr : Int) : mi_path [(207, (2, 0, sb_207))] sx_sk h 15 [0, 0, 0] (d + 2, 207, 0, [some (.inr (.inr 109)), some (.inl (zr))], [], [], []) = some ((d + 2, 207, 33, [some (.inr (.inr 109)), some (.inl (zr))], [], [.inl (14044, (1 : Int))], []), [(mi_f h 14032) = ((12 : Int)), (mi_f h 14028) ≠ ((2 : Int)), 0 ≤ ((1 : Int)) ∧ ((1 : Int)) ≤ 1, 0 ≤ ((1 : Int)) ∧ ((1 : Int)) ≤ 1, ((1 : Int)) ≠ ((0 : Int))]) := rfl
theorem mi_tab_enA_2 : ∀ e ∈ ([(207, (2, 0, sb_207))] : mi_T), sc_P e.1 = some e.2 := mi_tb mi_P207 (mi_tb_e)
set_option maxRecDepth 20000 in
theorem ms_enA_2 {h : sm_H} {d : Nat} {Q : Option mi_V → sm_H → Prop} {zr : Int} (hS : ab_Sh sx_sk h) (ok_zr : mi_in zr) (ho : ((mi_f h 14032) = ((12 : Int))) ∧ ((mi_f h 14028) ≠ ((2 : Int))) ∧ (0 ≤ ((1 : Int)) ∧ ((1 : Int)) ≤ 1) ∧ (0 ≤ ((1 : Int)) ∧ ((1 : Int)) ≤ 1) ∧ (((1 : Int)) ≠ ((0 : Int)))) (kon : ∀ h1, me_W [.inl (14044, (1 : Int))] h h1 → Q none h1) : me_E (d + 2) 207 0 [some (.inr (.inr 109)), some (.inl (zr))] [] h Q := me_seg (mp_enA_2 h d zr) (mi_tab_enA_2) hS (mi_okL_c (trivial) (mi_okL_c (ok_zr) (mi_okL_e))) (mi_okS_e) (mi_al (ho.1) (mi_al (ho.2.1) (mi_al (ho.2.2.1) (mi_al (ho.2.2.2.1) (mi_al (ho.2.2.2.2) (mi_al_e)))))) (fun h1 W _ hst => me_ret (M := (2, 0, sb_207)) rfl rfl rfl hst (mi_al_e) (kon h1 W))
set_option maxRecDepth 20000 in
theorem mt_enA {h : sm_H} {d : Nat} {Q : Option mi_V → sm_H → Prop} {zr : Int} (hS : ab_Sh sx_sk h) (ok_zr : mi_in zr) (k0 : ((-2147483648) ≤ mi_f h 14032 ∧ mi_f h 14032 ≤ 2147483647) → ((mi_f h 14032) ≠ ((12 : Int))) → (∀ h1, ab_Sh sx_sk h1 → mi_f h1 14035 = (Int32.ofInt (mi_f h 14035) - Int32.ofInt ((1 : Int))).toInt → mi_f h1 14044 = (0 : Int) → ab_Fr [(14035, 14036), (14044, 14045)] h h1 → ∃ Q1, me_E (d + 1) 208 0 (mi_entry 4 [.inr (.inr 109), .inl ((1 : Int)), .inr (.inl ((Int32.ofInt zr).toInt64))]) [] h1 Q1 ∧ ∀ w h2, (∀ x, w = some x → mi_ok x) → Q1 w h2 → me_E (d + 2) 207 51 [some (.inr (.inr 109)), some (.inl (zr))] (mi_back w []) h2 Q)) (k1 : ((-2147483648) ≤ mi_f h 14032 ∧ mi_f h 14032 ≤ 2147483647) → ((-2147483648) ≤ mi_f h 14028 ∧ mi_f h 14028 ≤ 2147483647) → ((mi_f h 14032) = ((12 : Int))) → ((mi_f h 14028) = ((2 : Int))) → (∀ h1, ab_Sh sx_sk h1 → mi_f h1 14035 = (Int32.ofInt (mi_f h 14035) - Int32.ofInt ((1 : Int))).toInt → mi_f h1 14044 = (0 : Int) → ab_Fr [(14035, 14036), (14044, 14045)] h h1 → ∃ Q1, me_E (d + 1) 208 0 (mi_entry 4 [.inr (.inr 109), .inl ((1 : Int)), .inr (.inl ((Int32.ofInt zr).toInt64))]) [] h1 Q1 ∧ ∀ w h2, (∀ x, w = some x → mi_ok x) → Q1 w h2 → me_E (d + 2) 207 51 [some (.inr (.inr 109)), some (.inl (zr))] (mi_back w []) h2 Q)) (k2 : ((-2147483648) ≤ mi_f h 14032 ∧ mi_f h 14032 ≤ 2147483647) → ((-2147483648) ≤ mi_f h 14028 ∧ mi_f h 14028 ≤ 2147483647) → ((mi_f h 14032) = ((12 : Int))) → ((mi_f h 14028) ≠ ((2 : Int))) → (∀ h1, ab_Sh sx_sk h1 → mi_f h1 14044 = (1 : Int) → ab_Fr [(14044, 14045)] h h1 → Q none h1)) : me_E (d + 2) 207 0 [some (.inr (.inr 109)), some (.inl (zr))] [] h Q := Or.elim (mi_em .ne ((mi_f h 14032)) (((12 : Int)))) (fun c0 => ms_enA_0 hS ok_zr ⟨c0, (by decide), (by decide), (by decide)⟩ (fun h1 W => (k0 (me_fb hS rfl) c0) h1 W.1 (W.2.1 14035) (W.2.1 14044) (W.2.2.2.2.2 _ rfl))) (fun c0 => Or.elim (mi_em .eq ((mi_f h 14028)) (((2 : Int)))) (fun c1 => ms_enA_1 hS ok_zr ⟨c0, c1, (by decide), (by decide), (by decide)⟩ (fun h1 W => (k1 (me_fb hS rfl) (me_fb hS rfl) c0 c1) h1 W.1 (W.2.1 14035) (W.2.1 14044) (W.2.2.2.2.2 _ rfl))) (fun c1 => ms_enA_2 hS ok_zr ⟨c0, c1, (by decide), (by decide), (by decide)⟩ (fun h1 W => (k2 (me_fb hS rfl) (me_fb hS rfl) c0 c1) h1 W.1 (W.2.1 14044) (W.2.2.2.2.2 _ rfl))))
set_option maxRecDepth 20000 in
theorem mp_enB_0 (h : sm_H) (d : Nat) (zr zw : Int) : mi_path [(207, (2, 0, sb_207)), (209, (4, 0, sb_209))] sx_sk h 74 [8, 9, 8, 8] (d + 2, 207, 51, [some (.inr (.inr 109)), some (.inl (zr))], [.inl (zw)], [], []) = some ((d + 2, 207, 91, [some (.inr (.inr 109)), some (.inl (zr))], [], [.inr (.inr (.inl (167, Int.toNat ((mi_f h 14029) + ((1 : Int))), (0 : Int)))), .inl (14029, ((mi_f h 14029) + ((1 : Int))) + ((1 : Int))), .inr (.inr (.inl (166, Int.toNat ((mi_f h 14029) + ((1 : Int))), mi_a h 114 (Int.toNat zr)))), .inr (.inr (.inl (165, Int.toNat ((mi_f h 14029) + ((1 : Int))), (1 : Int)))), .inr (.inr (.inl (167, Int.toNat (mi_f h 14029), (0 : Int)))), .inl (14029, (mi_f h 14029) + ((1 : Int))), .inr (.inr (.inl (166, Int.toNat (mi_f h 14029), (1 : Int)))), .inr (.inr (.inl (165, Int.toNat (mi_f h 14029), (2 : Int)))), .inl (14031, (Int32.ofInt (mi_f h 14031) + Int32.ofInt ((1 : Int))).toInt), .inl (14032, (mi_f h 14032) + ((1 : Int)))], []), [-2147483648 ≤ (mi_f h 14032) + ((1 : Int)) ∧ (mi_f h 14032) + ((1 : Int)) ≤ 2147483647, 0 ≤ (mi_f h 14029) ∧ (mi_f h 14029) < 3000, 0 ≤ (mi_f h 14029) ∧ (mi_f h 14029) < 3000, -2147483648 ≤ (mi_f h 14029) + ((1 : Int)) ∧ (mi_f h 14029) + ((1 : Int)) ≤ 2147483647, 0 ≤ (mi_f h 14029) ∧ (mi_f h 14029) < 3000, 0 ≤ zr ∧ zr < 10, 0 ≤ ((mi_f h 14029) + ((1 : Int))) ∧ ((mi_f h 14029) + ((1 : Int))) < 3000, 0 ≤ ((mi_f h 14029) + ((1 : Int))) ∧ ((mi_f h 14029) + ((1 : Int))) < 3000, -2147483648 ≤ ((mi_f h 14029) + ((1 : Int))) + ((1 : Int)) ∧ ((mi_f h 14029) + ((1 : Int))) + ((1 : Int)) ≤ 2147483647, 0 ≤ ((mi_f h 14029) + ((1 : Int))) ∧ ((mi_f h 14029) + ((1 : Int))) < 3000]) := rfl
theorem mi_tab_enB_0 : ∀ e ∈ ([(207, (2, 0, sb_207)), (209, (4, 0, sb_209))] : mi_T), sc_P e.1 = some e.2 := mi_tb mi_P207 (mi_tb mi_P209 (mi_tb_e))
set_option maxRecDepth 20000 in
theorem ms_enB_0 {h : sm_H} {d : Nat} {Q : Option mi_V → sm_H → Prop} {zr zw : Int} (hS : ab_Sh sx_sk h) (ok_zr : mi_in zr) (ok_zw : mi_in zw) (ho : (-2147483648 ≤ (mi_f h 14032) + ((1 : Int)) ∧ (mi_f h 14032) + ((1 : Int)) ≤ 2147483647) ∧ (0 ≤ (mi_f h 14029) ∧ (mi_f h 14029) < 3000) ∧ (0 ≤ (mi_f h 14029) ∧ (mi_f h 14029) < 3000) ∧ (-2147483648 ≤ (mi_f h 14029) + ((1 : Int)) ∧ (mi_f h 14029) + ((1 : Int)) ≤ 2147483647) ∧ (0 ≤ (mi_f h 14029) ∧ (mi_f h 14029) < 3000) ∧ (0 ≤ zr ∧ zr < 10) ∧ (0 ≤ ((mi_f h 14029) + ((1 : Int))) ∧ ((mi_f h 14029) + ((1 : Int))) < 3000) ∧ (0 ≤ ((mi_f h 14029) + ((1 : Int))) ∧ ((mi_f h 14029) + ((1 : Int))) < 3000) ∧ (-2147483648 ≤ ((mi_f h 14029) + ((1 : Int))) + ((1 : Int)) ∧ ((mi_f h 14029) + ((1 : Int))) + ((1 : Int)) ≤ 2147483647) ∧ (0 ≤ ((mi_f h 14029) + ((1 : Int))) ∧ ((mi_f h 14029) + ((1 : Int))) < 3000)) (kon : ∀ h1, me_W [.inr (.inr (.inl (167, Int.toNat ((mi_f h 14029) + ((1 : Int))), (0 : Int)))), .inl (14029, ((mi_f h 14029) + ((1 : Int))) + ((1 : Int))), .inr (.inr (.inl (166, Int.toNat ((mi_f h 14029) + ((1 : Int))), mi_a h 114 (Int.toNat zr)))), .inr (.inr (.inl (165, Int.toNat ((mi_f h 14029) + ((1 : Int))), (1 : Int)))), .inr (.inr (.inl (167, Int.toNat (mi_f h 14029), (0 : Int)))), .inl (14029, (mi_f h 14029) + ((1 : Int))), .inr (.inr (.inl (166, Int.toNat (mi_f h 14029), (1 : Int)))), .inr (.inr (.inl (165, Int.toNat (mi_f h 14029), (2 : Int)))), .inl (14031, (Int32.ofInt (mi_f h 14031) + Int32.ofInt ((1 : Int))).toInt), .inl (14032, (mi_f h 14032) + ((1 : Int)))] h h1 → Q none h1) : me_E (d + 2) 207 51 [some (.inr (.inr 109)), some (.inl (zr))] [.inl (zw)] h Q := me_seg (mp_enB_0 h d zr zw) (mi_tab_enB_0) hS (mi_okL_c (trivial) (mi_okL_c (ok_zr) (mi_okL_e))) (mi_okS_cons (ok_zw) (mi_okS_e)) (mi_al (ho.1) (mi_al (ho.2.1) (mi_al (ho.2.2.1) (mi_al (ho.2.2.2.1) (mi_al (ho.2.2.2.2.1) (mi_al (ho.2.2.2.2.2.1) (mi_al (ho.2.2.2.2.2.2.1) (mi_al (ho.2.2.2.2.2.2.2.1) (mi_al (ho.2.2.2.2.2.2.2.2.1) (mi_al (ho.2.2.2.2.2.2.2.2.2) (mi_al_e))))))))))) (fun h1 W _ hst => me_ret (M := (2, 0, sb_207)) rfl rfl rfl hst (mi_al_e) (kon h1 W))
set_option maxRecDepth 20000 in
theorem mt_enB {h : sm_H} {d : Nat} {Q : Option mi_V → sm_H → Prop} {zr zw : Int} (hS : ab_Sh sx_sk h) (ok_zr : mi_in zr) (ok_zw : mi_in zw) (k0 : ((-2147483648) ≤ mi_f h 14032 ∧ mi_f h 14032 ≤ 2147483647) → ((-2147483648) ≤ mi_f h 14029 ∧ mi_f h 14029 ≤ 2147483647) → ((-2147483648 ≤ (mi_f h 14032) + ((1 : Int)) ∧ (mi_f h 14032) + ((1 : Int)) ≤ 2147483647) ∧ (0 ≤ (mi_f h 14029) ∧ (mi_f h 14029) < 3000) ∧ (-2147483648 ≤ (mi_f h 14029) + ((1 : Int)) ∧ (mi_f h 14029) + ((1 : Int)) ≤ 2147483647) ∧ (0 ≤ zr ∧ zr < 10) ∧ (0 ≤ ((mi_f h 14029) + ((1 : Int))) ∧ ((mi_f h 14029) + ((1 : Int))) < 3000) ∧ (-2147483648 ≤ ((mi_f h 14029) + ((1 : Int))) + ((1 : Int)) ∧ ((mi_f h 14029) + ((1 : Int))) + ((1 : Int)) ≤ 2147483647)) ∧ (∀ h1, ab_Sh sx_sk h1 → mi_f h1 14029 = ((mi_f h 14029) + ((1 : Int))) + ((1 : Int)) → mi_f h1 14031 = (Int32.ofInt (mi_f h 14031) + Int32.ofInt ((1 : Int))).toInt → mi_f h1 14032 = (mi_f h 14032) + ((1 : Int)) → (∀ i, mi_a h1 165 i = if i = Int.toNat ((mi_f h 14029) + ((1 : Int))) then (1 : Int) else if i = Int.toNat (mi_f h 14029) then (2 : Int) else (mi_a h 165 i)) → (∀ i, mi_a h1 166 i = if i = Int.toNat ((mi_f h 14029) + ((1 : Int))) then mi_a h 114 (Int.toNat zr) else if i = Int.toNat (mi_f h 14029) then (1 : Int) else (mi_a h 166 i)) → (∀ i, mi_a h1 167 i = if i = Int.toNat ((mi_f h 14029) + ((1 : Int))) then (0 : Int) else if i = Int.toNat (mi_f h 14029) then (0 : Int) else (mi_a h 167 i)) → ab_Fr [(14029, 14030), (14031, 14033), (21120, 21121), (21248, 21249), (21376, 21377)] h h1 → Q none h1)) : me_E (d + 2) 207 51 [some (.inr (.inr 109)), some (.inl (zr))] [.inl (zw)] h Q := ms_enB_0 hS ok_zr ok_zw ⟨(k0 (me_fb hS rfl) (me_fb hS rfl)).1.1, (k0 (me_fb hS rfl) (me_fb hS rfl)).1.2.1, (k0 (me_fb hS rfl) (me_fb hS rfl)).1.2.1, (k0 (me_fb hS rfl) (me_fb hS rfl)).1.2.2.1, (k0 (me_fb hS rfl) (me_fb hS rfl)).1.2.1, (k0 (me_fb hS rfl) (me_fb hS rfl)).1.2.2.2.1, (k0 (me_fb hS rfl) (me_fb hS rfl)).1.2.2.2.2.1, (k0 (me_fb hS rfl) (me_fb hS rfl)).1.2.2.2.2.1, (k0 (me_fb hS rfl) (me_fb hS rfl)).1.2.2.2.2.2, (k0 (me_fb hS rfl) (me_fb hS rfl)).1.2.2.2.2.1⟩ (fun h1 W => (k0 (me_fb hS rfl) (me_fb hS rfl)).2 h1 W.1 (W.2.1 14029) (W.2.1 14031) (W.2.1 14032) (fun i => W.2.2.1 165 i) (fun i => W.2.2.1 166 i) (fun i => W.2.2.1 167 i) (W.2.2.2.2.2 _ rfl))
set_option maxRecDepth 20000 in
theorem mp_draw_0 (h : sm_H) (d : Nat) (zn : Int) : mi_path [(211, (2, 1, sb_211))] sx_sk h 16 [] (d, 211, 0, [some (.inr (.inr 109)), some (.inl (zn))], [], [], []) = some ((d, 211, 27, [some (.inr (.inr 109)), some (.inl (zn))], [.inl ((((((((mx_l h 14047) * (Int64.ofNat 6364136223846793005)) + (Int64.ofNat 1442695040888963407))).toUInt64 >>> ((Int32.ofInt ((33 : Int))).toInt64.toUInt64 &&& Int64.toUInt64 63)).toInt64) - ((((((mx_l h 14047) * (Int64.ofNat 6364136223846793005)) + (Int64.ofNat 1442695040888963407))).toUInt64 >>> ((Int32.ofInt ((33 : Int))).toInt64.toUInt64 &&& Int64.toUInt64 63)).toInt64) / ((Int32.ofInt zn).toInt64) * ((Int32.ofInt zn).toInt64)).toInt32.toInt)], [.inr (.inl (14047, ((mx_l h 14047) * (Int64.ofNat 6364136223846793005)) + (Int64.ofNat 1442695040888963407)))], []), [((Int32.ofInt zn).toInt64) ≠ 0]) := rfl
theorem mi_tab_draw_0 : ∀ e ∈ ([(211, (2, 1, sb_211))] : mi_T), sc_P e.1 = some e.2 := mi_tb mi_P211 (mi_tb_e)
set_option maxRecDepth 20000 in
theorem ms_draw_0 {h : sm_H} {d : Nat} {Q : Option mi_V → sm_H → Prop} {zn : Int} (hS : ab_Sh sx_sk h) (ok_zn : mi_in zn) (ho : (((Int32.ofInt zn).toInt64) ≠ 0)) (kon : ∀ h1, me_W [.inr (.inl (14047, ((mx_l h 14047) * (Int64.ofNat 6364136223846793005)) + (Int64.ofNat 1442695040888963407)))] h h1 → Q (some (.inl ((((((((mx_l h 14047) * (Int64.ofNat 6364136223846793005)) + (Int64.ofNat 1442695040888963407))).toUInt64 >>> ((Int32.ofInt ((33 : Int))).toInt64.toUInt64 &&& Int64.toUInt64 63)).toInt64) - ((((((mx_l h 14047) * (Int64.ofNat 6364136223846793005)) + (Int64.ofNat 1442695040888963407))).toUInt64 >>> ((Int32.ofInt ((33 : Int))).toInt64.toUInt64 &&& Int64.toUInt64 63)).toInt64) / ((Int32.ofInt zn).toInt64) * ((Int32.ofInt zn).toInt64)).toInt32.toInt))) h1) : me_E (d) 211 0 [some (.inr (.inr 109)), some (.inl (zn))] [] h Q := me_seg (mp_draw_0 h d zn) (mi_tab_draw_0) hS (mi_okL_c (trivial) (mi_okL_c (ok_zn) (mi_okL_e))) (mi_okS_e) (mi_al (ho) (mi_al_e)) (fun h1 W _ hst => me_ret (M := (2, 1, sb_211)) rfl rfl rfl hst (mi_al_e) (kon h1 W))
set_option maxRecDepth 20000 in
theorem mt_draw {h : sm_H} {d : Nat} {Q : Option mi_V → sm_H → Prop} {zn : Int} (hS : ab_Sh sx_sk h) (ok_zn : mi_in zn) (k0 : ((((Int32.ofInt zn).toInt64) ≠ 0)) ∧ (∀ h1, ab_Sh sx_sk h1 → mx_l h1 14047 = ((mx_l h 14047) * (Int64.ofNat 6364136223846793005)) + (Int64.ofNat 1442695040888963407) → ab_Fr [(14047, 14048)] h h1 → Q (some (.inl ((((((((mx_l h 14047) * (Int64.ofNat 6364136223846793005)) + (Int64.ofNat 1442695040888963407))).toUInt64 >>> ((Int32.ofInt ((33 : Int))).toInt64.toUInt64 &&& Int64.toUInt64 63)).toInt64) - ((((((mx_l h 14047) * (Int64.ofNat 6364136223846793005)) + (Int64.ofNat 1442695040888963407))).toUInt64 >>> ((Int32.ofInt ((33 : Int))).toInt64.toUInt64 &&& Int64.toUInt64 63)).toInt64) / ((Int32.ofInt zn).toInt64) * ((Int32.ofInt zn).toInt64)).toInt32.toInt))) h1)) : me_E (d) 211 0 [some (.inr (.inr 109)), some (.inl (zn))] [] h Q := ms_draw_0 hS ok_zn ((k0).1) (fun h1 W => (k0).2 h1 W.1 (W.2.2.2.1 14047) (W.2.2.2.2.2 _ rfl))
/-! small methods of the reference, by bounds -/
/-- TwoWayGrammarModel.write(I)V -/
def xc_v_write : ab_C := (220, [(3, 109, 0, []), ab_top], [], [(ab_unk, [])], [(14037, 14038), (14044, 14045), (21760, 21761)], 0)
theorem xo_v_write : ab_Ok sc_P sx_sk xc_v_write := ab_good_ok (env := []) (heads := []) (fuel := 30) (by decide +kernel) (fun _ h => absurd h List.not_mem_nil)
/-- TwoWayGrammarModel.isWordy(I)Z -/
def xc_v_isWordy : ab_C := (221, [ab_top], [], [((1, 0, 1, []), [])], [], 1)
theorem xo_v_isWordy : ab_Ok sc_P sx_sk xc_v_isWordy := ab_good_ok (env := []) (heads := []) (fuel := 36) (by decide +kernel) (fun _ h => absurd h List.not_mem_nil)
/-- TwoWayGrammarModel.between(I)V -/
def xc_v_between : ab_C := (219, [(3, 109, 0, []), ab_top], [], [(ab_unk, [])], [(14037, 14038), (14044, 14047), (21760, 21761)], 2)
theorem xo_v_between : ab_Ok sc_P sx_sk xc_v_between := ab_good_ok (env := [xc_v_write, xc_v_isWordy]) (heads := [(22, [(3, 109, 0, []), ab_top, (1, 0, 2147483647, [])], [(14046, (1, 1, 1, []))], [(0, 0, 0), (1, 2, 0)])]) (fuel := 39) (by decide +kernel) (List.forall_mem_cons.mpr ⟨xo_v_write, List.forall_mem_cons.mpr ⟨xo_v_isWordy, fun _ h => absurd h List.not_mem_nil⟩⟩)
/-- TwoWayGrammarModel.isLow(I)Z -/
def xc_v_isLow : ab_C := (180, [ab_top], [], [((1, 0, 1, []), [])], [], 0)
theorem xo_v_isLow : ab_Ok sc_P sx_sk xc_v_isLow := ab_good_ok (env := []) (heads := []) (fuel := 14) (by decide +kernel) (fun _ h => absurd h List.not_mem_nil)
/-- TwoWayGrammarModel.isDigit(I)Z -/
def xc_v_isDigit : ab_C := (182, [ab_top], [], [((1, 0, 1, []), [])], [], 0)
theorem xo_v_isDigit : ab_Ok sc_P sx_sk xc_v_isDigit := ab_good_ok (env := []) (heads := []) (fuel := 14) (by decide +kernel) (fun _ h => absurd h List.not_mem_nil)
/-- TwoWayGrammarModel.isBlank(I)Z -/
def xc_v_isBlank : ab_C := (178, [ab_top], [], [((1, 0, 1, []), [])], [], 0)
theorem xo_v_isBlank : ab_Ok sc_P sx_sk xc_v_isBlank := ab_good_ok (env := []) (heads := []) (fuel := 14) (by decide +kernel) (fun _ h => absurd h List.not_mem_nil)
/-- TwoWayGrammarModel.sortOf(J)I -/
def xc_v_sortOf : ab_C := (189, [ab_topL], [], [((1, (-1), 7, []), [])], [], 0)
theorem xo_v_sortOf : ab_Ok sc_P sx_sk xc_v_sortOf := ab_good_ok (env := []) (heads := []) (fuel := 36) (by decide +kernel) (fun _ h => absurd h List.not_mem_nil)
/-- TwoWayGrammarModel.isPart()Z -/
def xc_v_isPart : ab_C := (188, [(3, 109, 0, [])], [], [((1, 0, 1, []), [])], [], 1)
theorem xo_v_isPart : ab_Ok sc_P sx_sk xc_v_isPart := ab_good_ok (env := []) (heads := []) (fuel := 61) (by decide +kernel) (fun _ h => absurd h List.not_mem_nil)
/-- TwoWayGrammarModel.least(III)I -/
def xc_v_least : ab_C := (202, [(3, 109, 0, []), ab_top, ab_top, ab_top], [], [(ab_top, [])], [], 0)
theorem xo_v_least : ab_Ok sc_P sx_sk xc_v_least := ab_good_ok (env := []) (heads := []) (fuel := 19) (by decide +kernel) (fun _ h => absurd h List.not_mem_nil)
/-- TwoWayGrammarModel.keywordOf(J)I -/
def xc_v_keywordOf : ab_C := (216, [(3, 109, 0, []), ab_topL], [], [((1, (-1), 19, []), [])], [], 0)
theorem xo_v_keywordOf : ab_Ok sc_P sx_sk xc_v_keywordOf := ab_good_ok (env := []) (heads := [(2, [(3, 109, 0, []), ab_topL, ab_unk, (1, 0, 20, [])], [], [(0, 0, 0), (1, 3, 0)])]) (fuel := 26) (by decide +kernel) (fun _ h => absurd h List.not_mem_nil)
/-- TwoWayGrammarModel.signOf(I)I -/
def xc_v_signOf : ab_C := (230, [(3, 109, 0, []), ab_top], [], [((1, (-1), 22, []), [])], [], 0)
theorem xo_v_signOf : ab_Ok sc_P sx_sk xc_v_signOf := ab_good_ok (env := []) (heads := [(2, [(3, 109, 0, []), ab_top, (1, 0, 20, [])], [], [(0, 0, 0), (1, 2, 0)])]) (fuel := 26) (by decide +kernel) (fun _ h => absurd h List.not_mem_nil)
/-- TwoWayGrammarModel.layout(I)V -/
def xc_v_layout : ab_C := (222, [(3, 109, 0, []), ab_top], [], [(ab_unk, [])], [(14036, 14037), (14045, 14047)], 0)
theorem xo_v_layout : ab_Ok sc_P sx_sk xc_v_layout := ab_good_ok (env := []) (heads := []) (fuel := 40) (by decide +kernel) (fun _ h => absurd h List.not_mem_nil)
/-- TwoWayGrammarModel.has(J)Z -/
def xc_v_has : ab_C := (212, [(3, 109, 0, []), ab_topL], [(14033, (1, 0, 160, []))], [((1, 0, 1, []), [])], [], 0)
theorem xo_v_has : ab_Ok sc_P sx_sk xc_v_has := ab_good_ok (env := []) (heads := []) (fuel := 26) (by decide +kernel) (fun _ h => absurd h List.not_mem_nil)
/-- TwoWayGrammarModel.isVoid(I)Z -/
def xc_v_isVoid : ab_C := (198, [(3, 109, 0, []), (1, 0, 59, [])], [], [((1, 0, 1, []), [])], [], 0)
theorem xo_v_isVoid : ab_Ok sc_P sx_sk xc_v_isVoid := ab_good_ok (env := []) (heads := []) (fuel := 18) (by decide +kernel) (fun _ h => absurd h List.not_mem_nil)
/-- TwoWayGrammarModel.directors(II)J -/
def xc_v_directors : ab_C := (203, [(3, 109, 0, []), (1, 0, 79, []), (1, 0, 79, [])], [], [(ab_topL, [])], [], 0)
theorem xo_v_directors : ab_Ok sc_P sx_sk xc_v_directors := ab_good_ok (env := []) (heads := []) (fuel := 21) (by decide +kernel) (fun _ h => absurd h List.not_mem_nil)
/-- TwoWayGrammarModel.literal()I -/
def xc_v_literal : ab_C := (191, [(3, 109, 0, [])], [], [((1, 0, 20, []), [])], [(13962, 13963), (14976, 14977), (15104, 15105)], 0)
theorem xo_v_literal : ab_Ok sc_P sx_sk xc_v_literal := ab_good_ok (env := []) (heads := [(2, [(3, 109, 0, []), (1, 0, 20, [])], [], [(0, 0, 0), (1, 1, 0)])]) (fuel := 44) (by decide +kernel) (fun _ h => absurd h List.not_mem_nil)
/-! segments: letters, keywordOf -/
set_option maxRecDepth 20000 in
theorem mp_letA_0 (h : sm_H) (d : Nat) (zb : Int) : mi_path [(181, (4, 1, sb_181))] sx_sk h 2 [] (d + 1, 181, 0, [some (.inr (.inr 109)), some (.inl (zb)), none, none], [], [], []) = some ((d + 1, 181, 2, [some (.inr (.inr 109)), some (.inl (zb)), some (.inl (zb)), none], [], [], []), []) := rfl
theorem mi_tab_letA_0 : ∀ e ∈ ([(181, (4, 1, sb_181))] : mi_T), sc_P e.1 = some e.2 := mi_tb mi_P181 (mi_tb_e)
set_option maxRecDepth 20000 in
theorem ms_letA_0 {h : sm_H} {d : Nat} {Q : Option mi_V → sm_H → Prop} {zb : Int} (hS : ab_Sh sx_sk h) (ok_zb : mi_in zb) (kon : ∀ h1, me_W [] h h1 → me_E (d + 1) 181 2 [some (.inr (.inr 109)), some (.inl (zb)), some (.inl (zb)), none] [] h1 Q) : me_E (d + 1) 181 0 [some (.inr (.inr 109)), some (.inl (zb)), none, none] [] h Q := me_seg (mp_letA_0 h d zb) (mi_tab_letA_0) hS (mi_okL_c (trivial) (mi_okL_c (ok_zb) (mi_okL_n (mi_okL_n (mi_okL_e))))) (mi_okS_e) (mi_al_e) (fun h1 W _ hst => kon h1 W)
set_option maxRecDepth 20000 in
theorem mt_letA {h : sm_H} {d : Nat} {Q : Option mi_V → sm_H → Prop} {zb : Int} (hS : ab_Sh sx_sk h) (ok_zb : mi_in zb) (k0 : (∀ h1, ab_Sh sx_sk h1 → ab_Fr [] h h1 → me_E (d + 1) 181 2 [some (.inr (.inr 109)), some (.inl (zb)), some (.inl (zb)), none] [] h1 Q)) : me_E (d + 1) 181 0 [some (.inr (.inr 109)), some (.inl (zb)), none, none] [] h Q := ms_letA_0 hS ok_zb (fun h1 W => (k0) h1 W.1 (W.2.2.2.2.2 _ rfl))
set_option maxRecDepth 20000 in
theorem mp_letB_0 (h : sm_H) (d : Nat) (zb zk : Int) : mi_path [(181, (4, 1, sb_181)), (180, (1, 4, sb_180))] sx_sk h 19 [1, 8, 1, 8] (d + 1, 181, 2, [some (.inr (.inr 109)), some (.inl (zb)), some (.inl (zk)), none], [], [], []) = some ((d + 1, 181, 54, [some (.inr (.inr 109)), some (.inl (zb)), some (.inl (zk)), some (.inl (zk - ((1 : Int))))], [], [.inr (.inl (14004, Int64.ofNat 0)), .inr (.inl (14004, Int64.ofNat 18446744073709551615))], []), [(mi_f h 13953) ≤ zk, (-65536) ≤ (Int64.ofNat 18446744073709551615).toInt ∧ (Int64.ofNat 18446744073709551615).toInt ≤ 1073741823, -2147483648 ≤ zk - zb ∧ zk - zb ≤ 2147483647, (zk - zb) ≤ ((6 : Int)), (-65536) ≤ (Int64.ofNat 0).toInt ∧ (Int64.ofNat 0).toInt ≤ 1073741823, -2147483648 ≤ zk - ((1 : Int)) ∧ zk - ((1 : Int)) ≤ 2147483647]) := rfl
theorem mi_tab_letB_0 : ∀ e ∈ ([(181, (4, 1, sb_181)), (180, (1, 4, sb_180))] : mi_T), sc_P e.1 = some e.2 := mi_tb mi_P181 (mi_tb mi_P180 (mi_tb_e))
set_option maxRecDepth 20000 in
theorem ms_letB_0 {h : sm_H} {d : Nat} {Q : Option mi_V → sm_H → Prop} {zb zk : Int} (hS : ab_Sh sx_sk h) (ok_zb : mi_in zb) (ok_zk : mi_in zk) (ho : ((mi_f h 13953) ≤ zk) ∧ ((-65536) ≤ (Int64.ofNat 18446744073709551615).toInt ∧ (Int64.ofNat 18446744073709551615).toInt ≤ 1073741823) ∧ (-2147483648 ≤ zk - zb ∧ zk - zb ≤ 2147483647) ∧ ((zk - zb) ≤ ((6 : Int))) ∧ ((-65536) ≤ (Int64.ofNat 0).toInt ∧ (Int64.ofNat 0).toInt ≤ 1073741823) ∧ (-2147483648 ≤ zk - ((1 : Int)) ∧ zk - ((1 : Int)) ≤ 2147483647)) (kon : ∀ h1, me_W [.inr (.inl (14004, Int64.ofNat 0)), .inr (.inl (14004, Int64.ofNat 18446744073709551615))] h h1 → me_E (d + 1) 181 54 [some (.inr (.inr 109)), some (.inl (zb)), some (.inl (zk)), some (.inl (zk - ((1 : Int))))] [] h1 Q) : me_E (d + 1) 181 2 [some (.inr (.inr 109)), some (.inl (zb)), some (.inl (zk)), none] [] h Q := me_seg (mp_letB_0 h d zb zk) (mi_tab_letB_0) hS (mi_okL_c (trivial) (mi_okL_c (ok_zb) (mi_okL_c (ok_zk) (mi_okL_n (mi_okL_e))))) (mi_okS_e) (mi_al (ho.1) (mi_al (ho.2.1) (mi_al (ho.2.2.1) (mi_al (ho.2.2.2.1) (mi_al (ho.2.2.2.2.1) (mi_al (ho.2.2.2.2.2) (mi_al_e))))))) (fun h1 W _ hst => kon h1 W)
set_option maxRecDepth 20000 in
theorem mp_letB_1 (h : sm_H) (d : Nat) (zb zk : Int) : mi_path [(181, (4, 1, sb_181)), (180, (1, 4, sb_180))] sx_sk h 13 [1, 8, 0] (d + 1, 181, 2, [some (.inr (.inr 109)), some (.inl (zb)), some (.inl (zk)), none], [], [], []) = some ((d + 1, 181, 44, [some (.inr (.inr 109)), some (.inl (zb)), some (.inl (zk)), none], [.inl (zk)], [.inr (.inl (14004, Int64.ofNat 18446744073709551615))], []), [(mi_f h 13953) ≤ zk, (-65536) ≤ (Int64.ofNat 18446744073709551615).toInt ∧ (Int64.ofNat 18446744073709551615).toInt ≤ 1073741823, -2147483648 ≤ zk - zb ∧ zk - zb ≤ 2147483647, ((6 : Int)) < (zk - zb)]) := rfl
theorem mi_tab_letB_1 : ∀ e ∈ ([(181, (4, 1, sb_181)), (180, (1, 4, sb_180))] : mi_T), sc_P e.1 = some e.2 := mi_tb mi_P181 (mi_tb mi_P180 (mi_tb_e))
set_option maxRecDepth 20000 in
theorem ms_letB_1 {h : sm_H} {d : Nat} {Q : Option mi_V → sm_H → Prop} {zb zk : Int} (hS : ab_Sh sx_sk h) (ok_zb : mi_in zb) (ok_zk : mi_in zk) (ho : ((mi_f h 13953) ≤ zk) ∧ ((-65536) ≤ (Int64.ofNat 18446744073709551615).toInt ∧ (Int64.ofNat 18446744073709551615).toInt ≤ 1073741823) ∧ (-2147483648 ≤ zk - zb ∧ zk - zb ≤ 2147483647) ∧ (((6 : Int)) < (zk - zb))) (kon : ∀ h1, me_W [.inr (.inl (14004, Int64.ofNat 18446744073709551615))] h h1 → Q (some (.inl (zk))) h1) : me_E (d + 1) 181 2 [some (.inr (.inr 109)), some (.inl (zb)), some (.inl (zk)), none] [] h Q := me_seg (mp_letB_1 h d zb zk) (mi_tab_letB_1) hS (mi_okL_c (trivial) (mi_okL_c (ok_zb) (mi_okL_c (ok_zk) (mi_okL_n (mi_okL_e))))) (mi_okS_e) (mi_al (ho.1) (mi_al (ho.2.1) (mi_al (ho.2.2.1) (mi_al (ho.2.2.2) (mi_al_e))))) (fun h1 W _ hst => me_ret (M := (4, 1, sb_181)) rfl rfl rfl hst (mi_al_e) (kon h1 W))
set_option maxRecDepth 20000 in
theorem mp_letB_2 (h : sm_H) (d : Nat) (zb zk : Int) : mi_path [(181, (4, 1, sb_181)), (180, (1, 4, sb_180))] sx_sk h 30 [0, 1, 1, 8, 1, 8] (d + 1, 181, 2, [some (.inr (.inr 109)), some (.inl (zb)), some (.inl (zk)), none], [], [], []) = some ((d + 1, 181, 54, [some (.inr (.inr 109)), some (.inl (zb)), some (.inl (zk)), some (.inl (zk - ((1 : Int))))], [], [.inr (.inl (14004, Int64.ofNat 0)), .inr (.inl (14004, Int64.ofNat 18446744073709551615))], []), [zk < (mi_f h 13953), 0 ≤ zk ∧ zk < 240, (mi_a h 110 (Int.toNat zk)) < ((97 : Int)), ((0 : Int)) = 0 ∨ ((0 : Int)) = 1, ((0 : Int)) = ((0 : Int)), (-65536) ≤ (Int64.ofNat 18446744073709551615).toInt ∧ (Int64.ofNat 18446744073709551615).toInt ≤ 1073741823, -2147483648 ≤ zk - zb ∧ zk - zb ≤ 2147483647, (zk - zb) ≤ ((6 : Int)), (-65536) ≤ (Int64.ofNat 0).toInt ∧ (Int64.ofNat 0).toInt ≤ 1073741823, -2147483648 ≤ zk - ((1 : Int)) ∧ zk - ((1 : Int)) ≤ 2147483647]) := rfl
theorem mi_tab_letB_2 : ∀ e ∈ ([(181, (4, 1, sb_181)), (180, (1, 4, sb_180))] : mi_T), sc_P e.1 = some e.2 := mi_tb mi_P181 (mi_tb mi_P180 (mi_tb_e))
set_option maxRecDepth 20000 in
theorem ms_letB_2 {h : sm_H} {d : Nat} {Q : Option mi_V → sm_H → Prop} {zb zk : Int} (hS : ab_Sh sx_sk h) (ok_zb : mi_in zb) (ok_zk : mi_in zk) (ho : (zk < (mi_f h 13953)) ∧ (0 ≤ zk ∧ zk < 240) ∧ ((mi_a h 110 (Int.toNat zk)) < ((97 : Int))) ∧ (((0 : Int)) = 0 ∨ ((0 : Int)) = 1) ∧ (((0 : Int)) = ((0 : Int))) ∧ ((-65536) ≤ (Int64.ofNat 18446744073709551615).toInt ∧ (Int64.ofNat 18446744073709551615).toInt ≤ 1073741823) ∧ (-2147483648 ≤ zk - zb ∧ zk - zb ≤ 2147483647) ∧ ((zk - zb) ≤ ((6 : Int))) ∧ ((-65536) ≤ (Int64.ofNat 0).toInt ∧ (Int64.ofNat 0).toInt ≤ 1073741823) ∧ (-2147483648 ≤ zk - ((1 : Int)) ∧ zk - ((1 : Int)) ≤ 2147483647)) (kon : ∀ h1, me_W [.inr (.inl (14004, Int64.ofNat 0)), .inr (.inl (14004, Int64.ofNat 18446744073709551615))] h h1 → me_E (d + 1) 181 54 [some (.inr (.inr 109)), some (.inl (zb)), some (.inl (zk)), some (.inl (zk - ((1 : Int))))] [] h1 Q) : me_E (d + 1) 181 2 [some (.inr (.inr 109)), some (.inl (zb)), some (.inl (zk)), none] [] h Q := me_seg (mp_letB_2 h d zb zk) (mi_tab_letB_2) hS (mi_okL_c (trivial) (mi_okL_c (ok_zb) (mi_okL_c (ok_zk) (mi_okL_n (mi_okL_e))))) (mi_okS_e) (mi_al (ho.1) (mi_al (ho.2.1) (mi_al (ho.2.2.1) (mi_al (ho.2.2.2.1) (mi_al (ho.2.2.2.2.1) (mi_al (ho.2.2.2.2.2.1) (mi_al (ho.2.2.2.2.2.2.1) (mi_al (ho.2.2.2.2.2.2.2.1) (mi_al (ho.2.2.2.2.2.2.2.2.1) (mi_al (ho.2.2.2.2.2.2.2.2.2) (mi_al_e))))))))))) (fun h1 W _ hst => kon h1 W)
set_option maxRecDepth 20000 in
theorem mp_letB_3 (h : sm_H) (d : Nat) (zb zk : Int) : mi_path [(181, (4, 1, sb_181)), (180, (1, 4, sb_180))] sx_sk h 24 [0, 1, 1, 8, 0] (d + 1, 181, 2, [some (.inr (.inr 109)), some (.inl (zb)), some (.inl (zk)), none], [], [], []) = some ((d + 1, 181, 44, [some (.inr (.inr 109)), some (.inl (zb)), some (.inl (zk)), none], [.inl (zk)], [.inr (.inl (14004, Int64.ofNat 18446744073709551615))], []), [zk < (mi_f h 13953), 0 ≤ zk ∧ zk < 240, (mi_a h 110 (Int.toNat zk)) < ((97 : Int)), ((0 : Int)) = 0 ∨ ((0 : Int)) = 1, ((0 : Int)) = ((0 : Int)), (-65536) ≤ (Int64.ofNat 18446744073709551615).toInt ∧ (Int64.ofNat 18446744073709551615).toInt ≤ 1073741823, -2147483648 ≤ zk - zb ∧ zk - zb ≤ 2147483647, ((6 : Int)) < (zk - zb)]) := rfl
theorem mi_tab_letB_3 : ∀ e ∈ ([(181, (4, 1, sb_181)), (180, (1, 4, sb_180))] : mi_T), sc_P e.1 = some e.2 := mi_tb mi_P181 (mi_tb mi_P180 (mi_tb_e))
set_option maxRecDepth 20000 in
theorem ms_letB_3 {h : sm_H} {d : Nat} {Q : Option mi_V → sm_H → Prop} {zb zk : Int} (hS : ab_Sh sx_sk h) (ok_zb : mi_in zb) (ok_zk : mi_in zk) (ho : (zk < (mi_f h 13953)) ∧ (0 ≤ zk ∧ zk < 240) ∧ ((mi_a h 110 (Int.toNat zk)) < ((97 : Int))) ∧ (((0 : Int)) = 0 ∨ ((0 : Int)) = 1) ∧ (((0 : Int)) = ((0 : Int))) ∧ ((-65536) ≤ (Int64.ofNat 18446744073709551615).toInt ∧ (Int64.ofNat 18446744073709551615).toInt ≤ 1073741823) ∧ (-2147483648 ≤ zk - zb ∧ zk - zb ≤ 2147483647) ∧ (((6 : Int)) < (zk - zb))) (kon : ∀ h1, me_W [.inr (.inl (14004, Int64.ofNat 18446744073709551615))] h h1 → Q (some (.inl (zk))) h1) : me_E (d + 1) 181 2 [some (.inr (.inr 109)), some (.inl (zb)), some (.inl (zk)), none] [] h Q := me_seg (mp_letB_3 h d zb zk) (mi_tab_letB_3) hS (mi_okL_c (trivial) (mi_okL_c (ok_zb) (mi_okL_c (ok_zk) (mi_okL_n (mi_okL_e))))) (mi_okS_e) (mi_al (ho.1) (mi_al (ho.2.1) (mi_al (ho.2.2.1) (mi_al (ho.2.2.2.1) (mi_al (ho.2.2.2.2.1) (mi_al (ho.2.2.2.2.2.1) (mi_al (ho.2.2.2.2.2.2.1) (mi_al (ho.2.2.2.2.2.2.2) (mi_al_e))))))))) (fun h1 W _ hst => me_ret (M := (4, 1, sb_181)) rfl rfl rfl hst (mi_al_e) (kon h1 W))
set_option maxRecDepth 20000 in
theorem mp_letB_4 (h : sm_H) (d : Nat) (zb zk : Int) : mi_path [(181, (4, 1, sb_181)), (180, (1, 4, sb_180))] sx_sk h 33 [0, 0, 1, 1, 8, 1, 8] (d + 1, 181, 2, [some (.inr (.inr 109)), some (.inl (zb)), some (.inl (zk)), none], [], [], []) = some ((d + 1, 181, 54, [some (.inr (.inr 109)), some (.inl (zb)), some (.inl (zk)), some (.inl (zk - ((1 : Int))))], [], [.inr (.inl (14004, Int64.ofNat 0)), .inr (.inl (14004, Int64.ofNat 18446744073709551615))], []), [zk < (mi_f h 13953), 0 ≤ zk ∧ zk < 240, ((97 : Int)) ≤ (mi_a h 110 (Int.toNat zk)), ((122 : Int)) < (mi_a h 110 (Int.toNat zk)), ((0 : Int)) = 0 ∨ ((0 : Int)) = 1, ((0 : Int)) = ((0 : Int)), (-65536) ≤ (Int64.ofNat 18446744073709551615).toInt ∧ (Int64.ofNat 18446744073709551615).toInt ≤ 1073741823, -2147483648 ≤ zk - zb ∧ zk - zb ≤ 2147483647, (zk - zb) ≤ ((6 : Int)), (-65536) ≤ (Int64.ofNat 0).toInt ∧ (Int64.ofNat 0).toInt ≤ 1073741823, -2147483648 ≤ zk - ((1 : Int)) ∧ zk - ((1 : Int)) ≤ 2147483647]) := rfl
theorem mi_tab_letB_4 : ∀ e ∈ ([(181, (4, 1, sb_181)), (180, (1, 4, sb_180))] : mi_T), sc_P e.1 = some e.2 := mi_tb mi_P181 (mi_tb mi_P180 (mi_tb_e))
set_option maxRecDepth 20000 in
theorem ms_letB_4 {h : sm_H} {d : Nat} {Q : Option mi_V → sm_H → Prop} {zb zk : Int} (hS : ab_Sh sx_sk h) (ok_zb : mi_in zb) (ok_zk : mi_in zk) (ho : (zk < (mi_f h 13953)) ∧ (0 ≤ zk ∧ zk < 240) ∧ (((97 : Int)) ≤ (mi_a h 110 (Int.toNat zk))) ∧ (((122 : Int)) < (mi_a h 110 (Int.toNat zk))) ∧ (((0 : Int)) = 0 ∨ ((0 : Int)) = 1) ∧ (((0 : Int)) = ((0 : Int))) ∧ ((-65536) ≤ (Int64.ofNat 18446744073709551615).toInt ∧ (Int64.ofNat 18446744073709551615).toInt ≤ 1073741823) ∧ (-2147483648 ≤ zk - zb ∧ zk - zb ≤ 2147483647) ∧ ((zk - zb) ≤ ((6 : Int))) ∧ ((-65536) ≤ (Int64.ofNat 0).toInt ∧ (Int64.ofNat 0).toInt ≤ 1073741823) ∧ (-2147483648 ≤ zk - ((1 : Int)) ∧ zk - ((1 : Int)) ≤ 2147483647)) (kon : ∀ h1, me_W [.inr (.inl (14004, Int64.ofNat 0)), .inr (.inl (14004, Int64.ofNat 18446744073709551615))] h h1 → me_E (d + 1) 181 54 [some (.inr (.inr 109)), some (.inl (zb)), some (.inl (zk)), some (.inl (zk - ((1 : Int))))] [] h1 Q) : me_E (d + 1) 181 2 [some (.inr (.inr 109)), some (.inl (zb)), some (.inl (zk)), none] [] h Q := me_seg (mp_letB_4 h d zb zk) (mi_tab_letB_4) hS (mi_okL_c (trivial) (mi_okL_c (ok_zb) (mi_okL_c (ok_zk) (mi_okL_n (mi_okL_e))))) (mi_okS_e) (mi_al (ho.1) (mi_al (ho.2.1) (mi_al (ho.2.2.1) (mi_al (ho.2.2.2.1) (mi_al (ho.2.2.2.2.1) (mi_al (ho.2.2.2.2.2.1) (mi_al (ho.2.2.2.2.2.2.1) (mi_al (ho.2.2.2.2.2.2.2.1) (mi_al (ho.2.2.2.2.2.2.2.2.1) (mi_al (ho.2.2.2.2.2.2.2.2.2.1) (mi_al (ho.2.2.2.2.2.2.2.2.2.2) (mi_al_e)))))))))))) (fun h1 W _ hst => kon h1 W)
set_option maxRecDepth 20000 in
theorem mp_letB_5 (h : sm_H) (d : Nat) (zb zk : Int) : mi_path [(181, (4, 1, sb_181)), (180, (1, 4, sb_180))] sx_sk h 27 [0, 0, 1, 1, 8, 0] (d + 1, 181, 2, [some (.inr (.inr 109)), some (.inl (zb)), some (.inl (zk)), none], [], [], []) = some ((d + 1, 181, 44, [some (.inr (.inr 109)), some (.inl (zb)), some (.inl (zk)), none], [.inl (zk)], [.inr (.inl (14004, Int64.ofNat 18446744073709551615))], []), [zk < (mi_f h 13953), 0 ≤ zk ∧ zk < 240, ((97 : Int)) ≤ (mi_a h 110 (Int.toNat zk)), ((122 : Int)) < (mi_a h 110 (Int.toNat zk)), ((0 : Int)) = 0 ∨ ((0 : Int)) = 1, ((0 : Int)) = ((0 : Int)), (-65536) ≤ (Int64.ofNat 18446744073709551615).toInt ∧ (Int64.ofNat 18446744073709551615).toInt ≤ 1073741823, -2147483648 ≤ zk - zb ∧ zk - zb ≤ 2147483647, ((6 : Int)) < (zk - zb)]) := rfl
theorem mi_tab_letB_5 : ∀ e ∈ ([(181, (4, 1, sb_181)), (180, (1, 4, sb_180))] : mi_T), sc_P e.1 = some e.2 := mi_tb mi_P181 (mi_tb mi_P180 (mi_tb_e))
set_option maxRecDepth 20000 in
theorem ms_letB_5 {h : sm_H} {d : Nat} {Q : Option mi_V → sm_H → Prop} {zb zk : Int} (hS : ab_Sh sx_sk h) (ok_zb : mi_in zb) (ok_zk : mi_in zk) (ho : (zk < (mi_f h 13953)) ∧ (0 ≤ zk ∧ zk < 240) ∧ (((97 : Int)) ≤ (mi_a h 110 (Int.toNat zk))) ∧ (((122 : Int)) < (mi_a h 110 (Int.toNat zk))) ∧ (((0 : Int)) = 0 ∨ ((0 : Int)) = 1) ∧ (((0 : Int)) = ((0 : Int))) ∧ ((-65536) ≤ (Int64.ofNat 18446744073709551615).toInt ∧ (Int64.ofNat 18446744073709551615).toInt ≤ 1073741823) ∧ (-2147483648 ≤ zk - zb ∧ zk - zb ≤ 2147483647) ∧ (((6 : Int)) < (zk - zb))) (kon : ∀ h1, me_W [.inr (.inl (14004, Int64.ofNat 18446744073709551615))] h h1 → Q (some (.inl (zk))) h1) : me_E (d + 1) 181 2 [some (.inr (.inr 109)), some (.inl (zb)), some (.inl (zk)), none] [] h Q := me_seg (mp_letB_5 h d zb zk) (mi_tab_letB_5) hS (mi_okL_c (trivial) (mi_okL_c (ok_zb) (mi_okL_c (ok_zk) (mi_okL_n (mi_okL_e))))) (mi_okS_e) (mi_al (ho.1) (mi_al (ho.2.1) (mi_al (ho.2.2.1) (mi_al (ho.2.2.2.1) (mi_al (ho.2.2.2.2.1) (mi_al (ho.2.2.2.2.2.1) (mi_al (ho.2.2.2.2.2.2.1) (mi_al (ho.2.2.2.2.2.2.2.1) (mi_al (ho.2.2.2.2.2.2.2.2) (mi_al_e)))))))))) (fun h1 W _ hst => me_ret (M := (4, 1, sb_181)) rfl rfl rfl hst (mi_al_e) (kon h1 W))
set_option maxRecDepth 20000 in
theorem mp_letB_6 (h : sm_H) (d : Nat) (zb zk : Int) : mi_path [(181, (4, 1, sb_181)), (180, (1, 4, sb_180))] sx_sk h 21 [0, 0, 0, 0] (d + 1, 181, 2, [some (.inr (.inr 109)), some (.inl (zb)), some (.inl (zk)), none], [], [], []) = some ((d + 1, 181, 2, [some (.inr (.inr 109)), some (.inl (zb)), some (.inl (zk + 1)), none], [], [], []), [zk < (mi_f h 13953), 0 ≤ zk ∧ zk < 240, ((97 : Int)) ≤ (mi_a h 110 (Int.toNat zk)), (mi_a h 110 (Int.toNat zk)) ≤ ((122 : Int)), ((1 : Int)) = 0 ∨ ((1 : Int)) = 1, ((1 : Int)) ≠ ((0 : Int)), -2147483648 ≤ zk + 1 ∧ zk + 1 ≤ 2147483647]) := rfl
theorem mi_tab_letB_6 : ∀ e ∈ ([(181, (4, 1, sb_181)), (180, (1, 4, sb_180))] : mi_T), sc_P e.1 = some e.2 := mi_tb mi_P181 (mi_tb mi_P180 (mi_tb_e))
set_option maxRecDepth 20000 in
theorem ms_letB_6 {h : sm_H} {d : Nat} {Q : Option mi_V → sm_H → Prop} {zb zk : Int} (hS : ab_Sh sx_sk h) (ok_zb : mi_in zb) (ok_zk : mi_in zk) (ho : (zk < (mi_f h 13953)) ∧ (0 ≤ zk ∧ zk < 240) ∧ (((97 : Int)) ≤ (mi_a h 110 (Int.toNat zk))) ∧ ((mi_a h 110 (Int.toNat zk)) ≤ ((122 : Int))) ∧ (((1 : Int)) = 0 ∨ ((1 : Int)) = 1) ∧ (((1 : Int)) ≠ ((0 : Int))) ∧ (-2147483648 ≤ zk + 1 ∧ zk + 1 ≤ 2147483647)) (kon : ∀ h1, me_W [] h h1 → me_E (d + 1) 181 2 [some (.inr (.inr 109)), some (.inl (zb)), some (.inl (zk + 1)), none] [] h1 Q) : me_E (d + 1) 181 2 [some (.inr (.inr 109)), some (.inl (zb)), some (.inl (zk)), none] [] h Q := me_seg (mp_letB_6 h d zb zk) (mi_tab_letB_6) hS (mi_okL_c (trivial) (mi_okL_c (ok_zb) (mi_okL_c (ok_zk) (mi_okL_n (mi_okL_e))))) (mi_okS_e) (mi_al (ho.1) (mi_al (ho.2.1) (mi_al (ho.2.2.1) (mi_al (ho.2.2.2.1) (mi_al (ho.2.2.2.2.1) (mi_al (ho.2.2.2.2.2.1) (mi_al (ho.2.2.2.2.2.2) (mi_al_e)))))))) (fun h1 W _ hst => kon h1 W)
set_option maxRecDepth 20000 in
theorem mt_letB {h : sm_H} {d : Nat} {Q : Option mi_V → sm_H → Prop} {zb zk : Int} (hS : ab_Sh sx_sk h) (ok_zb : mi_in zb) (ok_zk : mi_in zk) (k0 : (0 ≤ mi_f h 13953 ∧ mi_f h 13953 ≤ 240) → ((mi_f h 13953) ≤ zk) → ((zk - zb) ≤ ((6 : Int))) → ((-2147483648 ≤ zk - zb ∧ zk - zb ≤ 2147483647) ∧ (-2147483648 ≤ zk - ((1 : Int)) ∧ zk - ((1 : Int)) ≤ 2147483647)) ∧ (∀ h1, ab_Sh sx_sk h1 → mx_l h1 14004 = Int64.ofNat 0 → ab_Fr [(14004, 14005)] h h1 → me_E (d + 1) 181 54 [some (.inr (.inr 109)), some (.inl (zb)), some (.inl (zk)), some (.inl (zk - ((1 : Int))))] [] h1 Q)) (k1 : (0 ≤ mi_f h 13953 ∧ mi_f h 13953 ≤ 240) → ((mi_f h 13953) ≤ zk) → (((6 : Int)) < (zk - zb)) → ((-2147483648 ≤ zk - zb ∧ zk - zb ≤ 2147483647)) ∧ (∀ h1, ab_Sh sx_sk h1 → mx_l h1 14004 = Int64.ofNat 18446744073709551615 → ab_Fr [(14004, 14005)] h h1 → Q (some (.inl (zk))) h1)) (k2 : (0 ≤ mi_f h 13953 ∧ mi_f h 13953 ≤ 240) → (zk < (mi_f h 13953)) → ((mi_a h 110 (Int.toNat zk)) < ((97 : Int))) → ((zk - zb) ≤ ((6 : Int))) → ((0 ≤ zk ∧ zk < 240) ∧ (-2147483648 ≤ zk - zb ∧ zk - zb ≤ 2147483647) ∧ (-2147483648 ≤ zk - ((1 : Int)) ∧ zk - ((1 : Int)) ≤ 2147483647)) ∧ (∀ h1, ab_Sh sx_sk h1 → mx_l h1 14004 = Int64.ofNat 0 → ab_Fr [(14004, 14005)] h h1 → me_E (d + 1) 181 54 [some (.inr (.inr 109)), some (.inl (zb)), some (.inl (zk)), some (.inl (zk - ((1 : Int))))] [] h1 Q)) (k3 : (0 ≤ mi_f h 13953 ∧ mi_f h 13953 ≤ 240) → (zk < (mi_f h 13953)) → ((mi_a h 110 (Int.toNat zk)) < ((97 : Int))) → (((6 : Int)) < (zk - zb)) → ((0 ≤ zk ∧ zk < 240) ∧ (-2147483648 ≤ zk - zb ∧ zk - zb ≤ 2147483647)) ∧ (∀ h1, ab_Sh sx_sk h1 → mx_l h1 14004 = Int64.ofNat 18446744073709551615 → ab_Fr [(14004, 14005)] h h1 → Q (some (.inl (zk))) h1)) (k4 : (0 ≤ mi_f h 13953 ∧ mi_f h 13953 ≤ 240) → (zk < (mi_f h 13953)) → (((97 : Int)) ≤ (mi_a h 110 (Int.toNat zk))) → (((122 : Int)) < (mi_a h 110 (Int.toNat zk))) → ((zk - zb) ≤ ((6 : Int))) → ((0 ≤ zk ∧ zk < 240) ∧ (-2147483648 ≤ zk - zb ∧ zk - zb ≤ 2147483647) ∧ (-2147483648 ≤ zk - ((1 : Int)) ∧ zk - ((1 : Int)) ≤ 2147483647)) ∧ (∀ h1, ab_Sh sx_sk h1 → mx_l h1 14004 = Int64.ofNat 0 → ab_Fr [(14004, 14005)] h h1 → me_E (d + 1) 181 54 [some (.inr (.inr 109)), some (.inl (zb)), some (.inl (zk)), some (.inl (zk - ((1 : Int))))] [] h1 Q)) (k5 : (0 ≤ mi_f h 13953 ∧ mi_f h 13953 ≤ 240) → (zk < (mi_f h 13953)) → (((97 : Int)) ≤ (mi_a h 110 (Int.toNat zk))) → (((122 : Int)) < (mi_a h 110 (Int.toNat zk))) → (((6 : Int)) < (zk - zb)) → ((0 ≤ zk ∧ zk < 240) ∧ (-2147483648 ≤ zk - zb ∧ zk - zb ≤ 2147483647)) ∧ (∀ h1, ab_Sh sx_sk h1 → mx_l h1 14004 = Int64.ofNat 18446744073709551615 → ab_Fr [(14004, 14005)] h h1 → Q (some (.inl (zk))) h1)) (k6 : (0 ≤ mi_f h 13953 ∧ mi_f h 13953 ≤ 240) → (zk < (mi_f h 13953)) → (((97 : Int)) ≤ (mi_a h 110 (Int.toNat zk))) → ((mi_a h 110 (Int.toNat zk)) ≤ ((122 : Int))) → ((0 ≤ zk ∧ zk < 240) ∧ (-2147483648 ≤ zk + 1 ∧ zk + 1 ≤ 2147483647)) ∧ (∀ h1, ab_Sh sx_sk h1 → ab_Fr [] h h1 → me_E (d + 1) 181 2 [some (.inr (.inr 109)), some (.inl (zb)), some (.inl (zk + 1)), none] [] h1 Q)) : me_E (d + 1) 181 2 [some (.inr (.inr 109)), some (.inl (zb)), some (.inl (zk)), none] [] h Q := Or.elim (mi_em .ge (zk) ((mi_f h 13953))) (fun c0 => Or.elim (mi_em .le ((zk - zb)) (((6 : Int)))) (fun c1 => ms_letB_0 hS ok_zb ok_zk ⟨c0, (by decide), (k0 (me_fb hS rfl) c0 c1).1.1, c1, (by decide), (k0 (me_fb hS rfl) c0 c1).1.2⟩ (fun h1 W => (k0 (me_fb hS rfl) c0 c1).2 h1 W.1 (W.2.2.2.1 14004) (W.2.2.2.2.2 _ rfl))) (fun c1 => ms_letB_1 hS ok_zb ok_zk ⟨c0, (by decide), (k1 (me_fb hS rfl) c0 c1).1, c1⟩ (fun h1 W => (k1 (me_fb hS rfl) c0 c1).2 h1 W.1 (W.2.2.2.1 14004) (W.2.2.2.2.2 _ rfl)))) (fun c0 => Or.elim (mi_em .lt ((mi_a h 110 (Int.toNat zk))) (((97 : Int)))) (fun c1 => Or.elim (mi_em .le ((zk - zb)) (((6 : Int)))) (fun c2 => ms_letB_2 hS ok_zb ok_zk ⟨c0, (k2 (me_fb hS rfl) c0 c1 c2).1.1, c1, (by decide), (by decide), (by decide), (k2 (me_fb hS rfl) c0 c1 c2).1.2.1, c2, (by decide), (k2 (me_fb hS rfl) c0 c1 c2).1.2.2⟩ (fun h1 W => (k2 (me_fb hS rfl) c0 c1 c2).2 h1 W.1 (W.2.2.2.1 14004) (W.2.2.2.2.2 _ rfl))) (fun c2 => ms_letB_3 hS ok_zb ok_zk ⟨c0, (k3 (me_fb hS rfl) c0 c1 c2).1.1, c1, (by decide), (by decide), (by decide), (k3 (me_fb hS rfl) c0 c1 c2).1.2, c2⟩ (fun h1 W => (k3 (me_fb hS rfl) c0 c1 c2).2 h1 W.1 (W.2.2.2.1 14004) (W.2.2.2.2.2 _ rfl)))) (fun c1 => Or.elim (mi_em .gt ((mi_a h 110 (Int.toNat zk))) (((122 : Int)))) (fun c2 => Or.elim (mi_em .le ((zk - zb)) (((6 : Int)))) (fun c3 => ms_letB_4 hS ok_zb ok_zk ⟨c0, (k4 (me_fb hS rfl) c0 c1 c2 c3).1.1, c1, c2, (by decide), (by decide), (by decide), (k4 (me_fb hS rfl) c0 c1 c2 c3).1.2.1, c3, (by decide), (k4 (me_fb hS rfl) c0 c1 c2 c3).1.2.2⟩ (fun h1 W => (k4 (me_fb hS rfl) c0 c1 c2 c3).2 h1 W.1 (W.2.2.2.1 14004) (W.2.2.2.2.2 _ rfl))) (fun c3 => ms_letB_5 hS ok_zb ok_zk ⟨c0, (k5 (me_fb hS rfl) c0 c1 c2 c3).1.1, c1, c2, (by decide), (by decide), (by decide), (k5 (me_fb hS rfl) c0 c1 c2 c3).1.2, c3⟩ (fun h1 W => (k5 (me_fb hS rfl) c0 c1 c2 c3).2 h1 W.1 (W.2.2.2.1 14004) (W.2.2.2.2.2 _ rfl)))) (fun c2 => ms_letB_6 hS ok_zb ok_zk ⟨c0, (k6 (me_fb hS rfl) c0 c1 c2).1.1, c1, c2, (by decide), (by decide), (k6 (me_fb hS rfl) c0 c1 c2).1.2⟩ (fun h1 W => (k6 (me_fb hS rfl) c0 c1 c2).2 h1 W.1 (W.2.2.2.2.2 _ rfl)))))
set_option maxRecDepth 20000 in
theorem mp_letC_0 (h : sm_H) (d : Nat) (zb zk zj : Int) : mi_path [(181, (4, 1, sb_181))] sx_sk h 4 [1] (d + 1, 181, 54, [some (.inr (.inr 109)), some (.inl (zb)), some (.inl (zk)), some (.inl (zj))], [], [], []) = some ((d + 1, 181, 88, [some (.inr (.inr 109)), some (.inl (zb)), some (.inl (zk)), some (.inl (zj))], [.inl (zk)], [], []), [zj < zb]) := rfl
theorem mi_tab_letC_0 : ∀ e ∈ ([(181, (4, 1, sb_181))] : mi_T), sc_P e.1 = some e.2 := mi_tb mi_P181 (mi_tb_e)
set_option maxRecDepth 20000 in
theorem ms_letC_0 {h : sm_H} {d : Nat} {Q : Option mi_V → sm_H → Prop} {zb zk zj : Int} (hS : ab_Sh sx_sk h) (ok_zb : mi_in zb) (ok_zk : mi_in zk) (ok_zj : mi_in zj) (ho : (zj < zb)) (kon : ∀ h1, me_W [] h h1 → Q (some (.inl (zk))) h1) : me_E (d + 1) 181 54 [some (.inr (.inr 109)), some (.inl (zb)), some (.inl (zk)), some (.inl (zj))] [] h Q := me_seg (mp_letC_0 h d zb zk zj) (mi_tab_letC_0) hS (mi_okL_c (trivial) (mi_okL_c (ok_zb) (mi_okL_c (ok_zk) (mi_okL_c (ok_zj) (mi_okL_e))))) (mi_okS_e) (mi_al (ho) (mi_al_e)) (fun h1 W _ hst => me_ret (M := (4, 1, sb_181)) rfl rfl rfl hst (mi_al_e) (kon h1 W))
set_option maxRecDepth 20000 in
theorem mp_letC_1 (h : sm_H) (d : Nat) (zb zk zj : Int) : mi_path [(181, (4, 1, sb_181))] sx_sk h 19 [0] (d + 1, 181, 54, [some (.inr (.inr 109)), some (.inl (zb)), some (.inl (zk)), some (.inl (zj))], [], [], []) = some ((d + 1, 181, 54, [some (.inr (.inr 109)), some (.inl (zb)), some (.inl (zk)), some (.inl (zj + (-1)))], [], [.inr (.inl (14004, ((mx_l h 14004) <<< ((Int32.ofInt ((5 : Int))).toInt64 &&& 63)) ||| (((Int32.ofInt (mi_a h 110 (Int.toNat zj))).toInt64) - (Int64.ofNat 96))))], []), [zb ≤ zj, 0 ≤ zj ∧ zj < 240, (-65536) ≤ (((mx_l h 14004) <<< ((Int32.ofInt ((5 : Int))).toInt64 &&& 63)) ||| (((Int32.ofInt (mi_a h 110 (Int.toNat zj))).toInt64) - (Int64.ofNat 96))).toInt ∧ (((mx_l h 14004) <<< ((Int32.ofInt ((5 : Int))).toInt64 &&& 63)) ||| (((Int32.ofInt (mi_a h 110 (Int.toNat zj))).toInt64) - (Int64.ofNat 96))).toInt ≤ 1073741823, -2147483648 ≤ zj + (-1) ∧ zj + (-1) ≤ 2147483647]) := rfl
theorem mi_tab_letC_1 : ∀ e ∈ ([(181, (4, 1, sb_181))] : mi_T), sc_P e.1 = some e.2 := mi_tb mi_P181 (mi_tb_e)
set_option maxRecDepth 20000 in
theorem ms_letC_1 {h : sm_H} {d : Nat} {Q : Option mi_V → sm_H → Prop} {zb zk zj : Int} (hS : ab_Sh sx_sk h) (ok_zb : mi_in zb) (ok_zk : mi_in zk) (ok_zj : mi_in zj) (ho : (zb ≤ zj) ∧ (0 ≤ zj ∧ zj < 240) ∧ ((-65536) ≤ (((mx_l h 14004) <<< ((Int32.ofInt ((5 : Int))).toInt64 &&& 63)) ||| (((Int32.ofInt (mi_a h 110 (Int.toNat zj))).toInt64) - (Int64.ofNat 96))).toInt ∧ (((mx_l h 14004) <<< ((Int32.ofInt ((5 : Int))).toInt64 &&& 63)) ||| (((Int32.ofInt (mi_a h 110 (Int.toNat zj))).toInt64) - (Int64.ofNat 96))).toInt ≤ 1073741823) ∧ (-2147483648 ≤ zj + (-1) ∧ zj + (-1) ≤ 2147483647)) (kon : ∀ h1, me_W [.inr (.inl (14004, ((mx_l h 14004) <<< ((Int32.ofInt ((5 : Int))).toInt64 &&& 63)) ||| (((Int32.ofInt (mi_a h 110 (Int.toNat zj))).toInt64) - (Int64.ofNat 96))))] h h1 → me_E (d + 1) 181 54 [some (.inr (.inr 109)), some (.inl (zb)), some (.inl (zk)), some (.inl (zj + (-1)))] [] h1 Q) : me_E (d + 1) 181 54 [some (.inr (.inr 109)), some (.inl (zb)), some (.inl (zk)), some (.inl (zj))] [] h Q := me_seg (mp_letC_1 h d zb zk zj) (mi_tab_letC_1) hS (mi_okL_c (trivial) (mi_okL_c (ok_zb) (mi_okL_c (ok_zk) (mi_okL_c (ok_zj) (mi_okL_e))))) (mi_okS_e) (mi_al (ho.1) (mi_al (ho.2.1) (mi_al (ho.2.2.1) (mi_al (ho.2.2.2) (mi_al_e))))) (fun h1 W _ hst => kon h1 W)
set_option maxRecDepth 20000 in
theorem mt_letC {h : sm_H} {d : Nat} {Q : Option mi_V → sm_H → Prop} {zb zk zj : Int} (hS : ab_Sh sx_sk h) (ok_zb : mi_in zb) (ok_zk : mi_in zk) (ok_zj : mi_in zj) (k0 : (zj < zb) → (∀ h1, ab_Sh sx_sk h1 → ab_Fr [] h h1 → Q (some (.inl (zk))) h1)) (k1 : (zb ≤ zj) → ((0 ≤ zj ∧ zj < 240) ∧ ((-65536) ≤ (((mx_l h 14004) <<< ((Int32.ofInt ((5 : Int))).toInt64 &&& 63)) ||| (((Int32.ofInt (mi_a h 110 (Int.toNat zj))).toInt64) - (Int64.ofNat 96))).toInt ∧ (((mx_l h 14004) <<< ((Int32.ofInt ((5 : Int))).toInt64 &&& 63)) ||| (((Int32.ofInt (mi_a h 110 (Int.toNat zj))).toInt64) - (Int64.ofNat 96))).toInt ≤ 1073741823) ∧ (-2147483648 ≤ zj + (-1) ∧ zj + (-1) ≤ 2147483647)) ∧ (∀ h1, ab_Sh sx_sk h1 → mx_l h1 14004 = ((mx_l h 14004) <<< ((Int32.ofInt ((5 : Int))).toInt64 &&& 63)) ||| (((Int32.ofInt (mi_a h 110 (Int.toNat zj))).toInt64) - (Int64.ofNat 96)) → ab_Fr [(14004, 14005)] h h1 → me_E (d + 1) 181 54 [some (.inr (.inr 109)), some (.inl (zb)), some (.inl (zk)), some (.inl (zj + (-1)))] [] h1 Q)) : me_E (d + 1) 181 54 [some (.inr (.inr 109)), some (.inl (zb)), some (.inl (zk)), some (.inl (zj))] [] h Q := Or.elim (mi_em .lt (zj) (zb)) (fun c0 => ms_letC_0 hS ok_zb ok_zk ok_zj (c0) (fun h1 W => (k0 c0) h1 W.1 (W.2.2.2.2.2 _ rfl))) (fun c0 => ms_letC_1 hS ok_zb ok_zk ok_zj ⟨c0, (k1 c0).1.1, (k1 c0).1.2.1, (k1 c0).1.2.2⟩ (fun h1 W => (k1 c0).2 h1 W.1 (W.2.2.2.1 14004) (W.2.2.2.2.2 _ rfl)))
set_option maxRecDepth 20000 in
theorem mp_kwA_0 (h : sm_H) (d : Nat) (zw : Int64) : mi_path [(216, (4, 1, sb_216))] sx_sk h 2 [] (d, 216, 0, [some (.inr (.inr 109)), some (.inr (.inl (zw))), none, none], [], [], []) = some ((d, 216, 2, [some (.inr (.inr 109)), some (.inr (.inl (zw))), none, some (.inl ((0 : Int)))], [], [], []), []) := rfl
theorem mi_tab_kwA_0 : ∀ e ∈ ([(216, (4, 1, sb_216))] : mi_T), sc_P e.1 = some e.2 := mi_tb mi_P216 (mi_tb_e)
set_option maxRecDepth 20000 in
theorem ms_kwA_0 {h : sm_H} {d : Nat} {Q : Option mi_V → sm_H → Prop} {zw : Int64} (hS : ab_Sh sx_sk h)  (kon : ∀ h1, me_W [] h h1 → me_E (d) 216 2 [some (.inr (.inr 109)), some (.inr (.inl (zw))), none, some (.inl ((0 : Int)))] [] h1 Q) : me_E (d) 216 0 [some (.inr (.inr 109)), some (.inr (.inl (zw))), none, none] [] h Q := me_seg (mp_kwA_0 h d zw) (mi_tab_kwA_0) hS (mi_okL_c (trivial) (mi_okL_c (trivial) (mi_okL_n (mi_okL_n (mi_okL_e))))) (mi_okS_e) (mi_al_e) (fun h1 W _ hst => kon h1 W)
set_option maxRecDepth 20000 in
theorem mt_kwA {h : sm_H} {d : Nat} {Q : Option mi_V → sm_H → Prop} {zw : Int64} (hS : ab_Sh sx_sk h)  (k0 : (∀ h1, ab_Sh sx_sk h1 → ab_Fr [] h h1 → me_E (d) 216 2 [some (.inr (.inr 109)), some (.inr (.inl (zw))), none, some (.inl ((0 : Int)))] [] h1 Q)) : me_E (d) 216 0 [some (.inr (.inr 109)), some (.inr (.inl (zw))), none, none] [] h Q := ms_kwA_0 hS (fun h1 W => (k0) h1 W.1 (W.2.2.2.2.2 _ rfl))
set_option maxRecDepth 20000 in
theorem mp_kwB_0 (h : sm_H) (d : Nat) (zl : Int) (zw : Int64) : mi_path [(216, (4, 1, sb_216))] sx_sk h 5 [1] (d, 216, 2, [some (.inr (.inr 109)), some (.inr (.inl (zw))), none, some (.inl (zl))], [], [], []) = some ((d, 216, 41, [some (.inr (.inr 109)), some (.inr (.inl (zw))), none, some (.inl (zl))], [.inl ((-1 : Int))], [], []), [(mi_f h 13962) ≤ zl]) := rfl
theorem mi_tab_kwB_0 : ∀ e ∈ ([(216, (4, 1, sb_216))] : mi_T), sc_P e.1 = some e.2 := mi_tb mi_P216 (mi_tb_e)
set_option maxRecDepth 20000 in
theorem ms_kwB_0 {h : sm_H} {d : Nat} {Q : Option mi_V → sm_H → Prop} {zl : Int} {zw : Int64} (hS : ab_Sh sx_sk h) (ok_zl : mi_in zl) (ho : ((mi_f h 13962) ≤ zl)) (kon : ∀ h1, me_W [] h h1 → Q (some (.inl ((-1 : Int)))) h1) : me_E (d) 216 2 [some (.inr (.inr 109)), some (.inr (.inl (zw))), none, some (.inl (zl))] [] h Q := me_seg (mp_kwB_0 h d zl zw) (mi_tab_kwB_0) hS (mi_okL_c (trivial) (mi_okL_c (trivial) (mi_okL_n (mi_okL_c (ok_zl) (mi_okL_e))))) (mi_okS_e) (mi_al (ho) (mi_al_e)) (fun h1 W _ hst => me_ret (M := (4, 1, sb_216)) rfl rfl rfl hst (mi_al_e) (kon h1 W))
set_option maxRecDepth 20000 in
theorem mp_kwB_1 (h : sm_H) (d : Nat) (zl : Int) (zw : Int64) : mi_path [(216, (4, 1, sb_216))] sx_sk h 13 [0, 1] (d, 216, 2, [some (.inr (.inr 109)), some (.inr (.inl (zw))), none, some (.inl (zl))], [], [], []) = some ((d, 216, 2, [some (.inr (.inr 109)), some (.inr (.inl (zw))), none, some (.inl (zl + 1))], [], [], []), [zl < (mi_f h 13962), 0 ≤ zl ∧ zl < 20, ((lg_cmp (mx_b h 118 (Int.toNat zl)) (Int64.ofNat 0)).toInt) = ((0 : Int)), -2147483648 ≤ zl + 1 ∧ zl + 1 ≤ 2147483647]) := rfl
theorem mi_tab_kwB_1 : ∀ e ∈ ([(216, (4, 1, sb_216))] : mi_T), sc_P e.1 = some e.2 := mi_tb mi_P216 (mi_tb_e)
set_option maxRecDepth 20000 in
theorem ms_kwB_1 {h : sm_H} {d : Nat} {Q : Option mi_V → sm_H → Prop} {zl : Int} {zw : Int64} (hS : ab_Sh sx_sk h) (ok_zl : mi_in zl) (ho : (zl < (mi_f h 13962)) ∧ (0 ≤ zl ∧ zl < 20) ∧ (((lg_cmp (mx_b h 118 (Int.toNat zl)) (Int64.ofNat 0)).toInt) = ((0 : Int))) ∧ (-2147483648 ≤ zl + 1 ∧ zl + 1 ≤ 2147483647)) (kon : ∀ h1, me_W [] h h1 → me_E (d) 216 2 [some (.inr (.inr 109)), some (.inr (.inl (zw))), none, some (.inl (zl + 1))] [] h1 Q) : me_E (d) 216 2 [some (.inr (.inr 109)), some (.inr (.inl (zw))), none, some (.inl (zl))] [] h Q := me_seg (mp_kwB_1 h d zl zw) (mi_tab_kwB_1) hS (mi_okL_c (trivial) (mi_okL_c (trivial) (mi_okL_n (mi_okL_c (ok_zl) (mi_okL_e))))) (mi_okS_e) (mi_al (ho.1) (mi_al (ho.2.1) (mi_al (ho.2.2.1) (mi_al (ho.2.2.2) (mi_al_e))))) (fun h1 W _ hst => kon h1 W)
set_option maxRecDepth 20000 in
theorem mp_kwB_2 (h : sm_H) (d : Nat) (zl : Int) (zw : Int64) : mi_path [(216, (4, 1, sb_216))] sx_sk h 20 [0, 0, 1] (d, 216, 2, [some (.inr (.inr 109)), some (.inr (.inl (zw))), none, some (.inl (zl))], [], [], []) = some ((d, 216, 2, [some (.inr (.inr 109)), some (.inr (.inl (zw))), none, some (.inl (zl + 1))], [], [], []), [zl < (mi_f h 13962), 0 ≤ zl ∧ zl < 20, ((lg_cmp (mx_b h 118 (Int.toNat zl)) (Int64.ofNat 0)).toInt) ≠ ((0 : Int)), 0 ≤ zl ∧ zl < 20, ((lg_cmp (mx_b h 118 (Int.toNat zl)) zw).toInt) ≠ ((0 : Int)), -2147483648 ≤ zl + 1 ∧ zl + 1 ≤ 2147483647]) := rfl
theorem mi_tab_kwB_2 : ∀ e ∈ ([(216, (4, 1, sb_216))] : mi_T), sc_P e.1 = some e.2 := mi_tb mi_P216 (mi_tb_e)
set_option maxRecDepth 20000 in
theorem ms_kwB_2 {h : sm_H} {d : Nat} {Q : Option mi_V → sm_H → Prop} {zl : Int} {zw : Int64} (hS : ab_Sh sx_sk h) (ok_zl : mi_in zl) (ho : (zl < (mi_f h 13962)) ∧ (0 ≤ zl ∧ zl < 20) ∧ (((lg_cmp (mx_b h 118 (Int.toNat zl)) (Int64.ofNat 0)).toInt) ≠ ((0 : Int))) ∧ (0 ≤ zl ∧ zl < 20) ∧ (((lg_cmp (mx_b h 118 (Int.toNat zl)) zw).toInt) ≠ ((0 : Int))) ∧ (-2147483648 ≤ zl + 1 ∧ zl + 1 ≤ 2147483647)) (kon : ∀ h1, me_W [] h h1 → me_E (d) 216 2 [some (.inr (.inr 109)), some (.inr (.inl (zw))), none, some (.inl (zl + 1))] [] h1 Q) : me_E (d) 216 2 [some (.inr (.inr 109)), some (.inr (.inl (zw))), none, some (.inl (zl))] [] h Q := me_seg (mp_kwB_2 h d zl zw) (mi_tab_kwB_2) hS (mi_okL_c (trivial) (mi_okL_c (trivial) (mi_okL_n (mi_okL_c (ok_zl) (mi_okL_e))))) (mi_okS_e) (mi_al (ho.1) (mi_al (ho.2.1) (mi_al (ho.2.2.1) (mi_al (ho.2.2.2.1) (mi_al (ho.2.2.2.2.1) (mi_al (ho.2.2.2.2.2) (mi_al_e))))))) (fun h1 W _ hst => kon h1 W)
set_option maxRecDepth 20000 in
theorem mp_kwB_3 (h : sm_H) (d : Nat) (zl : Int) (zw : Int64) : mi_path [(216, (4, 1, sb_216))] sx_sk h 19 [0, 0, 0] (d, 216, 2, [some (.inr (.inr 109)), some (.inr (.inl (zw))), none, some (.inl (zl))], [], [], []) = some ((d, 216, 33, [some (.inr (.inr 109)), some (.inr (.inl (zw))), none, some (.inl (zl))], [.inl (zl)], [], []), [zl < (mi_f h 13962), 0 ≤ zl ∧ zl < 20, ((lg_cmp (mx_b h 118 (Int.toNat zl)) (Int64.ofNat 0)).toInt) ≠ ((0 : Int)), 0 ≤ zl ∧ zl < 20, ((lg_cmp (mx_b h 118 (Int.toNat zl)) zw).toInt) = ((0 : Int))]) := rfl
theorem mi_tab_kwB_3 : ∀ e ∈ ([(216, (4, 1, sb_216))] : mi_T), sc_P e.1 = some e.2 := mi_tb mi_P216 (mi_tb_e)
set_option maxRecDepth 20000 in
theorem ms_kwB_3 {h : sm_H} {d : Nat} {Q : Option mi_V → sm_H → Prop} {zl : Int} {zw : Int64} (hS : ab_Sh sx_sk h) (ok_zl : mi_in zl) (ho : (zl < (mi_f h 13962)) ∧ (0 ≤ zl ∧ zl < 20) ∧ (((lg_cmp (mx_b h 118 (Int.toNat zl)) (Int64.ofNat 0)).toInt) ≠ ((0 : Int))) ∧ (0 ≤ zl ∧ zl < 20) ∧ (((lg_cmp (mx_b h 118 (Int.toNat zl)) zw).toInt) = ((0 : Int)))) (kon : ∀ h1, me_W [] h h1 → Q (some (.inl (zl))) h1) : me_E (d) 216 2 [some (.inr (.inr 109)), some (.inr (.inl (zw))), none, some (.inl (zl))] [] h Q := me_seg (mp_kwB_3 h d zl zw) (mi_tab_kwB_3) hS (mi_okL_c (trivial) (mi_okL_c (trivial) (mi_okL_n (mi_okL_c (ok_zl) (mi_okL_e))))) (mi_okS_e) (mi_al (ho.1) (mi_al (ho.2.1) (mi_al (ho.2.2.1) (mi_al (ho.2.2.2.1) (mi_al (ho.2.2.2.2) (mi_al_e)))))) (fun h1 W _ hst => me_ret (M := (4, 1, sb_216)) rfl rfl rfl hst (mi_al_e) (kon h1 W))
set_option maxRecDepth 20000 in
theorem mt_kwB {h : sm_H} {d : Nat} {Q : Option mi_V → sm_H → Prop} {zl : Int} {zw : Int64} (hS : ab_Sh sx_sk h) (ok_zl : mi_in zl) (k0 : (0 ≤ mi_f h 13962 ∧ mi_f h 13962 ≤ 20) → ((mi_f h 13962) ≤ zl) → (∀ h1, ab_Sh sx_sk h1 → ab_Fr [] h h1 → Q (some (.inl ((-1 : Int)))) h1)) (k1 : (0 ≤ mi_f h 13962 ∧ mi_f h 13962 ≤ 20) → (zl < (mi_f h 13962)) → (((lg_cmp (mx_b h 118 (Int.toNat zl)) (Int64.ofNat 0)).toInt) = ((0 : Int))) → ((0 ≤ zl ∧ zl < 20) ∧ (-2147483648 ≤ zl + 1 ∧ zl + 1 ≤ 2147483647)) ∧ (∀ h1, ab_Sh sx_sk h1 → ab_Fr [] h h1 → me_E (d) 216 2 [some (.inr (.inr 109)), some (.inr (.inl (zw))), none, some (.inl (zl + 1))] [] h1 Q)) (k2 : (0 ≤ mi_f h 13962 ∧ mi_f h 13962 ≤ 20) → (zl < (mi_f h 13962)) → (((lg_cmp (mx_b h 118 (Int.toNat zl)) (Int64.ofNat 0)).toInt) ≠ ((0 : Int))) → (((lg_cmp (mx_b h 118 (Int.toNat zl)) zw).toInt) ≠ ((0 : Int))) → ((0 ≤ zl ∧ zl < 20) ∧ (-2147483648 ≤ zl + 1 ∧ zl + 1 ≤ 2147483647)) ∧ (∀ h1, ab_Sh sx_sk h1 → ab_Fr [] h h1 → me_E (d) 216 2 [some (.inr (.inr 109)), some (.inr (.inl (zw))), none, some (.inl (zl + 1))] [] h1 Q)) (k3 : (0 ≤ mi_f h 13962 ∧ mi_f h 13962 ≤ 20) → (zl < (mi_f h 13962)) → (((lg_cmp (mx_b h 118 (Int.toNat zl)) (Int64.ofNat 0)).toInt) ≠ ((0 : Int))) → (((lg_cmp (mx_b h 118 (Int.toNat zl)) zw).toInt) = ((0 : Int))) → ((0 ≤ zl ∧ zl < 20)) ∧ (∀ h1, ab_Sh sx_sk h1 → ab_Fr [] h h1 → Q (some (.inl (zl))) h1)) : me_E (d) 216 2 [some (.inr (.inr 109)), some (.inr (.inl (zw))), none, some (.inl (zl))] [] h Q := Or.elim (mi_em .ge (zl) ((mi_f h 13962))) (fun c0 => ms_kwB_0 hS ok_zl (c0) (fun h1 W => (k0 (me_fb hS rfl) c0) h1 W.1 (W.2.2.2.2.2 _ rfl))) (fun c0 => Or.elim (mi_em .eq (((lg_cmp (mx_b h 118 (Int.toNat zl)) (Int64.ofNat 0)).toInt)) (((0 : Int)))) (fun c1 => ms_kwB_1 hS ok_zl ⟨c0, (k1 (me_fb hS rfl) c0 c1).1.1, c1, (k1 (me_fb hS rfl) c0 c1).1.2⟩ (fun h1 W => (k1 (me_fb hS rfl) c0 c1).2 h1 W.1 (W.2.2.2.2.2 _ rfl))) (fun c1 => Or.elim (mi_em .ne (((lg_cmp (mx_b h 118 (Int.toNat zl)) zw).toInt)) (((0 : Int)))) (fun c2 => ms_kwB_2 hS ok_zl ⟨c0, (k2 (me_fb hS rfl) c0 c1 c2).1.1, c1, (k2 (me_fb hS rfl) c0 c1 c2).1.1, c2, (k2 (me_fb hS rfl) c0 c1 c2).1.2⟩ (fun h1 W => (k2 (me_fb hS rfl) c0 c1 c2).2 h1 W.1 (W.2.2.2.2.2 _ rfl))) (fun c2 => ms_kwB_3 hS ok_zl ⟨c0, (k3 (me_fb hS rfl) c0 c1 c2).1, c1, (k3 (me_fb hS rfl) c0 c1 c2).1, c2⟩ (fun h1 W => (k3 (me_fb hS rfl) c0 c1 c2).2 h1 W.1 (W.2.2.2.2.2 _ rfl)))))
/-! letters, keywordOf -/
theorem lg_or {a b : Int64} {n : Nat} (ha : a.toBitVec.toNat < 2 ^ n) (hb : b.toBitVec.toNat < 2 ^ n) : (a ||| b).toBitVec.toNat < 2 ^ n := by
  rw [Int64.toBitVec_or, BitVec.toNat_or]
  exact Nat.or_lt_two_pow ha hb
theorem lg_toInt {a : Int64} {n : Nat} (hn : n ≤ 62) (ha : a.toBitVec.toNat < 2 ^ n) : 0 ≤ a.toInt ∧ a.toInt < 2 ^ n := by
  have h1 : (2 : Nat) ^ n ≤ 2 ^ 62 := Nat.pow_le_pow_right (by decide) hn
  have e : a.toInt = (a.toBitVec.toNat : Int) := by
    show a.toBitVec.toInt = _
    exact BitVec.toInt_eq_toNat_of_lt (by omega)
  rw [e]
  refine ⟨by omega, ?_⟩
  exact_mod_cast ha
theorem lg_shl {a : Int64} {n k : Nat} {s : Int64} (hs : s.toBitVec.smod 64 = BitVec.ofNat 64 k) (hk : n + k ≤ 63) (ha : a.toBitVec.toNat < 2 ^ n) : (a <<< s).toBitVec.toNat < 2 ^ (n + k) := by
  rw [Int64.toBitVec_shiftLeft, hs]
  have hk64 : k < 2 ^ 64 := by omega
  have e : (a.toBitVec <<< BitVec.ofNat 64 k) = a.toBitVec <<< k := by
    rw [BitVec.shiftLeft_eq', BitVec.toNat_ofNat, Nat.mod_eq_of_lt hk64]
  rw [e, BitVec.toNat_shiftLeft, Nat.shiftLeft_eq]
  refine Nat.lt_of_le_of_lt (Nat.mod_le _ _) ?_
  rw [Nat.pow_add]
  exact Nat.mul_lt_mul_of_pos_right ha (Nat.two_pow_pos k)
section LET
variable {d : Nat}
theorem me_letC {zb zk : Int} (hb : 0 ≤ zb) (hk : zk ≤ 241) (h6 : zk - zb ≤ 6) : ∀ (N : Nat) (zj : Int) (h : sm_H), ab_Sh sx_sk h → zj < N → -1 ≤ zj → zj < zk → (zb ≤ zj → zj < 240) → (∀ j, zb ≤ j → j < zk → 97 ≤ mi_a h 110 j.toNat ∧ mi_a h 110 j.toNat ≤ 122) → (mx_l h 14004).toBitVec.toNat < 2 ^ (5 * (zk - 1 - zj).toNat) → zb - 1 ≤ zj → me_E (d + 1) 181 54 [some (.inr (.inr 109)), some (.inl zb), some (.inl zk), some (.inl zj)] [] h (fun w h' => w = some (.inl zk) ∧ ab_Sh sx_sk h' ∧ ab_Fr [(14004, 14005)] h h') := by
  intro N
  induction N with
  | zero =>
    intro zj h hS h1 h2 h3 h4 h5 h6 h7
    have ok_zb : mi_in zb := ⟨by omega, by omega⟩
    have ok_zk : mi_in zk := ⟨by omega, by omega⟩
    refine mt_letC hS ok_zb ok_zk ⟨by omega, by omega⟩ ?_ ?_
    · intro c h1 g1 g2
      exact ⟨rfl, g1, g2.wide (fun c hc => by cases hc)⟩
    · intro c
      exfalso; omega
  | succ N ih =>
    intro zj h hS h1 h2 h3 h4 h5 hv h7
    have ok_zb : mi_in zb := ⟨by omega, by omega⟩
    have ok_zk : mi_in zk := ⟨by omega, by omega⟩
    refine mt_letC hS ok_zb ok_zk ⟨by omega, by omega⟩ ?_ ?_
    · intro c h1 g1 g2
      exact ⟨rfl, g1, g2.wide (fun c hc => by cases hc)⟩
    · intro c
      have h240 := h4 c
      obtain ⟨c1, c2⟩ := h5 zj c h3
      have okc : mi_in (mi_a h 110 zj.toNat) := ⟨by omega, by omega⟩
      generalize hx : mi_a h 110 (Int.toNat zj) = x at c1 c2 okc
      have e5 : (zk - 1 - (zj - 1)).toNat = (zk - 1 - zj).toNat + 1 := by omega
      have ex : ((Int32.ofInt x).toInt64 - Int64.ofNat 96).toInt = x - 96 := by
        rw [Int64.toInt_sub, Int32.toInt_toInt64, mi_ti okc]
        have : (Int64.ofNat 96).toInt = 96 := rfl
        rw [this]
        exact Int.bmod_eq_of_le (by omega) (by omega)
      have hxn : ((Int32.ofInt x).toInt64 - Int64.ofNat 96).toBitVec.toNat < 2 ^ 5 := by
        have e2 : ((Int32.ofInt x).toInt64 - Int64.ofNat 96).toBitVec.toInt = x - 96 := ex
        have e3 := BitVec.toInt_eq_toNat_cond ((Int32.ofInt x).toInt64 - Int64.ofNat 96).toBitVec
        have e4 := ((Int32.ofInt x).toInt64 - Int64.ofNat 96).toBitVec.isLt
        split at e3 <;> omega
      have hsh := lg_shl (a := mx_l h 14004) (s := (Int32.ofInt ((5 : Int))).toInt64 &&& 63) (k := 5) (by decide) (by omega) hv
      have hor := lg_or hsh (Nat.lt_of_lt_of_le hxn (Nat.pow_le_pow_right (by decide) (Nat.le_add_left 5 _)))
      have hle : 5 * (zk - 1 - zj).toNat + 5 ≤ 30 := by omega
      have hbd := lg_toInt (by omega) hor
      have hpw : (2 : Int) ^ (5 * (zk - 1 - zj).toNat + 5) ≤ 2 ^ 30 := by
        have : (2 : Nat) ^ (5 * (zk - 1 - zj).toNat + 5) ≤ 2 ^ 30 := Nat.pow_le_pow_right (by decide) hle
        exact_mod_cast this
      refine ⟨⟨by omega, ?_, by omega⟩, fun h1 g1 g2 g3 => ?_⟩
      · omega
      · have ea : ∀ j, mi_a h1 110 j = mi_a h 110 j := fun j => me_a (k := 110) g3 hS rfl rfl
        refine (ih _ h1 g1 (by omega) (by omega) (by omega) (by omega) (fun j j1 j2 => by rw [ea]; exact h5 j j1 j2) ?_ (by omega)).imp (fun w h' hq => ⟨hq.1, hq.2.1, g3.trans hq.2.2⟩)
        have e6 : 5 * (zk - 1 - (zj + -1)).toNat = 5 * (zk - 1 - zj).toNat + 5 := by omega
        rw [e6, g2]
        exact hor
theorem me_letB {zb : Int} (hb0 : 0 ≤ zb) (hb1 : zb ≤ 241) : ∀ (N : Nat) (zk : Int) (h : sm_H), ab_Sh sx_sk h → 241 - zk < N → zb ≤ zk → zk ≤ 241 → (zb ≤ 240 → zk ≤ 240) → (∀ j, zb ≤ j → j < zk → j < 240 ∧ 97 ≤ mi_a h 110 j.toNat ∧ mi_a h 110 j.toNat ≤ 122) → me_E (d + 1) 181 2 [some (.inr (.inr 109)), some (.inl zb), some (.inl zk), none] [] h (fun w h' => (∃ z, w = some (.inl z) ∧ zb ≤ z ∧ z ≤ 241 ∧ (zb ≤ 240 → z ≤ 240)) ∧ ab_Sh sx_sk h' ∧ ab_Fr [(14004, 14005)] h h') := by
  intro N
  induction N with
  | zero => intro zk h hS h1 h2 h3; omega
  | succ N ih =>
    intro zk h hS h1 h2 h3 h4 h5
    have ok_zb : mi_in zb := ⟨by omega, by omega⟩
    have ok_zk : mi_in zk := ⟨by omega, by omega⟩
    have fin : zk - zb ≤ 6 → ∀ h1, ab_Sh sx_sk h1 → mx_l h1 14004 = Int64.ofNat 0 → ab_Fr [(14004, 14005)] h h1 → me_E (d + 1) 181 54 [some (.inr (.inr 109)), some (.inl zb), some (.inl zk), some (.inl (zk - 1))] [] h1 (fun w h' => (∃ z, w = some (.inl z) ∧ zb ≤ z ∧ z ≤ 241 ∧ (zb ≤ 240 → z ≤ 240)) ∧ ab_Sh sx_sk h' ∧ ab_Fr [(14004, 14005)] h h') := by
      intro h6 h1 g1 g2 g3
      have ea : ∀ j, mi_a h1 110 j = mi_a h 110 j := fun j => me_a (k := 110) g3 hS rfl rfl
      refine (me_letC hb0 h3 h6 300 (zk - 1) h1 g1 (by omega) (by omega) (by omega) (fun c => (h5 (zk - 1) c (by omega)).1) (fun j j1 j2 => by rw [ea]; exact (h5 j j1 j2).2) ?_ (by omega)).imp (fun w h' hq => ⟨⟨zk, hq.1, h2, h3, h4⟩, hq.2.1, g3.trans hq.2.2⟩)
      rw [g2]
      have : (zk - 1 - (zk - 1)).toNat = 0 := by omega
      rw [this]
      decide
    refine mt_letB hS ok_zb ok_zk ?_ ?_ ?_ ?_ ?_ ?_ ?_
    · intro b c1 c2
      exact ⟨by omega, fun h1 g1 g2 g3 => fin c2 h1 g1 g2 g3⟩
    · intro b c1 c2
      exact ⟨by omega, fun h1 g1 g2 g3 => ⟨⟨zk, rfl, h2, h3, h4⟩, g1, g3⟩⟩
    · intro b c1 c2 c3
      exact ⟨by omega, fun h1 g1 g2 g3 => fin c3 h1 g1 g2 g3⟩
    · intro b c1 c2 c3
      exact ⟨by omega, fun h1 g1 g2 g3 => ⟨⟨zk, rfl, h2, h3, h4⟩, g1, g3⟩⟩
    · intro b c1 c2 c3 c4
      exact ⟨by omega, fun h1 g1 g2 g3 => fin c4 h1 g1 g2 g3⟩
    · intro b c1 c2 c3 c4
      exact ⟨by omega, fun h1 g1 g2 g3 => ⟨⟨zk, rfl, h2, h3, h4⟩, g1, g3⟩⟩
    · intro b c1 c2 c3
      refine ⟨by omega, fun h1 g1 g2 => ?_⟩
      have ea : ∀ j, mi_a h1 110 j = mi_a h 110 j := fun j => me_a (k := 110) g2 hS rfl rfl
      refine (ih _ h1 g1 (by omega) (by omega) (by omega) (by omega) (fun j j1 j2 => ?_)).imp (fun w h' hq => ⟨hq.1, hq.2.1, (g2.wide (fun c hc => by cases hc)).trans hq.2.2⟩)
      by_cases ej : j = zk
      · rw [ea, ej]
        exact ⟨by omega, c2, c3⟩
      · rw [ea]
        exact h5 j j1 (by omega)
theorem me_letters {zb : Int} {h : sm_H} (hS : ab_Sh sx_sk h) (hb0 : 0 ≤ zb) (hb1 : zb ≤ 241) : me_E (d + 1) 181 0 [some (.inr (.inr 109)), some (.inl zb), none, none] [] h (fun w h' => (∃ z, w = some (.inl z) ∧ zb ≤ z ∧ z ≤ 241 ∧ (zb ≤ 240 → z ≤ 240)) ∧ ab_Sh sx_sk h' ∧ ab_Fr [(14004, 14005)] h h') := by
  refine mt_letA hS ⟨by omega, by omega⟩ ?_
  intro h1 g1 g2
  exact (me_letB hb0 hb1 300 zb h1 g1 (by omega) (by omega) hb1 (fun h => h) (fun j j1 j2 => by omega)).imp (fun w h' hq => ⟨hq.1, hq.2.1, (g2.wide (fun c hc => by cases hc)).trans hq.2.2⟩)
def xc_letters0 : ab_C := (181, [(3, 109, 0, []), (1, 0, 240, [])], [], [((1, 0, 240, []), [])], [(14004, 14005)], 1)
def xc_letters1 : ab_C := (181, [(3, 109, 0, []), (1, 0, 241, [])], [], [((1, 0, 241, []), [])], [(14004, 14005)], 1)
theorem me_lettersOk (hi : Int) (h240 : hi = 240 ∨ hi = 241) : ab_Ok sc_P sx_sk (181, [(3, 109, 0, []), (1, 0, hi, [])], [], [((1, 0, hi, []), [])], [(14004, 14005)], 1) := by
  intro h as M hM hSh has hpre
  have eM : M = (4, 1, sb_181) := (Option.some.inj (hM.symm.trans (show sc_P 181 = some (4, 1, sb_181) from rfl)))
  subst eM
  match as, has with
  | [a, b], ⟨ha, hb, _⟩ =>
    have ea : a = .ref 109 := Option.some.inj (ab_kd3 ha rfl)
    obtain ⟨x, ex, h1, h2, -⟩ := ab_kd1 hb rfl
    have eb : b = .int x := Option.some.inj ex
    subst ea
    subst eb
    have h1 : 0 ≤ x.toInt := h1
    have h2 : x.toInt ≤ hi := h2
    have := me_letters (d := 0) (zb := x.toInt) hSh h1 (by omega)
    unfold me_E at this
    have el : mi_cl [some (.inr (.inr 109)), some (.inl x.toInt), none, none] = sm_entry 4 [.ref 109, .int x] := by
      show [some (Value.ref 109), some (mi_c (.inl x.toInt)), none, none] = _
      rw [mi_cT]
      rfl
    rw [el] at this
    refine ab_Ends.imp this (fun v h' hq => ?_)
    obtain ⟨w, e1, e2, ⟨z, e3, e4, e5, e6⟩, e7, e8⟩ := hq
    subst e3
    refine ⟨e7, e8, _, List.mem_cons_self, ?_, fun e he => by cases he⟩
    unfold ab_res
    rw [if_neg (by decide), e1]
    exact ⟨fun _ => me_nv1 (e2 _ rfl) (by omega) (by omega), by simp⟩
theorem xo_letters0 : ab_Ok sc_P sx_sk xc_letters0 := me_lettersOk 240 (Or.inl rfl)
theorem xo_letters1 : ab_Ok sc_P sx_sk xc_letters1 := me_lettersOk 241 (Or.inr rfl)
end LET
section KW
variable {d : Nat}
theorem lg_cmp0 {x y : Int64} (h : (lg_cmp x y).toInt = 0) : x = y := by
  unfold lg_cmp at h
  split at h
  · exfalso; revert h; decide
  · split at h
    · next e => exact e
    · exfalso; revert h; decide
theorem me_kwB {zw : Int64} : ∀ (N : Nat) (zl : Int) (h : sm_H), ab_Sh sx_sk h → 20 - zl < N → 0 ≤ zl → zl ≤ 20 → me_E d 216 2 [some (.inr (.inr 109)), some (.inr (.inl zw)), none, some (.inl zl)] [] h (fun w h' => ab_Sh sx_sk h' ∧ ab_Fr [] h h' ∧ ∃ z, w = some (.inl z) ∧ -1 ≤ z ∧ z < 20 ∧ (0 ≤ z → mx_b h 118 z.toNat = zw)) := by
  intro N
  induction N with
  | zero => intro zl h hS h1 h2 h3; omega
  | succ N ih =>
    intro zl h hS h1 h2 h3
    have ok : mi_in zl := ⟨by omega, by omega⟩
    have back : ∀ h1, ab_Sh sx_sk h1 → ab_Fr [] h h1 → zl < mi_f h 13962 → mi_f h 13962 ≤ 20 → me_E d 216 2 [some (.inr (.inr 109)), some (.inr (.inl zw)), none, some (.inl (zl + 1))] [] h1 (fun w h' => ab_Sh sx_sk h' ∧ ab_Fr [] h h' ∧ ∃ z, w = some (.inl z) ∧ -1 ≤ z ∧ z < 20 ∧ (0 ≤ z → mx_b h 118 z.toNat = zw)) := by
      intro h1 g1 g2 c b
      refine (ih _ h1 g1 (by omega) (by omega) (by omega)).imp (fun w h' hq => ⟨hq.1, g2.trans hq.2.1, ?_⟩)
      obtain ⟨z, z1, z2, z3, z4⟩ := hq.2.2
      exact ⟨z, z1, z2, z3, fun h0 => (me_b (k := 118) g2 hS rfl rfl).symm.trans (z4 h0)⟩
    refine mt_kwB hS ok ?_ ?_ ?_ ?_
    · intro b c1 h1 g1 g2
      exact ⟨g1, g2, -1, rfl, by decide, by decide, fun h => absurd h (by decide)⟩
    · intro b c1 c2
      exact ⟨by omega, fun h1 g1 g2 => back h1 g1 g2 c1 b.2⟩
    · intro b c1 c2 c3
      exact ⟨by omega, fun h1 g1 g2 => back h1 g1 g2 c1 b.2⟩
    · intro b c1 c2 c3
      exact ⟨by omega, fun h1 g1 g2 => ⟨g1, g2, zl, rfl, by omega, by omega, fun _ => lg_cmp0 c3⟩⟩
theorem me_keywordOf {zw : Int64} {h : sm_H} (hS : ab_Sh sx_sk h) : me_E d 216 0 [some (.inr (.inr 109)), some (.inr (.inl zw)), none, none] [] h (fun w h' => ab_Sh sx_sk h' ∧ ab_Fr [] h h' ∧ ∃ z, w = some (.inl z) ∧ -1 ≤ z ∧ z < 20 ∧ (0 ≤ z → mx_b h 118 z.toNat = zw)) := by
  refine mt_kwA hS ?_
  intro h1 g1 g2
  refine (me_kwB 30 0 h1 g1 (by omega) (by omega) (by omega)).imp (fun w h' hq => ⟨hq.1, g2.trans hq.2.1, ?_⟩)
  obtain ⟨z, z1, z2, z3, z4⟩ := hq.2.2
  exact ⟨z, z1, z2, z3, fun h0 => (me_b (k := 118) g2 hS rfl rfl).symm.trans (z4 h0)⟩
end KW
