/-! the law's calls that leave the relation alone -/
def xv_wr : List (Nat × Nat) := [(21888, 21889)]
set_option maxRecDepth 20000 in
theorem xv_3 : wb_good sc_P sc_PW sx_sk xv_wr [([12, 13, 14], xc_168)] 2003 3 60 [(3, 51, 0, []), ab_top, ab_top, (3, 171, 0, [])] [(1, 0, 3, [])] = true := by decide +kernel
set_option maxRecDepth 20000 in
theorem xv_9 : wb_good sc_P sc_PW sx_sk xv_wr [([12], xc_992)] 2009 2 60 [(3, 51, 0, []), ab_top, (3, 171, 0, [])] [(1, 0, 3, [])] = true := by decide +kernel
set_option maxRecDepth 20000 in
theorem xv_10 : wb_good sc_P sc_PW sx_sk xv_wr [([14], xc_997)] 2010 3 60 [(3, 51, 0, []), (3, 171, 0, [])] [(1, 0, 3, [])] = true := by decide +kernel
def xv_env : List lb_W := [(2003, [(3, 51, 0, []), ab_top, ab_top, (3, 171, 0, [])], [(1, 0, 3, [])], 3), (2009, [(3, 51, 0, []), ab_top, (3, 171, 0, [])], [(1, 0, 3, [])], 2), (2010, [(3, 51, 0, []), (3, 171, 0, [])], [(1, 0, 3, [])], 3)]
def xq_env : List ab_C := [xc_m4, xc_157, xc_m8, xc_m11, xc_m12]
set_option maxRecDepth 20000 in
theorem xq_ok {L : Nat} {xs : Nat → Int32} : ∀ c ∈ xq_env, lb_OkP sc_P sx_sk (lj_J M9 L xs) c := List.forall_mem_cons.mpr ⟨l9_P xo_m4 rfl (by decide +kernel), List.forall_mem_cons.mpr ⟨l9_P xo_157 rfl (by decide +kernel), List.forall_mem_cons.mpr ⟨l9_P xo_m8 rfl (by decide +kernel), List.forall_mem_cons.mpr ⟨l9_P xo_m11 rfl (by decide +kernel), List.forall_mem_cons.mpr ⟨l9_P xo_m12 rfl (by decide +kernel), fun _ h => absurd h List.not_mem_nil⟩⟩⟩⟩⟩
set_option maxRecDepth 20000 in
theorem xv_ok {L : Nat} {xs : Nat → Int32} : ∀ w ∈ xv_env, lb_OkW sc_P sc_PW sx_sk (lj_J M9 L xs) w := List.forall_mem_cons.mpr ⟨l9_W (List.forall_mem_cons.mpr ⟨xo_168, fun _ h => absurd h List.not_mem_nil⟩) xv_3 (by decide +kernel), List.forall_mem_cons.mpr ⟨l9_W (List.forall_mem_cons.mpr ⟨xo_992, fun _ h => absurd h List.not_mem_nil⟩) xv_9 (by decide +kernel), List.forall_mem_cons.mpr ⟨l9_W (List.forall_mem_cons.mpr ⟨xo_997, fun _ h => absurd h List.not_mem_nil⟩) xv_10 (by decide +kernel), fun _ h => absurd h List.not_mem_nil⟩⟩⟩
set_option maxRecDepth 20000 in
theorem xl_4 : lb_exp sc_P sc_PW sx_sk xq_env xv_env sl_tab 601 xl_HL 60 300 1 223 (ab_headl 0 xl_HL, [], []) = true := by decide +kernel
set_option maxRecDepth 20000 in
theorem xl_10 : lb_exp sc_P sc_PW sx_sk xq_env xv_env sl_tab 601 xl_HL 60 300 1 506 (ab_headl 0 xl_HL, [], []) = true := by decide +kernel
set_option maxRecDepth 20000 in
theorem xl_13 : lb_exp sc_P sc_PW sx_sk xq_env xv_env sl_tab 601 xl_HL 60 300 1 560 (ab_headl 0 xl_HL, [], []) = true := by decide +kernel
set_option maxRecDepth 20000 in
theorem xl_14 : lb_exp sc_P sc_PW sx_sk xq_env xv_env sl_tab 601 xl_HL 60 300 1 576 (ab_headl 0 xl_HL, [], []) = true := by decide +kernel
def xl_ls (x : Int32) (a b c : Option Value) : sm_L := [some (.ref 0), some (.ref 51), some (.ref 109), some (.ref 171), some (.int x), a, b, c]
section C3
variable {MJ : sm_H → Prop} {L : Nat} {xs : Nat → Int32} {QL : sm_H → Prop}
theorem lj_load {h : sm_H} {pc : Nat} {i : Int32} {s : List Value} {ls : sm_L} (hJ : lj_J MJ L xs h) (hi : 0 ≤ i.toInt ∧ i.toInt < (L : Int)) : sm_step (.iaload, 1, []) pc ls (.int i :: .ref 0 :: s) h = some (.inl (pc + 1, ls, .int (xs i.toNatClampNeg) :: s, h)) := by
  have h1 := mx_ix hi
  simp only [sm_step, sm_ald]
  rw [hJ.2.2]
  dsimp only
  rw [if_pos ⟨rfl, h1.1, Or.inr (Or.inl trivial)⟩]
  rfl
theorem lj_add {x : Int32} {c : Int} (hc : 0 ≤ c ∧ c ≤ 4) (hx : 0 ≤ x.toInt ∧ x.toInt + 4 ≤ (L : Int)) (hL : L ≤ 2048) : (x + Int32.ofInt c).toInt = x.toInt + c := by
  rw [Int32.toInt_add, Int32.toInt_ofInt_of_le (by omega) (by omega)]
  exact ab_bm (by omega) (by omega)
/-- a call on the reference by its class -/
theorem c3_virt {h : sm_H} {pc idx n m : Nat} {ls : sm_L} {vs r : List Value} {st : List Value} (hSh : ab_Sh sx_sk h) (ha : sm_args (n + 1) st = some (.ref 109 :: vs, r)) : sm_step (.invokevirtual idx, 3, [0, n, 11, m]) pc ls st h = some (.inr (.inr (m, .ref 109 :: vs, r))) := by
  have hk : ∃ fl, sx_sk[109]? = some (some (.inr (11, fl))) := ⟨_, rfl⟩
  obtain ⟨fl, hk⟩ := hk
  obtain ⟨fs, ho, -, -⟩ := mx_obj hSh hk
  simp only [sm_step, sm_callV]
  rw [ha]
  dsimp only
  rw [ho]
  rfl
end C3
section C4
variable {L : Nat} {xs : Nat → Int32} {QL : sm_H → Prop}
theorem c4_in {p : Int32} {lo hi : Int} (h1 : lo ≤ p.toInt) (h2 : p.toInt ≤ hi) : ab_nv (1, lo, hi, []) (some (.int p)) := ⟨p, rfl, h1, h2, fun _ ht => absurd ht List.not_mem_nil⟩
theorem c4_nv {x : Int32} {a b c : Option Value} (hx : 0 ≤ x.toInt ∧ x.toInt ≤ 2147483000) : ∀ (j : Nat) (v : ab_V), xl_HL[j]? = some v → ab_nv v (sm_lget (xl_ls x a b c) j) := by
  intro j v hj
  match j, hj with
  | 0, hj => cases hj; rfl
  | 1, hj => cases hj; rfl
  | 2, hj => cases hj; rfl
  | 3, hj => cases hj; rfl
  | 4, hj => cases hj; exact c4_in hx.1 hx.2
  | 5, hj => cases hj; trivial
  | 6, hj => cases hj; trivial
  | 7, hj => cases hj; trivial
  | j + 8, hj => cases hj
theorem c4_eta {ls : sm_L} {x : Int32} (h1 : ls.length = 8) (h2 : ∀ (j : Nat) (v : ab_V), xl_HL[j]? = some v → ab_nv v (sm_lget ls j)) (h3 : sm_lget ls 4 = some (.int x)) : ∃ a b c, ls = xl_ls x a b c := by
  match ls, h1 with
  | [l0, l1, l2, l3, l4, l5, l6, l7], _ =>
    have g : ∀ (l : Option Value) (n : Nat), ab_nv (3, (n : Int), 0, []) l → l = some (.ref n) := fun l n hn => hn
    have j0 := g _ 0 (h2 0 _ rfl)
    have j1 := g _ 51 (h2 1 _ rfl)
    have j2 := g _ 109 (h2 2 _ rfl)
    have j3 := g _ 171 (h2 3 _ rfl)
    have gg : ∀ (o : Option Value) (v : Value), (match (some o : Option (Option Value)) with
      | some (some v) => some v
      | _ => none) = some v → o = some v := fun o v ho => by
      cases o with
      | none => cases ho
      | some w => exact ho
    rw [gg l0 _ j0, gg l1 _ j1, gg l2 _ j2, gg l3 _ j3, gg l4 _ h3]
    exact ⟨l5, l6, l7, rfl⟩
theorem c4_go {x : Int32} {a b c : Option Value} {h : sm_H} {C S pc : Nat} (hL : L ≤ 2048) (hexp : lb_exp sc_P sc_PW sx_sk xq_env xv_env sl_tab 601 xl_HL 60 300 1 pc (ab_headl 0 xl_HL, [], []) = true) (hx : 0 ≤ x.toInt ∧ x.toInt + 4 ≤ (L : Int)) (hSh : ab_Sh sx_sk h) (hJ : lj_J M9 L xs h) (hC : h.length + 1 ≤ C) (hS : sm_sl h + 6 ≤ S)
    (kk : ∀ (a b c : Option Value) (h' : sm_H), ab_Sh sx_sk h' → lj_J M9 L xs h' → h'.length ≤ C → sm_sl h' ≤ S → lb_Ends sc_P sc_PW sl_tab 300 601 (xl_ls x a b c) [] h' QL) : lb_Ends sc_P sc_PW sl_tab 300 pc (xl_ls x a b c) [] h QL := by
  refine lb_exp_ok (N := 8) (L0 := xl_ls x a b c) (h0 := h) (x0 := x) xq_ok xv_ok rfl hx (fun h hJ => hJ.2.2) (fun ls h' g1 g2 g3 g4 g5 g6 g7 g8 => ?_) 60 1 pc _ (xl_ls x a b c) [] h hexp rfl ⟨⟨rfl, fun j v hj => ?_⟩, trivial, fun e he => absurd he List.not_mem_nil⟩ hSh hJ hC hS
  · obtain ⟨a', b', c', rfl⟩ := c4_eta g1 g2 g4
    exact kk a' b' c' h' g5 g6 g7 g8
  · have := ab_headl_ok (ls := xl_ls x a b c) (h := h) xl_HL 0 (fun j b hj => by rw [Nat.zero_add]; exact c4_nv ⟨hx.1, by omega⟩ j b hj) j v hj
    rw [Nat.zero_add] at this
    exact this
end C4
