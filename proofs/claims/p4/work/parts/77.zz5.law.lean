/-! THE LAW'S LOOP -/
theorem xw_sn : wb_good sc_P sc_PW sx_sk [(6528, 13952), (21888, 21889)] [([13], xc_sn)] 2002 1 60 [(3, 51, 0, []), (1, (-2147483648), (-1), []), (3, 171, 0, [])] [(1, 1, 1, [])] = true := by decide +kernel
theorem xw_sb : wb_good sc_P sc_PW sx_sk [(6528, 13952), (21888, 21889)] [([13], xc_sb)] 2002 1 60 [(3, 51, 0, []), (1, 3, 2147483647, []), (3, 171, 0, [])] [(1, 1, 1, [])] = true := by decide +kernel
section C4
variable {MJ : sm_H → Prop} {L : Nat} {xs : Nat → Int32} {QL : sm_H → Prop}
theorem c4_in {p : Int32} {lo hi : Int} (h1 : lo ≤ p.toInt) (h2 : p.toInt ≤ hi) : ab_nv (1, lo, hi, []) (some (.int p)) := ⟨p, rfl, h1, h2, fun _ ht => absurd ht List.not_mem_nil⟩
set_option maxRecDepth 20000 in
set_option maxHeartbeats 2000000 in
theorem c4_case {x : Int32} {a b c : Option Value} {h : sm_H} {C S : Nat} (hI : mj_I MJ) (hL : L ≤ 2048) (hx : 0 ≤ x.toInt ∧ x.toInt + 4 ≤ (L : Int)) (hSh : ab_Sh sx_sk h) (hJ : lj_J MJ L xs h) (hC : h.length + 1 ≤ C) (hS : sm_sl h + 6 ≤ S)
    (kk : ∀ (a b c : Option Value) (h' : sm_H), ab_Sh sx_sk h' → lj_J MJ L xs h' → h'.length ≤ C → sm_sl h' ≤ S → lb_Ends sc_P sc_PW sl_tab 300 602 (xl_ls x a b c) [] h' QL) : lb_Ends sc_P sc_PW sl_tab 300 182 (xl_ls x a b c) [] h QL := by
  have e1 := lj_add (c := 1) (by decide) hx hL
  refine lb_Ends.step (q := (.aload_n 1, 1, [])) rfl rfl ?_
  refine lb_Ends.step (q := (.aload_n 0, 1, [])) rfl rfl ?_
  refine lb_Ends.step (q := (.iload 4, 2, [])) rfl rfl ?_
  refine lb_Ends.step (q := (.iconst 1, 1, [])) rfl rfl ?_
  refine lb_Ends.step (q := (.iadd, 1, [])) rfl rfl ?_
  have e1a : 0 ≤ (x + Int32.ofInt 1).toInt := by omega
  have e1b : (x + Int32.ofInt 1).toInt < (L : Int) := by omega
  refine lb_Ends.step (q := (.iaload, 1, [])) rfl (lj_load (i := x + Int32.ofInt 1) hJ ⟨e1a, e1b⟩) ?_
  generalize hp : xs (x + Int32.ofInt 1).toNatClampNeg = p
  refine lb_Ends.step (q := (.aload_n 3, 1, [])) rfl rfl ?_
  have b1 := p.le_toInt
  have b2 := p.toInt_lt
  have hcall : ∀ {Q' : Option Value → sm_H → Prop}, wb_Ends sc_P sc_PW 4 2002 0 (sm_entry 4 [.ref 51, .int p, .ref 171]) [] h Q' → (∀ v h', Q' v h' → lb_Ends sc_P sc_PW sl_tab 300 193 (xl_ls x a b c) (sm_back v []) h' QL) → lb_Ends sc_P sc_PW sl_tab 300 190 (xl_ls x a b c) [.ref 171, .int p, .ref 51] h QL := fun k1 k2 =>
    lb_Ends.callW (q := (.invokestatic 73, 3, [0, 2002, 3])) (M := ((4, 1, sw_2), sw_h2)) rfl rfl rfl (by decide : (sm_slots [Value.ref 51, .int 0, .ref 171]).length ≤ 4) (by simp) (k1.deep (by decide)) k2
  have hconst : ∀ (z : Int32) (cs cm : ab_C), ab_Ok sc_P sx_sk cs → cs.1 = 98 → ab_nvs cs.2.1 [.ref 51, .int p] → cs.2.2.1 = [] → ab_sub_wr cs.2.2.2.2.1 mj_wr = true → cs.2.2.2.2.2 ≤ 3 → (∀ q ∈ cs.2.2.2.1, q.1 = (1, z.toInt, z.toInt, [])) →
      ab_Ok sc_P sx_sk cm → cm.1 = 173 → ab_nvs cm.2.1 [.ref 109, .int p] → cm.2.2.1 = [] → ab_sub_wr cm.2.2.2.2.1 [(13952, 13954), (14080, 14081)] = true → cm.2.2.2.2.2 ≤ 100 → (∀ q ∈ cm.2.2.2.1, q.1 = (1, z.toInt, z.toInt, []) ∧ q.2 = [(13952, (1, (0 : Int32).toInt, (0 : Int32).toInt, []))]) → lb_Ends sc_P sc_PW sl_tab 300 190 (xl_ls x a b c) [.ref 171, .int p, .ref 51] h QL := by
    intro z cs cm s1 s2 s3 s4 s5 s6 s7 m1 m2 m3 m4 m5 m6 m7
    refine hcall (c2_wrap hI s1 s2 s3 s4 s5 s6 s7 hSh hJ) (fun v h1 hq => ?_)
    obtain ⟨rfl, g1, g2, g3, g4, g5⟩ := hq
    exact c3_rest hI hL hx hp g1 g2 (by omega) (by omega) m1 m2 m3 m4 m5 m6 m7 xo_u0 (Or.inl rfl) (fun _ => g5) kk
  have hthrow : ∀ (cm : ab_C) (w : lb_W), lb_OkW sc_P sc_PW sx_sk (lj_J MJ L xs) w → w.1 = 2002 → ab_nvs w.2.1 [.ref 51, .int p, .ref 171] → w.2.2.1 = [(1, 1, 1, [])] → w.2.2.2 ≤ 4 →
      ab_Ok sc_P sx_sk cm → cm.1 = 173 → ab_nvs cm.2.1 [.ref 109, .int p] → cm.2.2.1 = [] → ab_sub_wr cm.2.2.2.2.1 [(13952, 13954), (14080, 14081)] = true → cm.2.2.2.2.2 ≤ 100 → (∀ q ∈ cm.2.2.2.1, q.1 = (1, (0 : Int32).toInt, (0 : Int32).toInt, []) ∧ q.2 = [(13952, (1, (1 : Int32).toInt, (1 : Int32).toInt, []))]) → lb_Ends sc_P sc_PW sl_tab 300 190 (xl_ls x a b c) [.ref 171, .int p, .ref 51] h QL := by
    intro cm w w1 w2 w3 w4 w5 m1 m2 m3 m4 m5 m6 m7
    obtain ⟨-, k1⟩ := w1 h [.ref 51, .int p, .ref 171] ((4, 1, sw_2), sw_h2) (by rw [w2]; rfl) hSh hJ w3
    rw [w2] at k1
    refine hcall (k1.deep w5) (fun v h1 hq => ?_)
    obtain ⟨g1, g2, g3, g4, q, qm, qr⟩ := hq
    rw [w4] at qm
    rw [List.mem_singleton.mp qm] at qr
    unfold ab_res at qr
    rw [if_neg (by decide)] at qr
    obtain ⟨y, ey, y1, y2, -⟩ := ab_kd1 (qr.1 (by decide)) rfl
    have e3 : y = 1 := Int32.toInt_inj.mp (by
      have a1 : (1 : Int) ≤ y.toInt := y1
      have a2 : y.toInt ≤ (1 : Int) := y2
      have a3 : (1 : Int32).toInt = 1 := rfl
      omega)
    subst ey
    subst e3
    exact c3_rest (rz := 0) hI hL hx hp g1 g2 (by omega) (by omega) m1 m2 m3 m4 m5 m6 m7 xo_u1 (Or.inr rfl) (fun z => by cases z) kk
  by_cases p0 : p.toInt < 0
  · exact hthrow xc_tn _ (lj_W hI xs_len (List.forall_mem_cons.mpr ⟨xo_sn, fun _ h => absurd h List.not_mem_nil⟩) xw_sn (by decide +kernel)) rfl ⟨rfl, c4_in (by omega) (by omega), rfl, trivial⟩ rfl (by decide) xo_tn rfl ⟨rfl, c4_in (by omega) (by omega), trivial⟩ rfl (by decide +kernel) (by decide) (fun q hq => by rw [List.mem_singleton.mp hq]; exact ⟨rfl, rfl⟩)
  by_cases p3 : 2 < p.toInt
  · exact hthrow xc_tb _ (lj_W hI xs_len (List.forall_mem_cons.mpr ⟨xo_sb, fun _ h => absurd h List.not_mem_nil⟩) xw_sb (by decide +kernel)) rfl ⟨rfl, c4_in (by omega) (by omega), rfl, trivial⟩ rfl (by decide) xo_tb rfl ⟨rfl, c4_in (by omega) (by omega), trivial⟩ rfl (by decide +kernel) (by decide) (fun q hq => by rw [List.mem_singleton.mp hq]; exact ⟨rfl, rfl⟩)
  have hcs : p.toInt = 0 ∨ p.toInt = 1 ∨ p.toInt = 2 := by omega
  rcases hcs with pc | pc | pc
  · exact hconst 84 xc_s0 xc_t0 xo_s0 rfl ⟨rfl, c4_in (by omega) (by omega), trivial⟩ rfl (by decide +kernel) (by decide) (fun q hq => by rw [List.mem_singleton.mp hq]; rfl) xo_t0 rfl ⟨rfl, c4_in (by omega) (by omega), trivial⟩ rfl (by decide +kernel) (by decide) (fun q hq => by rw [List.mem_singleton.mp hq]; exact ⟨rfl, rfl⟩)
  · exact hconst 131 xc_s1 xc_t1 xo_s1 rfl ⟨rfl, c4_in (by omega) (by omega), trivial⟩ rfl (by decide +kernel) (by decide) (fun q hq => by rw [List.mem_singleton.mp hq]; rfl) xo_t1 rfl ⟨rfl, c4_in (by omega) (by omega), trivial⟩ rfl (by decide +kernel) (by decide) (fun q hq => by rw [List.mem_singleton.mp hq]; exact ⟨rfl, rfl⟩)
  · exact hconst 92 xc_s2 xc_t2 xo_s2 rfl ⟨rfl, c4_in (by omega) (by omega), trivial⟩ rfl (by decide +kernel) (by decide) (fun q hq => by rw [List.mem_singleton.mp hq]; rfl) xo_t2 rfl ⟨rfl, c4_in (by omega) (by omega), trivial⟩ rfl (by decide +kernel) (by decide) (fun q hq => by rw [List.mem_singleton.mp hq]; exact ⟨rfl, rfl⟩)
theorem c4_nv {x : Int32} {a b c : Option Value} (hx : 0 ≤ x.toInt ∧ x.toInt ≤ 2147483000) : ∀ (j : Nat) (v : ab_V), xl_HL[j]? = some v → ab_nv v (sm_lget (xl_ls x a b c) j) := by
  intro j v hj
  match j, hj with
  | 0, hj => cases hj; rfl
  | 1, hj => cases hj; rfl
  | 2, hj => cases hj; rfl
  | 3, hj => cases hj; rfl
  | 4, hj => cases hj; exact c4_in hx.1 hx.2
  | 5, hj => cases hj; trivial
  | 6, hj => cases hj; trivial
  | 7, hj => cases hj; trivial
  | j + 8, hj => cases hj
theorem c4_eta {ls : sm_L} {x : Int32} (h1 : ls.length = 8) (h2 : ∀ (j : Nat) (v : ab_V), xl_HL[j]? = some v → ab_nv v (sm_lget ls j)) (h3 : sm_lget ls 4 = some (.int x)) : ∃ a b c, ls = xl_ls x a b c := by
  match ls, h1 with
  | [l0, l1, l2, l3, l4, l5, l6, l7], _ =>
    have g : ∀ (l : Option Value) (n : Nat), ab_nv (3, (n : Int), 0, []) l → l = some (.ref n) := fun l n hn => hn
    have j0 := g _ 0 (h2 0 _ rfl)
    have j1 := g _ 51 (h2 1 _ rfl)
    have j2 := g _ 109 (h2 2 _ rfl)
    have j3 := g _ 171 (h2 3 _ rfl)
    have gg : ∀ (o : Option Value) (v : Value), (match (some o : Option (Option Value)) with
      | some (some v) => some v
      | _ => none) = some v → o = some v := fun o v ho => by
      cases o with
      | none => cases ho
      | some w => exact ho
    rw [gg l0 _ j0, gg l1 _ j1, gg l2 _ j2, gg l3 _ j3, gg l4 _ h3]
    exact ⟨l5, l6, l7, rfl⟩
/-- every other case -/
theorem c4_go {x : Int32} {a b c : Option Value} {h : sm_H} {C S pc : Nat} (hI : mj_I MJ) (hX : xm_Ok (lj_J MJ L xs)) (hL : L ≤ 2048) (hexp : lb_exp sc_P sc_PW sx_sk xp_env xw_env sl_tab 602 xl_HL 60 300 1 pc (ab_headl 0 xl_HL, [], []) = true) (hx : 0 ≤ x.toInt ∧ x.toInt + 4 ≤ (L : Int)) (hSh : ab_Sh sx_sk h) (hJ : lj_J MJ L xs h) (hC : h.length + 1 ≤ C) (hS : sm_sl h + 6 ≤ S)
    (kk : ∀ (a b c : Option Value) (h' : sm_H), ab_Sh sx_sk h' → lj_J MJ L xs h' → h'.length ≤ C → sm_sl h' ≤ S → lb_Ends sc_P sc_PW sl_tab 300 602 (xl_ls x a b c) [] h' QL) : lb_Ends sc_P sc_PW sl_tab 300 pc (xl_ls x a b c) [] h QL := by
  refine lb_exp_ok (N := 8) (L0 := xl_ls x a b c) (h0 := h) (x0 := x) (xp_ok hI hX) (xw_ok hI) rfl hx (fun h hJ => hJ.2.2) (fun ls h' g1 g2 g3 g4 g5 g6 g7 g8 => ?_) 60 1 pc _ (xl_ls x a b c) [] h hexp rfl ⟨⟨rfl, fun j v hj => ?_⟩, trivial, fun e he => absurd he List.not_mem_nil⟩ hSh hJ hC hS
  · obtain ⟨a', b', c', rfl⟩ := c4_eta g1 g2 g4
    exact kk a' b' c' h' g5 g6 g7 g8
  · have := ab_headl_ok (ls := xl_ls x a b c) (h := h) xl_HL 0 (fun j b hj => by rw [Nat.zero_add]; exact c4_nv ⟨hx.1, by omega⟩ j b hj) j v hj
    rw [Nat.zero_add] at this
    exact this
end C4
