/-! the law's cases 0, 1, 2: the texts stay the same -/
def T1 (z : Int) : rg_T := fun n c n' c' => ef_c z n n' c c' ∧ ∀ i : Nat, (i : Int) < n → tx_al (c i)
def T2 : rg_T := fun _ c n' c' => n' = 0 ∧ c' = c
def T3 (k : Int) : rg_T := fun _ c n' c' => n' = (sw_k k).length ∧ c' = apl (sw_k k) 0 c
def xc_yn : ab_C := (95, [(3, 51, 0, []), (1, (-2147483648), (-1), []), (1, 0, 65535, [])], [], [], [], 0)
theorem xo_yn : ab_OkX sc_P sx_sk [12] xc_yn := ab_goodX_ok (env := []) (heads := []) (fuel := 30) (by decide +kernel) (fun _ h => absurd h List.not_mem_nil)
def xc_yb : ab_C := (95, [(3, 51, 0, []), (1, 2, 2147483647, []), (1, 0, 65535, [])], [], [], [], 0)
theorem xo_yb : ab_OkX sc_P sx_sk [12] xc_yb := ab_goodX_ok (env := []) (heads := []) (fuel := 30) (by decide +kernel) (fun _ h => absurd h List.not_mem_nil)
def xc_kn : ab_C := (97, [(3, 51, 0, []), (1, (-2147483648), (-1), [])], [], [], [], 0)
theorem xo_kn : ab_OkX sc_P sx_sk [12] xc_kn := ab_goodX_ok (env := []) (heads := []) (fuel := 30) (by decide +kernel) (fun _ h => absurd h List.not_mem_nil)
def xc_kb : ab_C := (97, [(3, 51, 0, []), (1, 2, 2147483647, [])], [], [], [], 0)
theorem xo_kb : ab_OkX sc_P sx_sk [12] xc_kb := ab_goodX_ok (env := []) (heads := []) (fuel := 30) (by decide +kernel) (fun _ h => absurd h List.not_mem_nil)
theorem chr_bd (x : Int32) : 0 ≤ (sm_chr x).toInt ∧ (sm_chr x).toInt ≤ 65535 := by
  rw [ab_chr_eq]
  exact ⟨Int.emod_nonneg _ (by decide), by have := Int.emod_lt_of_pos x.toInt (show (0 : Int) < 65536 by decide); omega⟩
/-- what the reference's call leaves -/
def wm_Q (L : Nat) (xs : Nat → Int32) (h : sm_H) (v : Option Value) (h' : sm_H) : Prop := (∃ y, v = some (.int y)) ∧ ab_Sh sx_sk h' ∧ lj_J M8 L xs h' ∧ h'.length = h.length ∧ sm_sl h' = sm_sl h
section TT
variable {T T' : rg_T} {L : Nat} {xs : Nat → Int32} {h h' : sm_H} {wr : List (Nat × Nat)} {p z : Int32}
theorem lh_new (hJ : lh_J T L xs h) (hS : ab_Sh sx_sk h) (hS' : ab_Sh sx_sk h') (hF : ab_Fr wr h h') (hw : (ab_sub_wr wr mj_wr && rc_no wr) = true) (hT : T' (mi_f h' 13953) (mi_a h' 110) (mi_f h' 6657) (mi_a h' 53)) : lh_J T' L xs h' := by
  rw [Bool.and_eq_true] at hw
  exact ⟨lj_fr mj_MJ hJ.1 hw.1 hF, RG_of hS' hT (r8_c_fr hJ.2.2.2.2 hS hF hw.2)⟩
theorem we_type (z0 : 0 ≤ z.toInt) (z1 : z.toInt ≤ 65535) (hS : ab_Sh sx_sk h) (hJ : lh_J T0 L xs h) : ∃ T, (T = T0 ∧ p.toInt ≠ 0 ∨ T = T1 z.toInt ∧ p.toInt = 0) ∧ ab_EndsX sc_P (we_T T L xs 12 h) 1 95 0 (sm_entry 3 [.ref 51, .int p, .int z]) [] h (we_Q T L xs h) := by
  have b1 := p.le_toInt
  have b2 := p.toInt_lt
  have em : ([.inr (.inr 51), .inl p.toInt, .inl z.toInt] : List mi_V).map mi_c = [.ref 51, .int p, .int z] := by
    simp only [List.map, mi_cT]
    rfl
  by_cases hn : p.toInt < 0
  · exact ⟨T0, Or.inl ⟨rfl, by omega⟩, we_of (M := (3, 4, sb_95)) xo_yn rfl hS hJ ⟨rfl, c4_in (by omega) (by omega), c4_in z0 z1, trivial⟩ (fun e he => absurd he List.not_mem_nil) rfl rfl (Nat.zero_le _)⟩
  by_cases hb : 2 ≤ p.toInt
  · exact ⟨T0, Or.inl ⟨rfl, by omega⟩, we_of (M := (3, 4, sb_95)) xo_yb rfl hS hJ ⟨rfl, c4_in (by omega) (by omega), c4_in z0 z1, trivial⟩ (fun e he => absurd he List.not_mem_nil) rfl rfl (Nat.zero_le _)⟩
  by_cases h0 : p.toInt = 0
  · refine ⟨T1 z.toInt, Or.inr ⟨rfl, h0⟩, we_run (M := (3, 4, sb_95)) (Q := ap_Q z.toInt h) em ?_ (fun w h' _ q => ?_)⟩
    · show me_E 1 95 0 [some (.inr (.inr 51)), some (.inl p.toInt), some (.inl z.toInt)] [] h _
      rw [h0]
      exact me_typec0 (d := 0) hS z0 z1
    · obtain ⟨⟨y, rfl, -⟩, q1, q2, q3⟩ := q
      have f1 := me_f (c := 13953) q2 hS rfl rfl
      have a1 : mi_a h' 110 = mi_a h 110 := funext fun i => me_a (k := 110) q2 hS rfl rfl
      obtain ⟨t1, t2, t3⟩ := hJ.2.2.2.1
      rw [t1, t2] at q3
      refine ⟨⟨y, rfl⟩, q1, lh_new hJ hS q1 q2 (by decide) ?_, q2.1, q2.2.1⟩
      rw [f1, a1]
      exact ⟨q3, t3⟩
  · have h1 : p.toInt = 1 := by omega
    refine ⟨T0, Or.inl ⟨rfl, h0⟩, we_run (M := (3, 4, sb_95)) em (show me_E 1 95 0 [some (.inr (.inr 51)), some (.inl p.toInt), some (.inl z.toInt)] [] h _ from by rw [h1]; exact me_typec1 (d := 0) hS z0 z1) (fun w h' _ q => ?_)⟩
    obtain ⟨⟨y, rfl, -⟩, q1, q2⟩ := q
    exact ⟨⟨y, rfl⟩, q1, lh_fr hJ hS q1 q2 (by decide), q2.1, q2.2.1⟩
theorem wm_type (z0 : 0 ≤ z.toInt) (z1 : z.toInt ≤ 65535) (hS : ab_Sh sx_sk h) (hJ : lh_J T L xs h) (hT : T = T0 ∧ p.toInt ≠ 0 ∨ T = T1 z.toInt ∧ p.toInt = 0) : ab_Ends sc_P 1 171 0 (sm_entry 3 [.ref 109, .int p, .int z]) [] h (wm_Q L xs h) := by
  have em : ([.inr (.inr 109), .inl p.toInt, .inl z.toInt] : List mi_V).map mi_c = [.ref 109, .int p, .int z] := by
    simp only [List.map, mi_cT]
    rfl
  refine ab_Ends.imp (me_run (M := (3, 4, sb_171)) em (me_typer (d := 1) hS (mi_inT p) z0 z1)) (fun v h' hw => ?_)
  obtain ⟨w, rfl, -, ⟨y, rfl, -⟩, q1, q2, q3⟩ := hw
  rcases hT with ⟨rfl, ht⟩ | ⟨rfl, ht⟩
  · have f := q3 ht
    exact ⟨⟨_, rfl⟩, q1, lh_0.mp (lh_fr hJ hS q1 f (by decide)), f.1, f.2.1⟩
  · obtain ⟨f, e⟩ := q2 ht
    obtain ⟨t1, t2⟩ := hJ.2.2.2.1
    have f1 := me_f (c := 6657) f hS rfl rfl
    have a1 : mi_a h' 53 = mi_a h 53 := funext fun i => me_a (k := 53) f hS rfl rfl
    have n0 := (me_fb (c := 13953) hS rfl).1
    have o := ef_ok n0 e t2
    obtain ⟨u1, u2⟩ := ef_u t1 e
    refine ⟨⟨_, rfl⟩, q1, lh_0.mp (lh_new hJ hS q1 f (by decide) ?_), f.1, f.2.1⟩
    rw [f1, a1]
    exact ⟨u1, u2, o⟩
theorem we_clear (hS : ab_Sh sx_sk h) (hJ : lh_J T0 L xs h) : ∃ T, (T = T0 ∧ p.toInt ≠ 0 ∨ T = T2 ∧ p.toInt = 0) ∧ ab_EndsX sc_P (we_T T L xs 12 h) 1 97 0 (sm_entry 3 [.ref 51, .int p]) [] h (we_Q T L xs h) := by
  have b1 := p.le_toInt
  have b2 := p.toInt_lt
  have em : ([.inr (.inr 51), .inl p.toInt] : List mi_V).map mi_c = [.ref 51, .int p] := by
    simp only [List.map, mi_cT]
    rfl
  by_cases hn : p.toInt < 0
  · exact ⟨T0, Or.inl ⟨rfl, by omega⟩, we_of (M := (3, 1, sb_97)) xo_kn rfl hS hJ ⟨rfl, c4_in (by omega) (by omega), trivial⟩ (fun e he => absurd he List.not_mem_nil) rfl rfl (Nat.zero_le _)⟩
  by_cases hb : 2 ≤ p.toInt
  · exact ⟨T0, Or.inl ⟨rfl, by omega⟩, we_of (M := (3, 1, sb_97)) xo_kb rfl hS hJ ⟨rfl, c4_in (by omega) (by omega), trivial⟩ (fun e he => absurd he List.not_mem_nil) rfl rfl (Nat.zero_le _)⟩
  by_cases h0 : p.toInt = 0
  · refine ⟨T2, Or.inr ⟨rfl, h0⟩, we_run (M := (3, 1, sb_97)) em (show me_E 1 97 0 [some (.inr (.inr 51)), some (.inl p.toInt), none] [] h _ from by rw [h0]; exact me_clearc0 (d := 0) hS) (fun w h' _ q => ?_)⟩
    obtain ⟨⟨y, rfl, -⟩, q1, q2, q3⟩ := q
    have a1 : mi_a h' 110 = mi_a h 110 := funext fun i => me_a (k := 110) q2 hS rfl rfl
    have a2 : mi_a h' 53 = mi_a h 53 := funext fun i => me_a (k := 53) q2 hS rfl rfl
    obtain ⟨t1, t2, t3⟩ := hJ.2.2.2.1
    exact ⟨⟨y, rfl⟩, q1, lh_new hJ hS q1 q2 (by decide) ⟨q3, by rw [a1, a2]; exact t2⟩, q2.1, q2.2.1⟩
  · have h1 : p.toInt = 1 := by omega
    refine ⟨T0, Or.inl ⟨rfl, h0⟩, we_run (M := (3, 1, sb_97)) em (show me_E 1 97 0 [some (.inr (.inr 51)), some (.inl p.toInt), none] [] h _ from by rw [h1]; exact me_clearc1 (d := 0) hS) (fun w h' _ q => ?_)⟩
    obtain ⟨⟨y, rfl, -⟩, q1, q2⟩ := q
    exact ⟨⟨y, rfl⟩, q1, lh_fr hJ hS q1 q2 (by decide), q2.1, q2.2.1⟩
theorem wm_clear (hS : ab_Sh sx_sk h) (hJ : lh_J T L xs h) (hT : T = T0 ∧ p.toInt ≠ 0 ∨ T = T2 ∧ p.toInt = 0) : ab_Ends sc_P 1 172 0 (sm_entry 3 [.ref 109, .int p]) [] h (wm_Q L xs h) := by
  have em : ([.inr (.inr 109), .inl p.toInt] : List mi_V).map mi_c = [.ref 109, .int p] := by
    simp only [List.map, mi_cT]
    rfl
  refine ab_Ends.imp (me_run (M := (3, 1, sb_172)) em (me_clearr (d := 1) hS (mi_inT p))) (fun v h' hw => ?_)
  obtain ⟨w, rfl, -, ⟨y, rfl, -⟩, q1, f, q3⟩ := hw
  have f1 := me_f (c := 6657) f hS rfl rfl
  have a1 : mi_a h' 53 = mi_a h 53 := funext fun i => me_a (k := 53) f hS rfl rfl
  have a2 : mi_a h' 110 = mi_a h 110 := funext fun i => me_a (k := 110) f hS rfl rfl
  refine ⟨⟨_, rfl⟩, q1, lh_0.mp (lh_new hJ hS q1 f (by decide) ?_), f.1, f.2.1⟩
  rw [f1, a1, a2, q3]
  rcases hT with ⟨rfl, ht⟩ | ⟨rfl, ht⟩
  · rw [if_neg ht]
    exact hJ.2.2.2.1
  · rw [if_pos ht]
    obtain ⟨t1, t2⟩ := hJ.2.2.2.1
    exact ⟨t1, t2, fun i hi => absurd hi (by omega)⟩
theorem we_sample (hS : ab_Sh sx_sk h) (hJ : lh_J T0 L xs h) : ∃ T, (T = T0 ∧ ¬ (0 ≤ p.toInt ∧ p.toInt ≤ 2) ∨ T = T3 p.toInt ∧ 0 ≤ p.toInt ∧ p.toInt ≤ 2) ∧ ab_EndsX sc_P (we_T T L xs 13 h) 7 98 0 (sm_entry 2 [.ref 51, .int p]) [] h (we_Q T L xs h) := by
  have b1 := p.le_toInt
  have b2 := p.toInt_lt
  have em : ([.inr (.inr 51), .inl p.toInt] : List mi_V).map mi_c = [.ref 51, .int p] := by
    simp only [List.map, mi_cT]
    rfl
  by_cases hn : p.toInt < 0
  · exact ⟨T0, Or.inl ⟨rfl, by omega⟩, we_of (M := (2, 1, sb_98)) xo_sn rfl hS hJ ⟨rfl, c4_in (by omega) (by omega), trivial⟩ (fun e he => absurd he List.not_mem_nil) rfl rfl (Nat.zero_le _)⟩
  by_cases hb : 3 ≤ p.toInt
  · exact ⟨T0, Or.inl ⟨rfl, by omega⟩, we_of (M := (2, 1, sb_98)) xo_sb rfl hS hJ ⟨rfl, c4_in (by omega) (by omega), trivial⟩ (fun e he => absurd he List.not_mem_nil) rfl rfl (Nat.zero_le _)⟩
  have h0 : 0 ≤ p.toInt := by omega
  have h1 : p.toInt ≤ 2 := by omega
  refine ⟨T3 p.toInt, Or.inr ⟨rfl, h0, h1⟩, we_run (M := (2, 1, sb_98)) em (me_samplec (d := 0) hS h0 h1) (fun w h' _ q => ?_)⟩
  obtain ⟨⟨y, rfl, -⟩, q1, q2, q3, q4⟩ := q
  have a1 : mi_a h' 110 = mi_a h 110 := funext fun i => me_a (k := 110) q2 hS rfl rfl
  obtain ⟨t1, t2, t3⟩ := hJ.2.2.2.1
  exact ⟨⟨y, rfl⟩, q1, lh_new hJ hS q1 q2 (by decide) ⟨q3, by rw [a1, q4, t2]⟩, q2.1, q2.2.1⟩
theorem sw_kal (k : Int) : ∀ x ∈ sw_k k, tx_al x := by
  unfold sw_k
  split
  · exact sw_al11
  · split
    · exact sw_al12
    · exact sw_al13
theorem wm_sample (hS : ab_Sh sx_sk h) (hJ : lh_J T L xs h) (hT : T = T0 ∧ ¬ (0 ≤ p.toInt ∧ p.toInt ≤ 2) ∨ T = T3 p.toInt ∧ 0 ≤ p.toInt ∧ p.toInt ≤ 2) : ab_Ends sc_P 1 173 0 (sm_entry 2 [.ref 109, .int p]) [] h (wm_Q L xs h) := by
  have em : ([.inr (.inr 109), .inl p.toInt] : List mi_V).map mi_c = [.ref 109, .int p] := by
    simp only [List.map, mi_cT]
    rfl
  refine ab_Ends.imp (me_run (M := (2, 1, sb_173)) em (me_sampler (d := 0) hS (mi_inT p))) (fun v h' hw => ?_)
  obtain ⟨w, rfl, -, ⟨y, rfl, -⟩, q1, f, q3⟩ := hw
  rcases hT with ⟨rfl, ht⟩ | ⟨rfl, ht1, ht2⟩
  · rcases q3 with ⟨a, b, -⟩ | ⟨-, f2⟩
    · exact absurd ⟨a, b⟩ ht
    · exact ⟨⟨_, rfl⟩, q1, lh_0.mp (lh_fr hJ hS q1 f2 (by decide)), f.1, f.2.1⟩
  · rcases q3 with ⟨-, -, q4, q5⟩ | ⟨a, -⟩
    · have f1 := me_f (c := 6657) f hS rfl rfl
      have a1 : mi_a h' 53 = mi_a h 53 := funext fun i => me_a (k := 53) f hS rfl rfl
      obtain ⟨t1, t2⟩ := hJ.2.2.2.1
      refine ⟨⟨_, rfl⟩, q1, lh_0.mp (lh_new hJ hS q1 f (by decide) ?_), f.1, f.2.1⟩
      rw [f1, a1, q4, q5]
      refine ⟨t1, t2, fun i hi => ?_⟩
      exact apl_ok (sw_k p.toInt) 0 (mi_a h 110) (sw_kal _) (fun i hi => absurd hi (Nat.not_lt_zero i)) i (by omega)
    · exact absurd ⟨ht1, ht2⟩ a
end TT
