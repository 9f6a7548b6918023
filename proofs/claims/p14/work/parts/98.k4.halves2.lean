/-! the law's calls: type, clear, sample; carry, keep, compile -/
def xc9_yn : ab_C := (95, [(3, 51, 0, []), (1, (-2147483648), (-1), []), (1, 0, 65535, [])], [], [], [], 0)
theorem xo9_yn : ab_OkX sc_P sx_sk [12] xc9_yn := ab_goodX_ok (env := []) (heads := []) (fuel := 30) (by decide +kernel) (fun _ h => absurd h List.not_mem_nil)
def xc9_yb : ab_C := (95, [(3, 51, 0, []), (1, 2, 2147483647, []), (1, 0, 65535, [])], [], [], [], 0)
theorem xo9_yb : ab_OkX sc_P sx_sk [12] xc9_yb := ab_goodX_ok (env := []) (heads := []) (fuel := 30) (by decide +kernel) (fun _ h => absurd h List.not_mem_nil)
def xc9_kn : ab_C := (97, [(3, 51, 0, []), (1, (-2147483648), (-1), [])], [], [], [], 0)
theorem xo9_kn : ab_OkX sc_P sx_sk [12] xc9_kn := ab_goodX_ok (env := []) (heads := []) (fuel := 30) (by decide +kernel) (fun _ h => absurd h List.not_mem_nil)
def xc9_kb : ab_C := (97, [(3, 51, 0, []), (1, 2, 2147483647, [])], [], [], [], 0)
theorem xo9_kb : ab_OkX sc_P sx_sk [12] xc9_kb := ab_goodX_ok (env := []) (heads := []) (fuel := 30) (by decide +kernel) (fun _ h => absurd h List.not_mem_nil)
theorem chr9_bd (x : Int32) : 0 ≤ (sm_chr x).toInt ∧ (sm_chr x).toInt ≤ 65535 := by
  rw [ab_chr_eq]
  exact ⟨Int.emod_nonneg _ (by decide), by have := Int.emod_lt_of_pos x.toInt (show (0 : Int) < 65536 by decide); omega⟩
theorem c9_in {p : Int32} {lo hi : Int} (h1 : lo ≤ p.toInt) (h2 : p.toInt ≤ hi) : ab_nv (1, lo, hi, []) (some (.int p)) := ⟨p, rfl, h1, h2, fun _ ht => absurd ht List.not_mem_nil⟩
def th9_T (e : Nat) (h : sm_H) (x : Nat) (h' : sm_H) : Prop := x = e ∧ ∃ g, h' = g ++ [sm_exc x] ∧ ab_Sh sx_sk g ∧ ab_Fr [] h g
theorem th9 {h : sm_H} {e : Nat} {c : ab_C} {as : List Value} {M : sm_M} {d : Nat} {Q : Option Value → sm_H → Prop} (hc : ab_OkX sc_P sx_sk [e] c) (hM : sc_P c.1 = some M) (hS : ab_Sh sx_sk h) (ha : ab_nvs c.2.1 as) (hp : ab_nvH c.2.2.1 h) (hq : c.2.2.2.1 = []) (hw : c.2.2.2.2.1 = []) (hd : c.2.2.2.2.2 ≤ d) : ab_EndsX sc_P (th9_T e h) d c.1 0 (sm_entry M.1 as) [] h Q := by
  rcases hc h as M hM hS ha hp with k | ⟨n1, x, h1, hr1, hq1⟩
  · obtain ⟨n, v, h', -, -, -, p, pm, -⟩ := k
    rw [hq] at pm
    exact absurd pm List.not_mem_nil
  · refine Or.inr ⟨n1, x, h1, sm_runT_more _ _ _ _ _ _ _ _ hr1 n1 d (Nat.le_refl _) hd, ?_⟩
    obtain ⟨q1, g, q2, q3, q4⟩ := hq1
    rw [hw] at q4
    exact ⟨List.mem_singleton.mp q1, g, q2, q3, q4⟩
theorem b2l_v {y : Int} (hy : y = 0 ∨ y = 1) : (if Int32.ofInt y = Int32.ofInt 0 then Int64.ofNat 0 else Int64.ofNat 1).toInt = y := by
  rcases hy with rfl | rfl
  · rw [if_pos rfl]
    decide
  · rw [if_neg (by decide)]
    decide
section K9
variable {L : Nat} {xs : Nat → Int32} {h h1 h2 : sm_H} {p z : Int32}
theorem we9_type (z0 : 0 ≤ z.toInt) (z1 : z.toInt ≤ 65535) (hSh : ab_Sh sx_sk h) (hJ : lj_J M9 L xs h) : wb_Ends sc_P sc_PW 2 2000 0 (sm_entry 5 [.ref 51, .int p, .int z, .ref 171]) [] h (WO9 (XTy h p.toInt z.toInt) L xs h) := by
  have b1 := p.le_toInt
  have b2 := p.toInt_lt
  have hl := hJ.2.1
  have em : ([.inr (.inr 51), .inl p.toInt, .inl z.toInt] : List mi_V).map mi_c = [.ref 51, .int p, .int z] := by
    simp only [List.map, mi_cT]
    rfl
  have hT : (p.toInt < 0 ∨ 1 < p.toInt) → ∀ x h1, th9_T 12 h x h1 → ∃ g, h1 = g ++ [sm_exc x] ∧ ab_Sh sx_sk g ∧ ab_Fr [(6657, 6658), (6784, 6785), (6913, 6914), (7040, 7041)] h g ∧ (x = 12 ∧ XTy h p.toInt z.toInt 1 0 h1) := fun c x h1 ht => by
    obtain ⟨rfl, g, rfl, s, F⟩ := ht
    exact ⟨g, rfl, s, F.wide (fun c hc => ab_swr_ok (by decide) hc), rfl, Or.inl ⟨rfl, c, rq_thr hl hSh F (by decide)⟩⟩
  have hJ0 : lj_J MJ L xs h := ⟨hJ.1.1, hJ.2⟩
  by_cases hn : p.toInt < 0
  · exact w9_type (wr := [(6657, 6658), (6784, 6785), (6913, 6914), (7040, 7041)]) (d := 1) (Q := fun _ _ => False) hSh hJ0 (by decide) (th9 (M := (3, 4, sb_95)) xo9_yn rfl hSh ⟨rfl, c9_in (by omega) (by omega), c9_in z0 z1, trivial⟩ (fun e he => absurd he List.not_mem_nil) rfl rfl (Nat.zero_le _)) (fun v h1 q => q.elim) (hT (Or.inl hn))
  by_cases hb : 1 < p.toInt
  · exact w9_type (wr := [(6657, 6658), (6784, 6785), (6913, 6914), (7040, 7041)]) (d := 1) (Q := fun _ _ => False) hSh hJ0 (by decide) (th9 (M := (3, 4, sb_95)) xo9_yb rfl hSh ⟨rfl, c9_in (by omega) (by omega), c9_in z0 z1, trivial⟩ (fun e he => absurd he List.not_mem_nil) rfl rfl (Nat.zero_le _)) (fun v h1 q => q.elim) (hT (Or.inr hb))
  have yb : ∀ {m zc y n n' : Int} {c c' : Nat → Int}, ef9 m zc y n n' c c' → y = 0 ∨ y = 1 := fun {m zc y n n' c c'} e => by
    rcases e with ⟨-, -, e, -⟩ | ⟨-, e, -⟩
    · exact Or.inr e
    · exact Or.inl e
  by_cases h0 : p.toInt = 0
  · have kk : me_E 1 95 0 [some (.inr (.inr 51)), some (.inl p.toInt), some (.inl z.toInt)] [] h (fun w h' => ab_Sh sx_sk h' ∧ ab_Fr [(6657, 6658), (6784, 6785)] h h' ∧ ∃ y, w = some (.inl y) ∧ ef9 240 z.toInt y (mi_f h 6657) (mi_f h' 6657) (mi_a h 53) (mi_a h' 53)) := by rw [h0]; exact me_typeg0 (d := 0) hSh z0 z1
    refine w9_type (wr := [(6657, 6658), (6784, 6785)]) (QT := fun _ _ => False) (d := 1) hSh hJ0 (by decide) (Or.inl (me_run9 (nl := 3) em kk)) ?_ (fun x h1 q => q.elim)
    intro v h1 hq
    obtain ⟨w, rfl, -, s1, F, y, rfl, he⟩ := hq
    refine ⟨Int32.ofInt y, rfl, s1, F, fun h2 r => Or.inr (Or.inl ⟨rfl, h0, ((rq_fr hSh F).wide (by decide)).trans (r.wide (by decide)), ?_⟩)⟩
    rw [b2l_v (yb he), r.f (c := 6657) rfl (by decide), show mi_a h2 53 = mi_a h1 53 from funext fun i => r.a rfl (by decide) i]
    exact he
  · have h1 : p.toInt = 1 := by omega
    have kk : me_E 1 95 0 [some (.inr (.inr 51)), some (.inl p.toInt), some (.inl z.toInt)] [] h (fun w h' => ab_Sh sx_sk h' ∧ ab_Fr [(6913, 6914), (7040, 7041)] h h' ∧ ∃ y, w = some (.inl y) ∧ ef9 160 z.toInt y (mi_f h 6913) (mi_f h' 6913) (mi_a h 55) (mi_a h' 55)) := by rw [h1]; exact me_typeg1 (d := 0) hSh z0 z1
    refine w9_type (wr := [(6913, 6914), (7040, 7041)]) (QT := fun _ _ => False) (d := 1) hSh hJ0 (by decide) (Or.inl (me_run9 (nl := 3) em kk)) ?_ (fun x h1 q => q.elim)
    intro v h2 hq
    obtain ⟨w, rfl, -, s1, F, y, rfl, he⟩ := hq
    refine ⟨Int32.ofInt y, rfl, s1, F, fun h3 r => Or.inr (Or.inr ⟨rfl, h1, ((rq_fr hSh F).wide (by decide)).trans (r.wide (by decide)), ?_⟩)⟩
    rw [b2l_v (yb he), r.f (c := 6913) rfl (by decide), show mi_a h3 55 = mi_a h2 55 from funext fun i => r.a rfl (by decide) i]
    exact he
theorem wr9_type {k : Int} {y : Int64} (z0 : 0 ≤ z.toInt) (z1 : z.toInt ≤ 65535) (hSh : ab_Sh sx_sk h) (hR : R9 h) (S1 : ab_Sh sx_sk h1) (J1 : lj_J MJ L xs h1) (hX : XTy h p.toInt z.toInt k y h1) : ab_Ends sc_P 20 171 0 (sm_entry 3 [.ref 109, .int p, .int z]) [] h1 (RO9 L xs h1 (fun w h2 => mi_f h2 13952 = k ∧ ∃ z, w = some (.inl z) ∧ (0 ≤ z ∧ z ≤ 1) ∧ (k = 0 → z = y.toInt))) := by
  have em : ([.inr (.inr 109), .inl p.toInt, .inl z.toInt] : List mi_V).map mi_c = [.ref 109, .int p, .int z] := by
    simp only [List.map, mi_cT]
    rfl
  refine ab_Ends.imp (me_run9 (nl := 3) em (me_typex (d := 20) S1 (mi_inT p) z0 z1)) (fun v h2 hq => ?_)
  obtain ⟨w, rfl, -, hX2⟩ := hq
  obtain ⟨p1, p2, p3⟩ := P9_type hR hSh S1 hX hX2
  obtain ⟨m1, yr, rfl, hc⟩ := hX2
  have F : ab_Fr [(13952, 13955), (14080, 14081), (14208, 14209)] h1 h2 := by
    rcases hc with ⟨-, -, -, F⟩ | ⟨-, -, F, -⟩ | ⟨-, -, F, -⟩
    · exact F.wide (fun c hc => ab_swr_ok (by decide) hc)
    · exact F.wide (fun c hc => ab_swr_ok (by decide) hc)
    · exact F.wide (fun c hc => ab_swr_ok (by decide) hc)
  have yb : 0 ≤ yr ∧ yr ≤ 1 := by
    rcases hc with ⟨-, -, e, -⟩ | ⟨-, -, -, e⟩ | ⟨-, -, -, e⟩
    · omega
    · rcases e with ⟨-, -, e, -⟩ | ⟨-, e, -⟩ <;> omega
    · rcases e with ⟨-, -, e, -⟩ | ⟨-, e, -⟩ <;> omega
  refine ro9 J1 S1 F (by decide) m1 (mj_fr9 J1 (by decide) F) p1 ⟨p2, yr, rfl, yb, fun q => ?_⟩
  have := p3 q
  injection this with this
  injection this
theorem we9_clear (hSh : ab_Sh sx_sk h) (hJ : lj_J M9 L xs h) : wb_Ends sc_P sc_PW 2 2001 0 (sm_entry 4 [.ref 51, .int p, .ref 171]) [] h (WO9 (XCl h p.toInt) L xs h) := by
  have b1 := p.le_toInt
  have b2 := p.toInt_lt
  have hl := hJ.2.1
  have em : ([.inr (.inr 51), .inl p.toInt] : List mi_V).map mi_c = [.ref 51, .int p] := by
    simp only [List.map, mi_cT]
    rfl
  have hT : (p.toInt < 0 ∨ 1 < p.toInt) → ∀ x h1, th9_T 12 h x h1 → ∃ g, h1 = g ++ [sm_exc x] ∧ ab_Sh sx_sk g ∧ ab_Fr [(6657, 6658), (6913, 6914)] h g ∧ (x = 12 ∧ XCl h p.toInt 1 0 h1) := fun c x h1 ht => by
    obtain ⟨rfl, g, rfl, s, F⟩ := ht
    exact ⟨g, rfl, s, F.wide (fun c hc => ab_swr_ok (by decide) hc), rfl, Or.inl ⟨rfl, c, rq_thr hl hSh F (by decide)⟩⟩
  have hJ0 : lj_J MJ L xs h := ⟨hJ.1.1, hJ.2⟩
  by_cases hn : p.toInt < 0
  · exact w9_clear (wr := [(6657, 6658), (6913, 6914)]) (d := 1) (Q := fun _ _ => False) hSh hJ0 (by decide) (th9 (M := (3, 1, sb_97)) xo9_kn rfl hSh ⟨rfl, c9_in (by omega) (by omega), trivial⟩ (fun e he => absurd he List.not_mem_nil) rfl rfl (Nat.zero_le _)) (fun v h1 q => q.elim) (hT (Or.inl hn))
  by_cases hb : 1 < p.toInt
  · exact w9_clear (wr := [(6657, 6658), (6913, 6914)]) (d := 1) (Q := fun _ _ => False) hSh hJ0 (by decide) (th9 (M := (3, 1, sb_97)) xo9_kb rfl hSh ⟨rfl, c9_in (by omega) (by omega), trivial⟩ (fun e he => absurd he List.not_mem_nil) rfl rfl (Nat.zero_le _)) (fun v h1 q => q.elim) (hT (Or.inr hb))
  by_cases h0 : p.toInt = 0
  · have kk : me_E 1 97 0 [some (.inr (.inr 51)), some (.inl p.toInt), none] [] h (fun w h' => ab_Sh sx_sk h' ∧ ab_Fr [(6657, 6658)] h h' ∧ w = some (.inl (mi_f h 6657)) ∧ mi_f h' 6657 = 0) := by rw [h0]; exact me_clearg0 (d := 0) hSh
    refine w9_clear (wr := [(6657, 6658)]) (QT := fun _ _ => False) (d := 1) hSh hJ0 (by decide) (Or.inl (me_run9 (nl := 3) em kk)) ?_ (fun x h1 q => q.elim)
    intro v h1 hq
    obtain ⟨w, rfl, ow, s1, F, rfl, he⟩ := hq
    refine ⟨Int32.ofInt (mi_f h 6657), rfl, s1, F, fun h2 r => Or.inr (Or.inl ⟨rfl, h0, ((rq_fr hSh F).wide (by decide)).trans (r.wide (by decide)), ?_, i2l_v (ow _ rfl)⟩)⟩
    rw [r.f (c := 6657) rfl (by decide)]
    exact he
  · have h1 : p.toInt = 1 := by omega
    have kk : me_E 1 97 0 [some (.inr (.inr 51)), some (.inl p.toInt), none] [] h (fun w h' => ab_Sh sx_sk h' ∧ ab_Fr [(6913, 6914)] h h' ∧ w = some (.inl (mi_f h 6913)) ∧ mi_f h' 6913 = 0) := by rw [h1]; exact me_clearg1 (d := 0) hSh
    refine w9_clear (wr := [(6913, 6914)]) (QT := fun _ _ => False) (d := 1) hSh hJ0 (by decide) (Or.inl (me_run9 (nl := 3) em kk)) ?_ (fun x h1 q => q.elim)
    intro v h2 hq
    obtain ⟨w, rfl, ow, s1, F, rfl, he⟩ := hq
    refine ⟨Int32.ofInt (mi_f h 6913), rfl, s1, F, fun h3 r => Or.inr (Or.inr ⟨rfl, h1, ((rq_fr hSh F).wide (by decide)).trans (r.wide (by decide)), ?_, i2l_v (ow _ rfl)⟩)⟩
    rw [r.f (c := 6913) rfl (by decide)]
    exact he
theorem wr9_clear {k : Int} {y : Int64} (hR : R9 h) (S1 : ab_Sh sx_sk h1) (J1 : lj_J MJ L xs h1) (hX : XCl h p.toInt k y h1) : ab_Ends sc_P 20 172 0 (sm_entry 3 [.ref 109, .int p]) [] h1 (RO9 L xs h1 (fun w h2 => mi_f h2 13952 = k ∧ ∃ z, w = some (.inl z) ∧ mi_in z ∧ (k = 0 → z = y.toInt))) := by
  have em : ([.inr (.inr 109), .inl p.toInt] : List mi_V).map mi_c = [.ref 109, .int p] := by
    simp only [List.map, mi_cT]
    rfl
  refine ab_Ends.imp (me_run9 (nl := 3) em (me_clearx (d := 20) S1 (mi_inT p))) (fun v h2 hq => ?_)
  obtain ⟨w, rfl, ow, hX2⟩ := hq
  obtain ⟨p1, p2, p3⟩ := P9_clear hR S1 hX hX2
  obtain ⟨m1, yr, rfl, hc⟩ := hX2
  have F : ab_Fr [(13952, 13955)] h1 h2 := by
    rcases hc with ⟨-, -, -, F⟩ | ⟨-, -, F, -⟩ | ⟨-, -, F, -⟩
    · exact F.wide (fun c hc => ab_swr_ok (by decide) hc)
    · exact F
    · exact F
  refine ro9 J1 S1 F (by decide) m1 (mj_fr9 J1 (by decide) F) p1 ⟨p2, yr, rfl, ow _ rfl, fun q => ?_⟩
  have := p3 q
  injection this with this
  injection this
theorem we9_sample (hSh : ab_Sh sx_sk h) (hJ : lj_J M9 L xs h) : wb_Ends sc_P sc_PW 8 2002 0 (sm_entry 4 [.ref 51, .int p, .ref 171]) [] h (WO9 (fun k _ h1 => XSa h p.toInt k h1) L xs h) := by
  have b1 := p.le_toInt
  have b2 := p.toInt_lt
  have hl := hJ.2.1
  have em : ([.inr (.inr 51), .inl p.toInt] : List mi_V).map mi_c = [.ref 51, .int p] := by
    simp only [List.map, mi_cT]
    rfl
  have hT : ¬ (0 ≤ p.toInt ∧ p.toInt ≤ 2) → ∀ x h1, th9_T 13 h x h1 → ∃ g, h1 = g ++ [sm_exc x] ∧ ab_Sh sx_sk g ∧ ab_Fr tx_W h g ∧ (x = 13 ∧ XSa h p.toInt 1 h1) := fun c x h1 ht => by
    obtain ⟨rfl, g, rfl, s, F⟩ := ht
    exact ⟨g, rfl, s, F.wide (fun c hc => ab_swr_ok (by decide) hc), rfl, Or.inl ⟨rfl, c, rq_thr hl hSh F (by decide)⟩⟩
  have hJ0 : lj_J MJ L xs h := ⟨hJ.1.1, hJ.2⟩
  by_cases hn : p.toInt < 0
  · exact w9_sample (X := fun k _ h1 => XSa h p.toInt k h1) (wr := tx_W) (d := 7) (Q := fun _ _ => False) hSh hJ0 (by decide) (th9 (M := (2, 1, sb_98)) xo_sn rfl hSh ⟨rfl, c9_in (by omega) (by omega), trivial⟩ (fun e he => absurd he List.not_mem_nil) rfl rfl (Nat.zero_le _)) (fun v h1 q => q.elim) (hT (by omega))
  by_cases hb : 3 ≤ p.toInt
  · exact w9_sample (X := fun k _ h1 => XSa h p.toInt k h1) (wr := tx_W) (d := 7) (Q := fun _ _ => False) hSh hJ0 (by decide) (th9 (M := (2, 1, sb_98)) xo_sb rfl hSh ⟨rfl, c9_in (by omega) (by omega), trivial⟩ (fun e he => absurd he List.not_mem_nil) rfl rfl (Nat.zero_le _)) (fun v h1 q => q.elim) (hT (by omega))
  refine w9_sample (X := fun k _ h1 => XSa h p.toInt k h1) (wr := tx_W) (QT := fun _ _ => False) (d := 7) hSh hJ0 (by decide) (Or.inl (me_run9 (nl := 2) em (me_samplec (d := 0) hSh (by omega) (by omega)))) ?_ (fun x h1 q => q.elim)
  intro v h1 hq
  obtain ⟨w, rfl, -, ⟨y, rfl, -⟩, s1, F, q3, q4⟩ := hq
  refine ⟨Int32.ofInt y, rfl, s1, F, fun h2 r => Or.inr ⟨rfl, ⟨by omega, by omega⟩, ((rq_fr hSh F).wide (by decide)).trans (r.wide (by decide)), ?_, ?_⟩⟩
  · rw [r.f (c := 6657) rfl (by decide)]
    exact q3
  · rw [show mi_a h2 53 = mi_a h1 53 from funext fun i => r.a rfl (by decide) i]
    exact q4
theorem wr9_sample {k : Int} (hR : R9 h) (S1 : ab_Sh sx_sk h1) (J1 : lj_J MJ L xs h1) (hX : XSa h p.toInt k h1) : ab_Ends sc_P 20 173 0 (sm_entry 2 [.ref 109, .int p]) [] h1 (RO9 L xs h1 (fun w _ => ∃ z, w = some (.inl z))) := by
  have em : ([.inr (.inr 109), .inl p.toInt] : List mi_V).map mi_c = [.ref 109, .int p] := by
    simp only [List.map, mi_cT]
    rfl
  refine ab_Ends.imp (me_run9 (nl := 2) em (me_sampler (d := 19) S1 (mi_inT p))) (fun v h2 hq => ?_)
  obtain ⟨w, rfl, -, ⟨y, rfl, -⟩, m1, F, q3⟩ := hq
  exact ro9 J1 S1 F (by decide) m1 (mj_fr9 J1 (by decide) F) (P9_sample hR S1 hX F q3) ⟨y, rfl⟩
/-! calls without a wrapper -/
theorem we9_carry (hSh : ab_Sh sx_sk h) (hJ : lj_J M9 L xs h) : ab_Ends sc_P 20 88 0 (sm_entry 1 [.ref 51]) [] h (fun v h1 => v = some (.int (Int32.ofInt (mi_f h 7169))) ∧ ab_Sh sx_sk h1 ∧ ab_Fr [(6913, 6914), (7040, 7041)] h h1 ∧ mi_f h1 6913 = mi_f h 7169 ∧ ∀ i : Nat, (i : Int) < mi_f h 7169 → mi_a h1 55 i = mi_a h 57 i) := by
  have k3 := hJ.1.2.2.2.2.1
  refine ab_Ends.imp ((me_run9 (nl := 1) (as := [.inr (.inr 51)]) rfl (me_carryc (d := 0) hSh (fun k hk => by
    obtain ⟨a, b⟩ := k3.2 k (by rw [← k3.1]; exact hk)
    rw [a]
    exact b))).deep (by decide)) (fun v h1 hq => ?_)
  obtain ⟨w, rfl, -, rfl, q1, q2, q3, q4⟩ := hq
  exact ⟨rfl, q1, q2.wide (fun c hc => ab_swr_ok (by decide) hc), q3, q4⟩
theorem wr9_carry (hSh : ab_Sh sx_sk h) (hR : R9 h) (S1 : ab_Sh sx_sk h1) (J1 : lj_J MJ L xs h1) (F : ab_Fr [(6913, 6914), (7040, 7041)] h h1) (x1 : mi_f h1 6913 = mi_f h 7169) (x2 : ∀ i : Nat, (i : Int) < mi_f h 7169 → mi_a h1 55 i = mi_a h 57 i) : ab_Ends sc_P 20 238 0 (sm_entry 2 [.ref 109]) [] h1 (RO9 L xs h1 (fun w h2 => mi_f h2 13952 = 0 ∧ w = some (.inl (mi_f h 7169)))) := by
  refine ab_Ends.imp (me_run9 (as := [.inr (.inr 109)]) (nl := 2) rfl (me_carryr (d := 20) S1)) (fun v h2 hq => ?_)
  obtain ⟨w, rfl, -, hX2⟩ := hq
  obtain ⟨p1, p2, p3⟩ := P9_carry (wr := []) hR S1 (rq_fr hSh F) x1 x2 hX2
  exact ro9 J1 S1 hX2.2.1 (by decide) hX2.1 (mj_fr9 J1 (by decide) hX2.2.1) p1 ⟨p2, p3⟩
theorem we9_keep (hSh : ab_Sh sx_sk h) (hJ : lj_J M9 L xs h) : ab_Ends sc_P 20 92 0 (sm_entry 1 [.ref 51]) [] h (fun v h1 => ∃ w, v = w.map mi_c ∧ ck_Qk h w h1) := by
  obtain ⟨T, hT⟩ := hJ.1.2.2.2.2.2.2.1
  have e := hT.2.1.1.1
  have l := hT.2.2.1
  refine ab_Ends.imp ((me_run9 (nl := 1) (as := [.inr (.inr 51)]) rfl (me_keepc (d := 0) hSh (by omega) (by omega))).deep (by decide)) (fun v h1 hq => ?_)
  obtain ⟨w, rfl, -, q⟩ := hq
  exact ⟨w, rfl, q⟩
theorem wr9_keep {w1 : Option mi_V} (hSh : ab_Sh sx_sk h) (hR : R9 h) (J1 : lj_J MJ L xs h1) (hX : ck_Qk h w1 h1) : ab_Ends sc_P 20 239 0 (sm_entry 2 [.ref 109]) [] h1 (RO9 L xs h1 (fun w h2 => mi_f h2 13952 = 0 ∧ w = w1)) := by
  have S1 := hX.1
  refine ab_Ends.imp (me_run9 (as := [.inr (.inr 109)]) (nl := 2) rfl (me_keepr (d := 20) S1)) (fun v h2 hq => ?_)
  obtain ⟨w, rfl, -, hX2⟩ := hq
  obtain ⟨p1, p2, p3⟩ := P9_keep hR hSh hX hX2
  have F : ab_Fr xk_W h1 h2 := by
    rcases hX2.2.2 with ⟨-, -, F⟩ | ⟨-, -, F, -⟩
    · exact F.wide (fun c hc => ab_swr_ok (by decide) hc)
    · exact F
  exact ro9 J1 S1 F (by decide) hX2.1 (mj_fr9 J1 (by decide) F) p1 ⟨p2, p3⟩
end K9
