/-! again, unit -/
def wk_gk : List Nat := [114, 115, 119, 120, 122, 124, 125, 126, 128, 129, 130]
/-- the same description -/
def wk_gc (g g' : wk_g) : Prop := ∀ k, k ∈ wk_gk → ∀ i, g' k i = g k i
theorem wk_gc_fr {h h' : sm_H} {wr : List (Nat × Nat)} (hF : ab_Fr wr h h') (hS : ab_Sh sx_sk h) (hw : wk_gk.all (fun k => !ab_in wr (k * 128)) = true) : wk_gc (mi_a h) (mi_a h') := fun k hk i => by
  have h1 := List.all_eq_true.mp hw k hk
  refine me_a hF hS ?_ (by simpa using h1)
  have : wk_gk.all (fun k => (mx_isA sx_sk k || mx_isB sx_sk k)) = true := by decide
  exact List.all_eq_true.mp this k hk
section GC
variable {g g' : wk_g}
theorem wk_gc.sym (hg : wk_gc g g') : wk_gc g' g := fun k hk i => (hg k hk i).symm
theorem wk_gc.trans {g2 : wk_g} (a : wk_gc g g') (b : wk_gc g' g2) : wk_gc g g2 := fun k hk i => (b k hk i).trans (a k hk i)
theorem wk_rf_g (hg : wk_gc g g') (u : Int) : wk_rf g' u = wk_rf g u := by
  unfold wk_rf
  rw [hg 120 (by decide), hg 115 (by decide), hg 114 (by decide)]
theorem wk_sS_g (hg : wk_gc g g') (u : Int) (r : List wk_E) : wk_sS g' u r = wk_sS g u r := by
  unfold wk_sS
  rw [hg 119 (by decide), hg 120 (by decide), wk_rf_g hg]
theorem wk_sl_g (hg : wk_gc g g') (u l : Int) : wk_sl g' u l = wk_sl g u l := by
  unfold wk_sl
  rw [hg 119 (by decide)]
theorem wk_sg_g (hg : wk_gc g g') (K : Nat → Int) (u : Int) (r : List wk_E) (c : Nat) : wk_sg g' K u r c = wk_sg g K u r c := by
  unfold wk_sg
  rw [hg 119 (by decide), wk_sS_g hg]
theorem wk_it_g (hg : wk_gc g g') : ∀ (n : Nat) (u : Int), wk_it g' n u = wk_it g n u := by
  intro n
  induction n with
  | zero => intro u; rfl
  | succ n ih =>
    intro u
    unfold wk_it
    rw [hg 124 (by decide), hg 125 (by decide), ih]
theorem wk_alt_g (hg : wk_gc g g') : ∀ (n : Nat) (a : Int), wk_alt g' n a = wk_alt g n a := by
  intro n
  induction n with
  | zero => intro a; rfl
  | succ n ih =>
    intro a
    unfold wk_alt
    rw [hg 128 (by decide), ih]
theorem wk_pf_g (hg : wk_gc g g') (K V : Nat → Int) (s : List wk_E × Nat) : wk_pf g' K V s = wk_pf g K V s := by
  unfold wk_pf
  split
  · rfl
  · simp only [hg 122 (by decide), hg 130 (by decide), hg 129 (by decide), hg 126 (by decide), wk_sg_g hg, wk_it_g hg, wk_alt_g hg]
theorem wk_ul_c {d w a : Int} {r : List wk_E} (hd : ¬ d = 2) : wk_ul ((d, w, a) :: r) = wk_ul r := by
  show (if d = 2 then w else 0) + wk_ul r = wk_ul r
  rw [if_neg hd, Int.zero_add]
theorem wk_ul_o {w a : Int} {r : List wk_E} : wk_ul ((2, w, a) :: r) = w + wk_ul r := by
  show (if (2 : Int) = 2 then w else 0) + wk_ul r = _
  rw [if_pos rfl]
theorem wk_ul_sS (u : Int) (r : List wk_E) : wk_ul (wk_sS g u r) = wk_sl g u (wk_ul r) := by
  unfold wk_sS wk_sl
  by_cases h9 : g 119 u.toNat = 9
  · rw [if_pos h9, if_pos h9, wk_ul_c (by decide), wk_ul_o]
    omega
  · rw [if_neg h9, if_neg h9]
    split
    · rw [wk_ul_c (by decide)]
    · rfl
end GC
/-- what the steps ask for, kept -/
theorem wk_in_fr {μ : Int} {h h' : sm_H} {wr : List (Nat × Nat)} (hi : wk_in μ h) (hS' : ab_Sh sx_sk h') (hF : ab_Fr wr h h') (hw : (ab_in wr 14028 || ab_in wr 14044 || ab_in wr 14034 || ab_in wr 14033 || ab_in wr 14016 || ab_in wr 14032 || ab_in wr 14011 || ab_in wr 19456) = false) (ht : 0 ≤ mi_f h' 14029) (hu : wk_ul (wk_stk h') = mi_f h 14032) : wk_in μ h' := by
  obtain ⟨i1, i2, i3, i4, i5, i6, i7, i8, i9, i10, i11⟩ := hi
  simp only [Bool.or_eq_false_iff] at hw
  obtain ⟨⟨⟨⟨⟨⟨⟨w1, w2⟩, w3⟩, w4⟩, w5⟩, w6⟩, w7⟩, w8⟩ := hw
  have f33 : mi_f h' 14033 = mi_f h 14033 := me_f (c := 14033) hF i1 rfl w4
  have f16 : mi_f h' 14016 = mi_f h 14016 := me_f (c := 14016) hF i1 rfl w5
  have f32 : mi_f h' 14032 = mi_f h 14032 := me_f (c := 14032) hF i1 rfl w6
  refine ⟨hS', (me_f (c := 14028) hF i1 rfl w1).trans i2, i3, (me_f (c := 14044) hF i1 rfl w2).trans i4, by rw [me_f (c := 14034) hF i1 rfl w3]; exact i5, fun e => ?_, ht, by omega, by omega, by omega, ?_⟩
  · rw [f33, me_f (c := 14011) hF i1 rfl w7, me_a (k := 152) hF i1 rfl w8]
    exact i6 e
  · unfold wk_n at i11 ⊢
    rw [f33, f16]
    exact i11
theorem wk_us_g {h h' : sm_H} {zu : Int} (hg : wk_gc (mi_a h) (mi_a h')) (hu : wk_us h zu) : wk_us h' zu := by
  unfold wk_us at hu ⊢
  rw [hg 119 (by decide), hg 120 (by decide), hg 115 (by decide)]
  exact hu
theorem wk_KV2 {h h' : sm_H} {wr : List (Nat × Nat)} (hF : ab_Fr wr h h') (hS : ab_Sh sx_sk h) (hw : (ab_in wr 19840 || ab_in wr 20736) = false) : wk_K 2 h' = wk_K 2 h ∧ wk_V 2 h' = wk_V 2 h := by
  simp only [Bool.or_eq_false_iff] at hw
  refine ⟨funext fun k => ?_, funext fun k => ?_⟩
  · unfold wk_K
    rw [if_pos rfl, if_pos rfl]
    exact me_a (k := 155) hF hS rfl hw.1
  · unfold wk_V
    rw [if_pos rfl, if_pos rfl, me_b (k := 162) hF hS rfl hw.2]
theorem me_has {h : sm_H} {d : Nat} {zs : Int64} (hS : ab_Sh sx_sk h) (h0 : 0 ≤ mi_f h 14033) (h1 : mi_f h 14033 ≤ 160) : me_E d 212 0 [some (.inr (.inr 109)), some (.inr (.inl zs)), none] [] h (fun w h' => ab_Sh sx_sk h' ∧ h' = h ∧ ∃ z, w = some (.inl z) ∧ 0 ≤ z ∧ z ≤ 1) := by
  have b1 := zs.le_toInt
  have b2 := zs.toInt_lt
  have := me_abs (M := (3, 4, sb_212)) (as := [.inr (.inr 109), .inr (.inl zs)]) xo_v_has rfl hS ⟨rfl, ⟨zs, rfl, by show (-9223372036854775808 : Int) ≤ _; omega, by show _ ≤ (9223372036854775807 : Int); omega⟩, trivial⟩ (fun e he => by
    rw [List.mem_singleton.mp he]
    exact me_nvf (c := 14033) hS rfl h0 h1) (by decide)
  refine (me_E.deep (d' := d) this (Nat.zero_le _)).imp (fun w h' hq => ?_)
  obtain ⟨q1, q2, p, pm, pr, -⟩ := hq
  refine ⟨q1, me_nil q2, ?_⟩
  rw [List.mem_singleton.mp pm] at pr
  unfold mi_res at pr
  rw [if_neg (by decide)] at pr
  rcases pr with ⟨-, z, e, z1, z2⟩ | ⟨e, -⟩ | ⟨e, -⟩
  · exact ⟨z, e, z1, z2⟩
  · cases e
  · cases e
def ag_Q (μ zu za : Int) (h : sm_H) (w : Option mi_V) (h' : sm_H) : Prop := w = none ∧ ab_Sh sx_sk h' ∧ ab_Fr wr_W1 h h' ∧ ((mi_f h' 14044 = 1 ∨ (μ = 0 ∧ 0 ≤ mi_f h' 14034)) ∨ (h' = h ∧ (μ ≠ 0 → za ≤ 0)) ∨
  (mi_f h' 14028 = μ ∧ mi_f h' 14044 = 0 ∧ mi_f h' 14034 < 0 ∧ wk_tok μ h' ∧ (μ ≠ 0 → 0 < za) ∧ wk_n μ h ≤ wk_n μ h' ∧ (∀ i : Nat, (i : Int) < wk_n μ h → wk_K μ h' i = wk_K μ h i ∧ wk_V μ h' i = if μ = 0 ∧ i = za.toNat then wk_V μ h i + 1 else wk_V μ h i) ∧ (μ = 2 → mi_f h' 14016 = mi_f h 14016) ∧ mi_f h' 14032 = wk_ul (wk_stk h') ∧ mi_f h' 14032 ≤ 12 ∧ wk_stk h' = wk_sS (mi_a h) zu ((5, zu, if μ = 0 then za else za - 1) :: wk_stk h) ∧ mi_f h 14029 ≤ mi_f h' 14029 ∧ mi_f h' 14029 ≤ mi_f h 14029 + 3 ∧ wk_sg (mi_a h) (wk_K μ h') zu ((5, zu, if μ = 0 then za else za - 1) :: wk_stk h) (wk_n μ h).toNat = some (wk_stk h', (wk_n μ h').toNat)))
section AGA
variable {h : sm_H} {d : Nat} {zu za μ : Int}
/-- .. behind the push -/
theorem ag_go {h1 : sm_H} {zb zm : Int} (hi : wk_in μ h) (hu : wk_us h zu) (ht : mi_f h 14029 ≤ 2985) (ez : zb = if μ = 0 then za else za - 1) (h2 : μ = 2 → ∃ s', wk_sg (mi_a h) (wk_K 2 h) zu ((5, zu, za - 1) :: wk_stk h) (wk_n 2 h).toNat = some s' ∧ s'.2 ≤ 100) (hz : μ ≠ 0 → 0 < za) (g1 : ab_Sh sx_sk h1) (g2 : mi_f h1 14029 = mi_f h 14029 + 1) (est : wk_stk h1 = (5, zu, zb) :: wk_stk h) (g3 : ab_Fr [(14029, 14030), (20864, 20865), (21120, 21121), (21248, 21249), (21376, 21377)] h h1) (hv : ∀ i : Nat, (i : Int) < wk_n μ h → wk_V μ h1 i = if μ = 0 ∧ i = za.toNat then wk_V μ h i + 1 else wk_V μ h i) (ok_zu : mi_in zu) (ok_za : mi_in za) (ok_zm : mi_in zm) : ∃ Q1, me_E (d + 5) 213 0 [some (.inr (.inr 109)), some (.inl zu)] [] h1 Q1 ∧ ∀ w h', (∀ x, w = some x → mi_ok x) → Q1 w h' → me_E (d + 6) 227 77 [some (.inr (.inr 109)), some (.inl zu), some (.inl za), some (.inl zm)] (mi_back w []) h' (ag_Q μ zu za h) := by
  have i1 := hi.1
  have hg : wk_gc (mi_a h) (mi_a h1) := wk_gc_fr g3 i1 rfl
  have hi1 : wk_in μ h1 := wk_in_fr hi g1 g3 rfl (by have := hi.2.2.2.2.2.2.1; omega) (by
    rw [est, wk_ul_c (by decide)]
    exact hi.2.2.2.2.2.2.2.2.2.1)
  have en : wk_n μ h1 = wk_n μ h := by
    unfold wk_n
    rw [me_f (c := 14033) g3 i1 rfl rfl, me_f (c := 14016) g3 i1 rfl rfl]
  refine ⟨_, me_single hi1 (wk_us_g hg hu) (by omega) (fun e => ?_), ?_⟩
  · obtain ⟨s', a1, a2⟩ := h2 e
    refine ⟨s', ?_, a2⟩
    subst e
    rw [wk_sg_g hg, (wk_KV2 g3 i1 rfl).1, est, ez, en, if_neg (by decide)]
    exact a1
  · intro w h' hw hq
    obtain ⟨rfl, q1, q2, q3⟩ := hq
    refine mt_agC q1 ok_zu ok_za ok_zm ?_
    intro h3 r1 r2
    have e3 := me_nil r2
    subst e3
    have hF : ab_Fr wr_W1 h h3 := (g3.wide (fun c hc => ab_swr_ok (by decide) hc)).trans q2
    refine ⟨rfl, q1, hF, ?_⟩
    rcases q3 with q3 | ⟨⟨o1, o2, o3, o4, o5, o6, o7⟩, q4, q5, q6, q7, q8, q9⟩
    · exact Or.inl q3
    · rw [wk_sS_g hg, est, ez] at q6
      rw [wk_sg_g hg, est, ez, en] at q9
      rw [en] at o5 o6
      refine Or.inr (Or.inr ⟨o1, o2, o3, o4, hz, o5, fun i hi' => ?_, fun e => (o7 e).trans (me_f (c := 14016) g3 i1 rfl rfl), ?_, q5, q6, by omega, by omega, q9⟩)
      · obtain ⟨x1, x2⟩ := o6 i hi'
        refine ⟨x1.trans ?_, x2.trans (hv i hi')⟩
        unfold wk_K
        rw [me_a (k := 155) g3 i1 rfl rfl, me_a (k := 158) g3 i1 rfl rfl]
      · rw [q6, wk_ul_sS, q4, wk_sl_g hg, me_f (c := 14032) g3 i1 rfl rfl, wk_ul_c (by decide), hi.2.2.2.2.2.2.2.2.2.1]
theorem me_again (hi : wk_in μ h) (hu : wk_us h zu) (ht : mi_f h 14029 ≤ 2985) (hza : mi_in za) (h0 : μ = 0 → 0 ≤ za ∧ za < 100) (hv2 : μ = 0 → wk_V 0 h za.toNat ≤ 1000000 ∧ 0 ≤ wk_V 0 h za.toNat) (h2 : μ = 2 → 0 < za → ∃ s', wk_sg (mi_a h) (wk_K 2 h) zu ((5, zu, za - 1) :: wk_stk h) (wk_n 2 h).toNat = some s' ∧ s'.2 ≤ 100) : me_E (d + 6) 227 0 [some (.inr (.inr 109)), some (.inl zu), some (.inl za), none] [] h (ag_Q μ zu za h) := by
  obtain ⟨i1, i2, i3, i4, i5, i6, i7, i8, i9, i10, i11⟩ := id hi
  have hu0 := hu.1
  have hu1 := hu.2.1
  have ok : mi_in zu := ⟨by omega, by omega⟩
  have hzb := hza.1
  have hzc := hza.2
  refine mt_agA i1 ok hza ?_ ?_ ?_
  · intro b c1 c2 h1 g1 g2
    have e3 := me_nil g2
    subst e3
    exact ⟨rfl, g1, ab_Fr.refl, Or.inr (Or.inl ⟨rfl, fun _ => c2⟩)⟩
  · intro b1 b2 c1 c2
    have nμ : ¬ μ = 0 := by clear h2 hv2 h0; omega
    refine ⟨by clear h2 hv2 h0; omega, fun h1 g1 g2 a5 a6 a7 g3 => ?_⟩
    refine ag_go hi hu ht (if_neg nμ).symm (fun e => h2 e c2) (fun _ => c2) g1 g2 (wk_push1 i7 g2 a5 a6 a7) (g3.wide (fun c hc => ab_swr_ok (by decide) hc)) (fun i _ => ?_) ok hza ⟨by decide, by decide⟩
    rw [if_neg (fun z => nμ z.1)]
    unfold wk_V
    rw [me_b (k := 162) g3 i1 rfl rfl, me_b (k := 163) g3 i1 rfl rfl]
  · intro b c1
    have eμ : μ = 0 := by clear h2 hv2 h0; omega
    have hh := i6 eμ
    have bt := me_fb (c := 14011) i1 rfl
    have hz0 := h0 eμ
    have hvv := hv2 eμ
    refine ⟨by clear h2 hv2 h0; omega, fun h1 g1 g2 => ?_⟩
    have e3 := me_nil g2
    subst e3
    refine ⟨_, me_has i1 (by clear h2 hv2 h0; omega) (by clear h2 hv2 h0; omega), ?_⟩
    intro w h3 hw hq
    obtain ⟨q1, rfl, z, rfl, z1, z2⟩ := hq
    refine mt_agB q1 ok hza (hw _ rfl) ?_ ?_ ?_
    · intro b1 b2 c2 c3
      exfalso
      clear h2 hv2 h0
      omega
    · intro b1 b2 c2 c3
      refine ⟨by clear h2 hv2 h0; omega, fun h4 g4 g5 a5 a6 a7 a8 g6 => ?_⟩
      refine ag_go hi hu ht (if_pos eμ).symm (fun e => by clear h2 hv2 h0; omega) (fun e => absurd eμ e) g4 g5 (wk_push1 i7 g5 a5 a6 a7) (g6.wide (fun c hc => ab_swr_ok (by decide) hc)) (fun i _ => ?_) ok hza (hw _ rfl)
      subst eμ
      have eV : ∀ (h : sm_H) (i : Nat), wk_V 0 h i = (mx_b h 163 i).toInt := fun h i => by unfold wk_V; rw [if_neg (by decide)]
      rw [eV] at hvv
      rw [eV, eV, a8]
      clear h2 hv2 h0
      by_cases hz : i = za.toNat
      · have e1 : (Int64.ofNat 1).toInt = 1 := rfl
        have e2 : (mx_b h3 163 za.toNat + Int64.ofNat 1).toInt = (mx_b h3 163 za.toNat).toInt + 1 := by
          rw [Int64.toInt_add, e1]
          exact Int.bmod_eq_of_le (by omega) (by omega)
        rw [if_pos hz, if_pos (show (0 : Int) = 0 ∧ i = za.toNat from ⟨rfl, hz⟩), hz, e2]
      · rw [if_neg hz, if_neg (show ¬ ((0 : Int) = 0 ∧ i = za.toNat) from fun e => hz e.2)]
    · intro c2 h4 g4 g5
      have e5 := me_nil g5
      subst e5
      exact ⟨rfl, g4, ab_Fr.refl, Or.inr (Or.inl ⟨rfl, fun e => absurd eμ e⟩)⟩
end AGA
