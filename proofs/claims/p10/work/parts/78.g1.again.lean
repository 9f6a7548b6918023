/-! again, unit -/
def wk_gk : List Nat := [114, 115, 119, 120, 122, 124, 125, 126, 128, 129, 130]
/-- the same description -/
def wk_gc (g g' : wk_g) : Prop := ∀ k, k ∈ wk_gk → ∀ i, g' k i = g k i
theorem wk_gc_fr {h h' : sm_H} {wr : List (Nat × Nat)} (hF : ab_Fr wr h h') (hS : ab_Sh sx_sk h) (hw : wk_gk.all (fun k => !ab_in wr (k * 128)) = true) : wk_gc (mi_a h) (mi_a h') := fun k hk i => by
  have h1 := List.all_eq_true.mp hw k hk
  refine me_a hF hS ?_ (by simpa using h1)
  have : wk_gk.all (fun k => (mx_isA sx_sk k || mx_isB sx_sk k)) = true := by decide
  exact List.all_eq_true.mp this k hk
section GC
variable {g g' : wk_g}
theorem wk_gc.trans {g2 : wk_g} (a : wk_gc g g') (b : wk_gc g' g2) : wk_gc g g2 := fun k hk i => (b k hk i).trans (a k hk i)
theorem wk_rf_g (hg : wk_gc g g') (u : Int) : wk_rf g' u = wk_rf g u := by
  unfold wk_rf
  rw [hg 120 (by decide), hg 115 (by decide), hg 114 (by decide)]
theorem wk_sS_g (hg : wk_gc g g') (u : Int) (r : List wk_E) : wk_sS g' u r = wk_sS g u r := by
  unfold wk_sS
  rw [hg 119 (by decide), hg 120 (by decide), wk_rf_g hg]
theorem wk_sl_g (hg : wk_gc g g') (u l : Int) : wk_sl g' u l = wk_sl g u l := by
  unfold wk_sl
  rw [hg 119 (by decide)]
theorem wk_sg_g (hg : wk_gc g g') (K : Nat → Int) (u : Int) (r : List wk_E) (c : Nat) : wk_sg g' K u r c = wk_sg g K u r c := by
  unfold wk_sg
  rw [hg 119 (by decide), wk_sS_g hg]
theorem wk_it_g (hg : wk_gc g g') : ∀ (n : Nat) (u : Int), wk_it g' n u = wk_it g n u := by
  intro n
  induction n with
  | zero => intro u; rfl
  | succ n ih =>
    intro u
    unfold wk_it
    rw [hg 124 (by decide), hg 125 (by decide), ih]
theorem wk_alt_g (hg : wk_gc g g') : ∀ (n : Nat) (a : Int), wk_alt g' n a = wk_alt g n a := by
  intro n
  induction n with
  | zero => intro a; rfl
  | succ n ih =>
    intro a
    unfold wk_alt
    rw [hg 128 (by decide), ih]
theorem wk_pf_g (hg : wk_gc g g') (K V : Nat → Int) (s : List wk_E × Nat) : wk_pf g' K V s = wk_pf g K V s := by
  unfold wk_pf
  split
  · rfl
  · simp only [hg 122 (by decide), hg 130 (by decide), hg 129 (by decide), hg 126 (by decide), wk_sg_g hg, wk_it_g hg, wk_alt_g hg]
theorem wk_ul_c {d w a : Int} {r : List wk_E} (hd : ¬ d = 2) : wk_ul ((d, w, a) :: r) = wk_ul r := by
  show (if d = 2 then w else 0) + wk_ul r = wk_ul r
  rw [if_neg hd, Int.zero_add]
theorem wk_ul_o {w a : Int} {r : List wk_E} : wk_ul ((2, w, a) :: r) = w + wk_ul r := by
  show (if (2 : Int) = 2 then w else 0) + wk_ul r = _
  rw [if_pos rfl]
theorem wk_ul_sS (u : Int) (r : List wk_E) : wk_ul (wk_sS g u r) = wk_sl g u (wk_ul r) := by
  unfold wk_sS wk_sl
  by_cases h9 : g 119 u.toNat = 9
  · rw [if_pos h9, if_pos h9, wk_ul_c (by decide), wk_ul_o]
    omega
  · rw [if_neg h9, if_neg h9]
    split
    · rw [wk_ul_c (by decide)]
    · rfl
end GC
/-- what the steps ask for, kept -/
theorem wk_in_fr {μ : Int} {h h' : sm_H} {wr : List (Nat × Nat)} (hi : wk_in μ h) (hS' : ab_Sh sx_sk h') (hF : ab_Fr wr h h') (hw : (ab_in wr 14028 || ab_in wr 14044 || ab_in wr 14034 || ab_in wr 14033 || ab_in wr 14016 || ab_in wr 14032 || ab_in wr 14011 || ab_in wr 19456) = false) (ht : 0 ≤ mi_f h' 14029) (hu : wk_ul (wk_stk h') = mi_f h 14032) : wk_in μ h' := by
  obtain ⟨i1, i2, i3, i4, i5, i6, i7, i8, i9, i10, i11⟩ := hi
  simp only [Bool.or_eq_false_iff] at hw
  obtain ⟨⟨⟨⟨⟨⟨⟨w1, w2⟩, w3⟩, w4⟩, w5⟩, w6⟩, w7⟩, w8⟩ := hw
  have f33 : mi_f h' 14033 = mi_f h 14033 := me_f (c := 14033) hF i1 rfl w4
  have f16 : mi_f h' 14016 = mi_f h 14016 := me_f (c := 14016) hF i1 rfl w5
  have f32 : mi_f h' 14032 = mi_f h 14032 := me_f (c := 14032) hF i1 rfl w6
  refine ⟨hS', (me_f (c := 14028) hF i1 rfl w1).trans i2, i3, (me_f (c := 14044) hF i1 rfl w2).trans i4, by rw [me_f (c := 14034) hF i1 rfl w3]; exact i5, fun e => ?_, ht, by omega, by omega, by omega, ?_⟩
  · rw [f33, me_f (c := 14011) hF i1 rfl w7, me_a (k := 152) hF i1 rfl w8]
    exact i6 e
  · unfold wk_n at i11 ⊢
    rw [f33, f16]
    exact i11
theorem wk_us_g {h h' : sm_H} {zu : Int} (hg : wk_gc (mi_a h) (mi_a h')) (hu : wk_us h zu) : wk_us h' zu := by
  unfold wk_us at hu ⊢
  rw [hg 119 (by decide), hg 120 (by decide), hg 115 (by decide)]
  exact hu
theorem wk_KV2 {h h' : sm_H} {wr : List (Nat × Nat)} (hF : ab_Fr wr h h') (hS : ab_Sh sx_sk h) (hw : (ab_in wr 19840 || ab_in wr 20736) = false) : wk_K 2 h' = wk_K 2 h ∧ wk_V 2 h' = wk_V 2 h := by
  simp only [Bool.or_eq_false_iff] at hw
  refine ⟨funext fun k => ?_, funext fun k => ?_⟩
  · unfold wk_K
    rw [if_pos rfl, if_pos rfl]
    exact me_a (k := 155) hF hS rfl hw.1
  · unfold wk_V
    rw [if_pos rfl, if_pos rfl, me_b (k := 162) hF hS rfl hw.2]
theorem me_has {h : sm_H} {d : Nat} {zs : Int64} (hS : ab_Sh sx_sk h) (h0 : 0 ≤ mi_f h 14033) (h1 : mi_f h 14033 ≤ 160) : me_E d 212 0 [some (.inr (.inr 109)), some (.inr (.inl zs)), none] [] h (fun w h' => ab_Sh sx_sk h' ∧ h' = h ∧ ∃ z, w = some (.inl z) ∧ 0 ≤ z ∧ z ≤ 1) := by
  have b1 := zs.le_toInt
  have b2 := zs.toInt_lt
  have := me_abs (M := (3, 4, sb_212)) (as := [.inr (.inr 109), .inr (.inl zs)]) xo_v_has rfl hS ⟨rfl, ⟨zs, rfl, by show (-9223372036854775808 : Int) ≤ _; omega, by show _ ≤ (9223372036854775807 : Int); omega⟩, trivial⟩ (fun e he => by
    rw [List.mem_singleton.mp he]
    exact me_nvf (c := 14033) hS rfl h0 h1) (by decide)
  refine (me_E.deep (d' := d) this (Nat.zero_le _)).imp (fun w h' hq => ?_)
  obtain ⟨q1, q2, p, pm, pr, -⟩ := hq
  refine ⟨q1, me_nil q2, ?_⟩
  rw [List.mem_singleton.mp pm] at pr
  unfold mi_res at pr
  rw [if_neg (by decide)] at pr
  rcases pr with ⟨-, z, e, z1, z2⟩ | ⟨e, -⟩ | ⟨e, -⟩
  · exact ⟨z, e, z1, z2⟩
  · cases e
  · cases e
def ag_Q (μ zu za : Int) (h : sm_H) (w : Option mi_V) (h' : sm_H) : Prop := w = none ∧ ab_Sh sx_sk h' ∧ ab_Fr wr_W1 h h' ∧ ((mi_f h' 14044 = 1 ∨ (μ = 0 ∧ 0 ≤ mi_f h' 14034)) ∨ (h' = h ∧ (μ ≠ 0 → za ≤ 0)) ∨
  (mi_f h' 14028 = μ ∧ mi_f h' 14044 = 0 ∧ mi_f h' 14034 < 0 ∧ wk_tok μ h' ∧ (μ ≠ 0 → 0 < za) ∧ wk_n μ h ≤ wk_n μ h' ∧ (∀ i : Nat, (i : Int) < wk_n μ h → wk_K μ h' i = wk_K μ h i ∧ wk_V μ h' i = if μ = 0 ∧ i = za.toNat then wk_V μ h i + 1 else wk_V μ h i) ∧ (μ = 2 → mi_f h' 14016 = mi_f h 14016) ∧ mi_f h' 14032 = wk_ul (wk_stk h') ∧ mi_f h' 14032 ≤ 12 ∧ wk_stk h' = wk_sS (mi_a h) zu ((5, zu, if μ = 0 then za else za - 1) :: wk_stk h) ∧ mi_f h 14029 ≤ mi_f h' 14029 ∧ mi_f h' 14029 ≤ mi_f h 14029 + 3 ∧ wk_sg (mi_a h) (wk_K μ h') zu ((5, zu, if μ = 0 then za else za - 1) :: wk_stk h) (wk_n μ h).toNat = some (wk_stk h', (wk_n μ h').toNat)))
section AGA
variable {h : sm_H} {d : Nat} {zu za μ : Int}
/-- .. behind the push -/
theorem ag_go {h1 : sm_H} {zb zm : Int} (hi : wk_in μ h) (hu : wk_us h zu) (ht : mi_f h 14029 ≤ 2985) (ez : zb = if μ = 0 then za else za - 1) (h2 : μ = 2 → ∃ s', wk_sg (mi_a h) (wk_K 2 h) zu ((5, zu, za - 1) :: wk_stk h) (wk_n 2 h).toNat = some s' ∧ s'.2 ≤ 100) (hz : μ ≠ 0 → 0 < za) (g1 : ab_Sh sx_sk h1) (g2 : mi_f h1 14029 = mi_f h 14029 + 1) (est : wk_stk h1 = (5, zu, zb) :: wk_stk h) (g3 : ab_Fr [(14029, 14030), (20864, 20865), (21120, 21121), (21248, 21249), (21376, 21377)] h h1) (hv : ∀ i : Nat, (i : Int) < wk_n μ h → wk_V μ h1 i = if μ = 0 ∧ i = za.toNat then wk_V μ h i + 1 else wk_V μ h i) (ok_zu : mi_in zu) (ok_za : mi_in za) (ok_zm : mi_in zm) : ∃ Q1, me_E (d + 5) 213 0 [some (.inr (.inr 109)), some (.inl zu)] [] h1 Q1 ∧ ∀ w h', (∀ x, w = some x → mi_ok x) → Q1 w h' → me_E (d + 6) 227 77 [some (.inr (.inr 109)), some (.inl zu), some (.inl za), some (.inl zm)] (mi_back w []) h' (ag_Q μ zu za h) := by
  have i1 := hi.1
  have hg : wk_gc (mi_a h) (mi_a h1) := wk_gc_fr g3 i1 rfl
  have hi1 : wk_in μ h1 := wk_in_fr hi g1 g3 rfl (by have := hi.2.2.2.2.2.2.1; omega) (by
    rw [est, wk_ul_c (by decide)]
    exact hi.2.2.2.2.2.2.2.2.2.1)
  have en : wk_n μ h1 = wk_n μ h := by
    unfold wk_n
    rw [me_f (c := 14033) g3 i1 rfl rfl, me_f (c := 14016) g3 i1 rfl rfl]
  refine ⟨_, me_single hi1 (wk_us_g hg hu) (by omega) (fun e => ?_), ?_⟩
  · obtain ⟨s', a1, a2⟩ := h2 e
    refine ⟨s', ?_, a2⟩
    subst e
    rw [wk_sg_g hg, (wk_KV2 g3 i1 rfl).1, est, ez, en, if_neg (by decide)]
    exact a1
  · intro w h' hw hq
    obtain ⟨rfl, q1, q2, q3⟩ := hq
    refine mt_agC q1 ok_zu ok_za ok_zm ?_
    intro h3 r1 r2
    have e3 := me_nil r2
    subst e3
    have hF : ab_Fr wr_W1 h h3 := (g3.wide (fun c hc => ab_swr_ok (by decide) hc)).trans q2
    refine ⟨rfl, q1, hF, ?_⟩
    rcases q3 with q3 | ⟨⟨o1, o2, o3, o4, o5, o6, o7⟩, q4, q5, q6, q7, q8, q9⟩
    · exact Or.inl q3
    · rw [wk_sS_g hg, est, ez] at q6
      rw [wk_sg_g hg, est, ez, en] at q9
      rw [en] at o5 o6
      refine Or.inr (Or.inr ⟨o1, o2, o3, o4, hz, o5, fun i hi' => ?_, fun e => (o7 e).trans (me_f (c := 14016) g3 i1 rfl rfl), ?_, q5, q6, by omega, by omega, q9⟩)
      · obtain ⟨x1, x2⟩ := o6 i hi'
        refine ⟨x1.trans ?_, x2.trans (hv i hi')⟩
        unfold wk_K
        rw [me_a (k := 155) g3 i1 rfl rfl, me_a (k := 158) g3 i1 rfl rfl]
      · rw [q6, wk_ul_sS, q4, wk_sl_g hg, me_f (c := 14032) g3 i1 rfl rfl, wk_ul_c (by decide), hi.2.2.2.2.2.2.2.2.2.1]
theorem me_again (hi : wk_in μ h) (hu : wk_us h zu) (ht : mi_f h 14029 ≤ 2985) (hza : mi_in za) (h0 : μ = 0 → 0 ≤ za ∧ za < 100) (hv2 : μ = 0 → wk_V 0 h za.toNat ≤ 1000000 ∧ 0 ≤ wk_V 0 h za.toNat) (h2 : μ = 2 → 0 < za → ∃ s', wk_sg (mi_a h) (wk_K 2 h) zu ((5, zu, za - 1) :: wk_stk h) (wk_n 2 h).toNat = some s' ∧ s'.2 ≤ 100) : me_E (d + 6) 227 0 [some (.inr (.inr 109)), some (.inl zu), some (.inl za), none] [] h (ag_Q μ zu za h) := by
  obtain ⟨i1, i2, i3, i4, i5, i6, i7, i8, i9, i10, i11⟩ := id hi
  have hu0 := hu.1
  have hu1 := hu.2.1
  have ok : mi_in zu := ⟨by omega, by omega⟩
  have hzb := hza.1
  have hzc := hza.2
  refine mt_agA i1 ok hza ?_ ?_ ?_
  · intro b c1 c2 h1 g1 g2
    have e3 := me_nil g2
    subst e3
    exact ⟨rfl, g1, ab_Fr.refl, Or.inr (Or.inl ⟨rfl, fun _ => c2⟩)⟩
  · intro b1 b2 c1 c2
    have nμ : ¬ μ = 0 := by clear h2 hv2 h0; omega
    refine ⟨by clear h2 hv2 h0; omega, fun h1 g1 g2 a5 a6 a7 g3 => ?_⟩
    refine ag_go hi hu ht (if_neg nμ).symm (fun e => h2 e c2) (fun _ => c2) g1 g2 (wk_push1 i7 g2 a5 a6 a7) (g3.wide (fun c hc => ab_swr_ok (by decide) hc)) (fun i _ => ?_) ok hza ⟨by decide, by decide⟩
    rw [if_neg (fun z => nμ z.1)]
    unfold wk_V
    rw [me_b (k := 162) g3 i1 rfl rfl, me_b (k := 163) g3 i1 rfl rfl]
  · intro b c1
    have eμ : μ = 0 := by clear h2 hv2 h0; omega
    have hh := i6 eμ
    have bt := me_fb (c := 14011) i1 rfl
    have hz0 := h0 eμ
    have hvv := hv2 eμ
    refine ⟨by clear h2 hv2 h0; omega, fun h1 g1 g2 => ?_⟩
    have e3 := me_nil g2
    subst e3
    refine ⟨_, me_has i1 (by clear h2 hv2 h0; omega) (by clear h2 hv2 h0; omega), ?_⟩
    intro w h3 hw hq
    obtain ⟨q1, rfl, z, rfl, z1, z2⟩ := hq
    refine mt_agB q1 ok hza (hw _ rfl) ?_ ?_ ?_
    · intro b1 b2 c2 c3
      exfalso
      clear h2 hv2 h0
      omega
    · intro b1 b2 c2 c3
      refine ⟨by clear h2 hv2 h0; omega, fun h4 g4 g5 a5 a6 a7 a8 g6 => ?_⟩
      refine ag_go hi hu ht (if_pos eμ).symm (fun e => by clear h2 hv2 h0; omega) (fun e => absurd eμ e) g4 g5 (wk_push1 i7 g5 a5 a6 a7) (g6.wide (fun c hc => ab_swr_ok (by decide) hc)) (fun i _ => ?_) ok hza (hw _ rfl)
      subst eμ
      have eV : ∀ (h : sm_H) (i : Nat), wk_V 0 h i = (mx_b h 163 i).toInt := fun h i => by unfold wk_V; rw [if_neg (by decide)]
      rw [eV] at hvv
      rw [eV, eV, a8]
      clear h2 hv2 h0
      by_cases hz : i = za.toNat
      · have e1 : (Int64.ofNat 1).toInt = 1 := rfl
        have e2 : (mx_b h3 163 za.toNat + Int64.ofNat 1).toInt = (mx_b h3 163 za.toNat).toInt + 1 := by
          rw [Int64.toInt_add, e1]
          exact Int.bmod_eq_of_le (by omega) (by omega)
        rw [if_pos hz, if_pos (show (0 : Int) = 0 ∧ i = za.toNat from ⟨rfl, hz⟩), hz, e2]
      · rw [if_neg hz, if_neg (show ¬ ((0 : Int) = 0 ∧ i = za.toNat) from fun e => hz e.2)]
    · intro c2 h4 g4 g5
      have e5 := me_nil g5
      subst e5
      exact ⟨rfl, g4, ab_Fr.refl, Or.inr (Or.inl ⟨rfl, fun e => absurd eμ e⟩)⟩
end AGA
/-! unit -/
/-- what a unit leaves, but for pairs -/
def un_R (μ zu zo : Int) (h h' : sm_H) : Prop := mi_f h' 14028 = μ ∧ mi_f h' 14044 = 0 ∧ mi_f h' 14034 < 0 ∧ wk_tok μ h' ∧ wk_n μ h ≤ wk_n μ h' ∧ wk_ag μ (wk_n μ h) h h' ∧ (μ = 2 → mi_f h' 14016 = mi_f h 14016) ∧ mi_f h' 14032 = wk_ul (wk_stk h') ∧ mi_f h' 14032 ≤ 12 ∧ mi_f h 14029 ≤ mi_f h' 14029 ∧ mi_f h' 14029 ≤ mi_f h 14029 + 3 ∧
  (mi_a h 122 zu.toNat = 1 → wk_stk h' = (5, zu, if μ = 0 then wk_n μ h else wk_V μ h' (wk_n μ h).toNat) :: (2, 0, 0) :: wk_stk h ∧ wk_n μ h' = wk_n μ h + 1 ∧ wk_K μ h' (wk_n μ h).toNat = 5 ∧ 0 ≤ wk_V μ h' (wk_n μ h).toNat ∧ wk_V μ h' (wk_n μ h).toNat ≤ 1000000 ∧ (μ = 0 → wk_V μ h' (wk_n μ h).toNat = 0)) ∧
  (mi_a h 122 zu.toNat ≠ 1 → wk_pf (mi_a h) (wk_K μ h') (wk_V μ h') ((0, zu, zo) :: wk_stk h, (wk_n μ h).toNat) = some (wk_stk h', (wk_n μ h').toNat))
def un_Q (μ zu zo : Int) (h : sm_H) (w : Option mi_V) (h' : sm_H) : Prop := w = none ∧ ab_Sh sx_sk h' ∧ ab_Fr wr_W1 h h' ∧ ((mi_f h' 14044 = 1 ∨ (μ = 0 ∧ 0 ≤ mi_f h' 14034)) ∨ un_R μ zu zo h h')
section UNI
variable {h : sm_H} {d : Nat} {zu zo μ : Int}
/-- behind comes: what the node is -/
theorem un_node {kd zn : Int} {h1 h2 : sm_H} {w : Option mi_V} (hi : wk_in μ h) (hn : mi_in zn) (g1 : ab_Sh sx_sk h1) (g2 : ab_Fr [(14047, 14048)] h h1) (q1 : ab_Sh sx_sk h2) (q2 : ab_Fr [(14016, 14017), (14033, 14034), (14044, 14045), (20224, 20225), (20352, 20353), (20480, 20481), (20864, 20865)] h1 h2) (hz2 : μ = 2 → zn = wk_V 2 h (wk_n 2 h).toNat ∧ wk_K 2 h (wk_n 2 h).toNat = kd)
    (q3 : (μ ≠ 2 ∧ mi_f h2 14044 = 1 ∧ w = some (.inl 0) ∧ mi_f h2 14033 = mi_f h1 14033 ∧ mi_f h2 14016 = mi_f h1 14016) ∨ ((μ = 2 → mi_f h2 14044 = mi_f h1 14044) ∧ (μ ≠ 2 → mi_f h2 14044 = 0) ∧ wk_ev μ kd ((Int32.ofInt zn).toInt64).toInt h1 h2 ∧ w = some (.inl (wk_n μ h1)))) :
    (∃ z, w = some (.inl z)) ∧ mi_f h2 14029 = mi_f h 14029 ∧ mi_f h2 14032 = mi_f h 14032 ∧ mi_f h2 14034 = mi_f h 14034 ∧ mi_f h2 14028 = mi_f h 14028 ∧ wk_stk h2 = wk_stk h ∧ wk_gc (mi_a h) (mi_a h2) ∧ ab_Fr wr_W1 h h2 ∧ wk_tok μ h2 ∧ (μ = 2 → mi_f h2 14016 = mi_f h 14016) ∧ (μ ≠ 2 ∧ mi_f h2 14044 = 1 ∨ (mi_f h2 14044 = 0 ∧ wk_n μ h2 = wk_n μ h + 1 ∧ wk_ag μ (wk_n μ h) h h2 ∧ wk_K μ h2 (wk_n μ h).toNat = kd ∧ wk_V μ h2 (wk_n μ h).toNat = zn ∧ w = some (.inl (wk_n μ h)))) := by
  obtain ⟨i1, i2, i3, i4, i5, i6, i7, i8, i9, i10, i11⟩ := hi
  have ez : ((Int32.ofInt zn).toInt64).toInt = zn := by rw [Int32.toInt_toInt64, mi_ti hn]
  have f33 : mi_f h1 14033 = mi_f h 14033 := me_f (c := 14033) g2 i1 rfl rfl
  have f16 : mi_f h1 14016 = mi_f h 14016 := me_f (c := 14016) g2 i1 rfl rfl
  have nA : wk_n μ h1 = wk_n μ h := by unfold wk_n; rw [f33, f16]
  have hF : ab_Fr wr_W1 h h2 := (g2.wide (fun c hc => ab_swr_ok (by decide) hc)).trans (q2.wide (fun c hc => ab_swr_ok (by decide) hc))
  have e33 : μ = 0 → mi_f h2 14033 = mi_f h 14033 := fun e => by
    rcases q3 with q3 | q3
    · rw [q3.2.2.2.1, f33]
    · rw [(q3.2.2.1.2.2.1 (by omega)).2.2, f33]
  refine ⟨?_, (me_f (c := 14029) q2 g1 rfl rfl).trans (me_f (c := 14029) g2 i1 rfl rfl), (me_f (c := 14032) q2 g1 rfl rfl).trans (me_f (c := 14032) g2 i1 rfl rfl), (me_f (c := 14034) q2 g1 rfl rfl).trans (me_f (c := 14034) g2 i1 rfl rfl), (me_f (c := 14028) q2 g1 rfl rfl).trans (me_f (c := 14028) g2 i1 rfl rfl), (wk_stk_fr q2 g1 rfl).trans (wk_stk_fr g2 i1 rfl), (wk_gc_fr g2 i1 rfl).trans (wk_gc_fr q2 g1 rfl), hF, fun e => ?_, fun e => ?_, ?_⟩
  · rcases q3 with q3 | q3
    · exact ⟨_, q3.2.2.1⟩
    · exact ⟨_, q3.2.2.2⟩
  · rw [e33 e, me_f (c := 14011) hF i1 rfl rfl, me_a (k := 152) hF i1 rfl rfl]
    exact i6 e
  · rcases q3 with q3 | q3
    · exact absurd e q3.1
    · rw [q3.2.2.1.2.2.2 e, f16]
  · rcases q3 with q3 | ⟨p1, p2, p3, p4⟩
    · exact Or.inl ⟨q3.1, q3.2.1⟩
    · obtain ⟨x1, x2, x3, -⟩ := p3
      rw [nA] at x1 x2 x3 p4
      have agA : wk_ag μ (wk_n μ h) h h1 := wk_ag_fr g2 i1 rfl
      refine Or.inr ⟨?_, x1, agA.trans x2 (Int.le_refl _), ?_, ?_, p4⟩
      · by_cases e : μ = 2
        · rw [p1 e, me_f (c := 14044) g2 i1 rfl rfl]
          exact i4
        · exact p2 e
      · by_cases e : μ = 2
        · subst e
          rw [wk_K2 hF i1]
          exact (hz2 rfl).2
        · exact (x3 e).1
      · by_cases e : μ = 2
        · subst e
          rw [(wk_KV2 hF i1 rfl).2]
          exact (hz2 rfl).1.symm
        · rw [(x3 e).2.1, ez]
theorem un83 {zn : Int} {h1 : sm_H} (hi : wk_in μ h) (hu0 : 0 ≤ zu) (hu1 : zu < 60) (ht : mi_f h 14029 ≤ 2985) (hw : mi_a h 122 zu.toNat = 1) (oo : mi_in zo) (hn0 : 0 ≤ zn) (hn1 : zn ≤ 1000000) (hz0 : μ = 0 → zn = 0) (hz2 : μ = 2 → zn = wk_V 2 h (wk_n 2 h).toNat ∧ wk_K 2 h (wk_n 2 h).toNat = 5) (hl2 : μ = 2 → wk_n 2 h ≤ 100) (g1 : ab_Sh sx_sk h1) (g2 : ab_Fr [(14047, 14048)] h h1) : me_E (d + 6) 210 83 [some (.inr (.inr 109)), some (.inl zu), some (.inl zo), none, none] [.inl zn] h1 (un_Q μ zu zo h) := by
  have hi' := hi
  obtain ⟨i1, i2, i3, i4, i5, i6, i7, i8, i9, i10, i11⟩ := hi'
  have ok : mi_in zu := ⟨by omega, by omega⟩
  have on : mi_in zn := ⟨by omega, by omega⟩
  refine mt_unD g1 ok oo on ?_
  intro h2 p1 p2
  have e2 := me_nil p2
  subst e2
  refine ⟨_, me_comes μ g1 ⟨by decide, by decide⟩ ((me_f (c := 14028) g2 i1 rfl rfl).trans i2) (fun e => ?_), ?_⟩
  · have := hl2 e
    unfold wk_n at this
    rw [if_pos rfl] at this
    rw [me_f (c := 14033) g2 i1 rfl rfl]
    omega
  · intro w h3 hw3 hq
    obtain ⟨q1, q2, q3⟩ := hq
    obtain ⟨⟨z, rfl⟩, n29, n32, n34, n28, nst, ngc, nF, ntok, nmk, nn⟩ := un_node hi on g1 g2 q1 q2 hz2 q3
    have fin : ∀ {a : Int} {h4 : sm_H}, (a = if μ = 0 then z else zn) → ab_Sh sx_sk h4 → mi_f h4 14029 = mi_f h3 14029 + 1 + 1 → (∀ i, mi_a h4 165 i = if i = Int.toNat (mi_f h3 14029 + 1) then 5 else if i = Int.toNat (mi_f h3 14029) then 2 else mi_a h3 165 i) → (∀ i, mi_a h4 166 i = if i = Int.toNat (mi_f h3 14029 + 1) then zu else if i = Int.toNat (mi_f h3 14029) then 0 else mi_a h3 166 i) → (∀ i, mi_a h4 167 i = if i = Int.toNat (mi_f h3 14029 + 1) then a else if i = Int.toNat (mi_f h3 14029) then 0 else mi_a h3 167 i) → ab_Fr [(14029, 14030), (14031, 14032), (21120, 21121), (21248, 21249), (21376, 21377)] h3 h4 → un_Q μ zu zo h none h4 := by
      intro a h4 ea r1 r2 a5 a6 a7 r3
      have hF : ab_Fr wr_W1 h h4 := nF.trans (r3.wide (fun c hc => ab_swr_ok (by decide) hc))
      refine ⟨rfl, r1, hF, ?_⟩
      have e44 : mi_f h4 14044 = mi_f h3 14044 := me_f (c := 14044) r3 q1 rfl rfl
      rcases nn with ⟨-, nn⟩ | ⟨m1, m2, m3, m4, m5, m6⟩
      · exact Or.inl (Or.inl (by rw [e44]; exact nn))
      · have est := wk_push2 (by omega) r2 a5 a6 a7
        rw [nst] at est
        have hne : wk_ne μ h3 h4 := wk_ne_fr r3 q1 rfl
        have en : wk_n μ h4 = wk_n μ h3 := wk_ne_n hne
        have hlt : ((wk_n μ h).toNat : Int) < wk_n μ h3 := by omega
        obtain ⟨y1, y2⟩ := hne.2.2 _ hlt
        have e32 : mi_f h4 14032 = mi_f h3 14032 := me_f (c := 14032) r3 q1 rfl rfl
        refine Or.inr ⟨by rw [me_f (c := 14028) r3 q1 rfl rfl, n28]; exact i2, by rw [e44]; exact m1, by rw [me_f (c := 14034) r3 q1 rfl rfl, n34]; exact i5, fun e => ?_, by omega, m3.trans hne.2.2 (by omega), fun e => hne.2.1.trans (nmk e), ?_, by omega, by omega, by omega, fun _ => ?_, fun e => absurd hw e⟩
        · rw [hne.1, me_f (c := 14011) r3 q1 rfl rfl, me_a (k := 152) r3 q1 rfl rfl]
          exact ntok e
        · rw [est, wk_ul_c (by decide), wk_ul_o]
          omega
        · rw [y1, y2, m4, m5]
          refine ⟨?_, by omega, rfl, hn0, hn1, hz0⟩
          rw [est, ea]
          cases m6
          rfl
    refine mt_unE q1 ok oo on (hw3 _ rfl) ?_ ?_
    · intro b1 b2 c1
      refine ⟨by omega, fun h4 r1 r2 r3 a5 a6 a7 r4 => fin ?_ r1 r2 a5 a6 a7 r4⟩
      rw [if_neg (by omega)]
    · intro b1 b2 c1
      refine ⟨by omega, fun h4 r1 r2 r3 a5 a6 a7 r4 => fin ?_ r1 r2 a5 a6 a7 r4⟩
      rw [if_pos (by omega)]
end UNI
/-! unit, the rest -/
section UNJ
variable {h : sm_H} {d : Nat} {zu zo μ : Int}
theorem un208 {zn : Int} {h1 : sm_H} (hi : wk_in μ h) (hu : wk_us h zu) (ht : mi_f h 14029 ≤ 2985) (hw : mi_a h 122 zu.toNat = 2) (oo : mi_in zo) (hn0 : 0 ≤ zn) (hn1 : zn ≤ 1000000) (hz2 : μ = 2 → zn = wk_V 2 h (wk_n 2 h).toNat ∧ wk_K 2 h (wk_n 2 h).toNat = 6) (hl2 : μ = 2 → wk_n 2 h ≤ 100) (h2 : μ = 2 → 0 < zn → ∃ s', wk_sg (mi_a h) (wk_K 2 h) zu ((2, 0, 0) :: wk_stk h) ((wk_n 2 h).toNat + 1) = some s' ∧ s'.2 ≤ 100) (g1 : ab_Sh sx_sk h1) (g2 : ab_Fr [(14047, 14048)] h h1) : me_E (d + 6) 210 208 [some (.inr (.inr 109)), some (.inl zu), some (.inl zo), none, none] [.inl zn] h1 (un_Q μ zu zo h) := by
  have hi' := hi
  obtain ⟨i1, i2, i3, i4, i5, i6, i7, i8, i9, i10, i11⟩ := hi'
  have hu0 := hu.1
  have hu1 := hu.2.1
  have ok : mi_in zu := ⟨by omega, by omega⟩
  have on : mi_in zn := ⟨by omega, by omega⟩
  have w1 : ¬ mi_a h 122 zu.toNat = 1 := by omega
  refine mt_unH g1 ok oo on ?_
  intro h2' p1 p2
  have e2 := me_nil p2
  subst e2
  refine ⟨_, me_comes μ g1 ⟨by decide, by decide⟩ ((me_f (c := 14028) g2 i1 rfl rfl).trans i2) (fun e => ?_), ?_⟩
  · have := hl2 e
    unfold wk_n at this
    rw [if_pos rfl] at this
    rw [me_f (c := 14033) g2 i1 rfl rfl]
    clear h2
    omega
  · intro w h3 hw3 hq
    obtain ⟨q1, q2, q3⟩ := hq
    obtain ⟨⟨z, rfl⟩, n29, n32, n34, n28, nst, ngc, nF, ntok, nmk, nn⟩ := un_node hi on g1 g2 q1 q2 hz2 q3
    refine mt_unI q1 ok oo on (hw3 _ rfl) ?_ ?_ ?_
    · intro b1 c1
      refine ⟨by clear h2; omega, fun h4 r1 r2 r3 a5 a6 a7 r4 => ?_⟩
      have hF : ab_Fr wr_W1 h h4 := nF.trans (r4.wide (fun c hc => ab_swr_ok (by decide) hc))
      refine ⟨rfl, r1, hF, ?_⟩
      have e44 : mi_f h4 14044 = mi_f h3 14044 := me_f (c := 14044) r4 q1 rfl rfl
      rcases nn with ⟨-, nn⟩ | ⟨m1, m2, m3, m4, m5, m6⟩
      · exact Or.inl (Or.inl (by rw [e44]; exact nn))
      · have est := wk_push1 (by omega) r2 a5 a6 a7
        rw [nst] at est
        have hne : wk_ne μ h3 h4 := wk_ne_fr r4 q1 rfl
        have en : wk_n μ h4 = wk_n μ h3 := wk_ne_n hne
        have hlt : ((wk_n μ h).toNat : Int) < wk_n μ h3 := by clear h2; omega
        obtain ⟨y1, y2⟩ := hne.2.2 _ hlt
        have e32 : mi_f h4 14032 = mi_f h3 14032 := me_f (c := 14032) r4 q1 rfl rfl
        refine Or.inr ⟨by rw [me_f (c := 14028) r4 q1 rfl rfl, n28]; exact i2, by rw [e44]; exact m1, by rw [me_f (c := 14034) r4 q1 rfl rfl, n34]; exact i5, fun e => ?_, by clear h2; omega, m3.trans hne.2.2 (by clear h2; omega), fun e => hne.2.1.trans (nmk e), ?_, by clear h2; omega, by clear h2; omega, by clear h2; omega, fun e => absurd e w1, fun _ => ?_⟩
        · rw [hne.1, me_f (c := 14011) r4 q1 rfl rfl, me_a (k := 152) r4 q1 rfl rfl]
          exact ntok e
        · rw [est, wk_ul_o]
          clear h2
          omega
        · have e1 : (wk_n μ h4).toNat = (wk_n μ h).toNat + 1 := by clear h2; omega
          have k6 : wk_K μ h4 (wk_n μ h).toNat = 6 := y1.trans m4
          have kv : wk_V μ h4 (wk_n μ h).toNat = zn := y2.trans m5
          unfold wk_pf
          dsimp only
          rw [if_pos rfl, if_neg w1, if_pos hw, if_pos ⟨k6, by rw [kv]; exact hn0, by rw [kv]; exact hn1⟩, if_neg (by rw [kv]; clear h2; omega), est, e1]
    · intro b1 b2 c1 c2
      refine ⟨by clear h2; omega, fun h4 r1 r2 r3 a5 a6 a7 r4 => ?_⟩
      have hF : ab_Fr wr_W1 h h4 := nF.trans (r4.wide (fun c hc => ab_swr_ok (by decide) hc))
      refine ⟨rfl, r1, hF, Or.inl (Or.inl ?_)⟩
      rw [me_f (c := 14044) r4 q1 rfl rfl]
      clear h2
      omega
    · intro b1 b2 c1 c2
      refine ⟨by clear h2; omega, fun h4 r1 r2 r3 a5 a6 a7 r4 => ?_⟩
      rcases nn with ⟨-, nn⟩ | ⟨m1, m2, m3, m4, m5, m6⟩
      · exfalso
        clear h2
        omega
      · have hF : ab_Fr wr_W1 h h4 := nF.trans (r4.wide (fun c hc => ab_swr_ok (by decide) hc))
        have est := wk_push1 (by omega) r2 a5 a6 a7
        rw [nst] at est
        have hne : wk_ne μ h3 h4 := wk_ne_fr r4 q1 rfl
        have en : wk_n μ h4 = wk_n μ h + 1 := by rw [wk_ne_n hne]; exact m2
        have hg : wk_gc (mi_a h) (mi_a h4) := ngc.trans (wk_gc_fr r4 q1 rfl)
        have e32 : mi_f h4 14032 = mi_f h 14032 := (me_f (c := 14032) r4 q1 rfl rfl).trans n32
        have hi4 : wk_in μ h4 := by
          refine ⟨r1, by rw [me_f (c := 14028) r4 q1 rfl rfl, n28]; exact i2, i3, by rw [me_f (c := 14044) r4 q1 rfl rfl]; exact m1, by rw [me_f (c := 14034) r4 q1 rfl rfl, n34]; exact i5, fun e => ?_, by clear h2; omega, by clear h2; omega, by clear h2; omega, ?_, by clear h2; omega⟩
          · rw [hne.1, me_f (c := 14011) r4 q1 rfl rfl, me_a (k := 152) r4 q1 rfl rfl]
            exact ntok e
          · rw [est, wk_ul_o]
            clear h2
            omega
        have hag4 : wk_ag μ (wk_n μ h) h h4 := m3.trans hne.2.2 (by clear h2; omega)
        refine ⟨_, me_single (d := d) hi4 (wk_us_g hg hu) (by clear h2; omega) (fun e => ?_), ?_⟩
        · obtain ⟨s', x1, x2⟩ := h2 e c1
          refine ⟨s', ?_, x2⟩
          subst e
          have e5 : (wk_n 2 h4).toNat = (wk_n 2 h).toNat + 1 := by clear h2; omega
          rw [wk_sg_g hg, (wk_KV2 hF i1 rfl).1, est, e5]
          exact x1
        · intro w h5 hw5 hq5
          obtain ⟨rfl, t1, t2, t3⟩ := hq5
          refine mt_unJ t1 ok oo on ?_
          intro h6 u1 u2
          have e6 := me_nil u2
          subst e6
          refine ⟨rfl, t1, hF.trans t2, ?_⟩
          rcases t3 with t3 | ⟨⟨o1, o2, o3, o4, o5, o6, o7⟩, s1, s2, s3, s4, s5, s6⟩
          · exact Or.inl t3
          · have hlt : ((wk_n μ h).toNat : Int) < wk_n μ h4 := by clear h2; omega
            have hlt3 : ((wk_n μ h).toNat : Int) < wk_n μ h3 := by clear h2; omega
            obtain ⟨y1, y2⟩ := o6 _ hlt
            obtain ⟨y3, y4⟩ := hne.2.2 _ hlt3
            have k6 : wk_K μ h6 (wk_n μ h).toNat = 6 := y1.trans (y3.trans m4)
            have kv : wk_V μ h6 (wk_n μ h).toNat = zn := y2.trans (y4.trans m5)
            refine Or.inr ⟨o1, o2, o3, o4, by clear h2; omega, hag4.trans o6 (by clear h2; omega), fun e => (o7 e).trans (hne.2.1.trans (nmk e)), ?_, s2, by clear h2; omega, by clear h2; omega, fun e => absurd e w1, fun _ => ?_⟩
            · rw [s3, wk_ul_sS, s1, hi4.2.2.2.2.2.2.2.2.2.1]
            · have e5 : (wk_n μ h4).toNat = (wk_n μ h).toNat + 1 := by clear h2; omega
              rw [wk_sg_g hg, est, e5] at s6
              unfold wk_pf
              dsimp only
              rw [if_pos rfl, if_neg w1, if_pos hw, if_pos ⟨k6, by rw [kv]; exact hn0, by rw [kv]; exact hn1⟩, if_pos (by rw [kv]; exact c1)]
              exact s6
/-- from where pairs have been looked at -/
theorem un24 (hi : wk_in μ h) (hu : wk_us h zu) (ht : mi_f h 14029 ≤ 2985) (oo : mi_in zo) (h2 : μ = 2 → ∃ s', wk_pf (mi_a h) (wk_K 2 h) (wk_V 2 h) ((0, zu, zo) :: wk_stk h, (wk_n 2 h).toNat) = some s' ∧ s'.2 ≤ 100) : me_E (d + 6) 210 24 [some (.inr (.inr 109)), some (.inl zu), some (.inl zo), none, none] [] h (un_Q μ zu zo h) := by
  have hi' := hi
  obtain ⟨i1, i2, i3, i4, i5, i6, i7, i8, i9, i10, i11⟩ := hi'
  have hu0 := hu.1
  have hu1 := hu.2.1
  have ok : mi_in zu := ⟨by omega, by omega⟩
  have en2 : wk_n 2 h = mi_f h 14033 := by unfold wk_n; rw [if_pos rfl]
  have eV2 : ∀ k, wk_V 2 h k = (mx_b h 162 k).toInt := fun k => by unfold wk_V; rw [if_pos rfl]
  -- what the replay says, by the way of repeating
  have r1 : μ = 2 → mi_a h 122 zu.toNat = 1 → wk_K 2 h (wk_n 2 h).toNat = 5 ∧ 0 ≤ wk_V 2 h (wk_n 2 h).toNat ∧ wk_V 2 h (wk_n 2 h).toNat ≤ 1000000 ∧ (wk_n 2 h).toNat < 100 := fun e ew => by
    obtain ⟨s', x1, x2⟩ := h2 e
    unfold wk_pf at x1
    dsimp only at x1
    rw [if_pos rfl, if_pos ew] at x1
    split at x1
    · next hk => cases x1; exact ⟨hk.1, hk.2.1, hk.2.2, x2⟩
    · cases x1
  have r2 : μ = 2 → mi_a h 122 zu.toNat = 2 → (wk_K 2 h (wk_n 2 h).toNat = 6 ∧ 0 ≤ wk_V 2 h (wk_n 2 h).toNat ∧ wk_V 2 h (wk_n 2 h).toNat ≤ 1000000 ∧ (wk_n 2 h).toNat < 100) ∧ (0 < wk_V 2 h (wk_n 2 h).toNat → ∃ s', wk_sg (mi_a h) (wk_K 2 h) zu ((2, 0, 0) :: wk_stk h) ((wk_n 2 h).toNat + 1) = some s' ∧ s'.2 ≤ 100) := fun e ew => by
    obtain ⟨s', x1, x2⟩ := h2 e
    unfold wk_pf at x1
    dsimp only at x1
    rw [if_pos rfl, if_neg (by omega), if_pos ew] at x1
    split at x1
    · next hk =>
      split at x1
      · next hv =>
        refine ⟨⟨hk.1, hk.2.1, hk.2.2, ?_⟩, fun _ => ⟨s', x1, x2⟩⟩
        have := wk_sg_mono x1
        omega
      · next hv =>
        cases x1
        exact ⟨⟨hk.1, hk.2.1, hk.2.2, x2⟩, fun z => absurd z hv⟩
    · cases x1
  have r0 : μ = 2 → mi_a h 122 zu.toNat ≠ 1 → mi_a h 122 zu.toNat ≠ 2 → ∃ s', wk_sg (mi_a h) (wk_K 2 h) zu (wk_stk h) (wk_n 2 h).toNat = some s' ∧ s'.2 ≤ 100 := fun e e1 e2 => by
    obtain ⟨s', x1, x2⟩ := h2 e
    unfold wk_pf at x1
    dsimp only at x1
    rw [if_pos rfl, if_neg e1, if_neg e2] at x1
    exact ⟨s', x1, x2⟩
  clear h2
  have conv : ∀ k, 0 ≤ (mx_b h 162 k).toInt → (mx_b h 162 k).toInt ≤ 1000000 → (mx_b h 162 k).toInt32.toInt = (mx_b h 162 k).toInt := fun k k0 k1 => by
    rw [Int64.toInt_toInt32]
    exact Int.bmod_eq_of_le (by omega) (by omega)
  have Fnil : ∀ {h1 : sm_H}, ab_Fr [] h h1 → ab_Fr [(14047, 14048)] h h1 := fun g => g.wide (fun c hc => by cases hc)
  refine mt_unB i1 ok oo ?_ ?_ ?_ ?_ ?_ ?_ ?_ ?_ ?_
  · intro c1 c2
    refine ⟨by omega, fun h1 g1 g2 => ?_⟩
    have e3 := me_nil g2
    subst e3
    refine ⟨_, me_single (d := d) hi hu (by omega) (fun e => r0 e c1 c2), ?_⟩
    intro w h3 hw3 hq
    obtain ⟨rfl, t1, t2, t3⟩ := hq
    refine mt_unK t1 ok oo ?_
    intro h6 u1 u2
    have e6 := me_nil u2
    subst e6
    refine ⟨rfl, t1, t2, ?_⟩
    rcases t3 with t3 | ⟨⟨o1, o2, o3, o4, o5, o6, o7⟩, s1, s2, s3, s4, s5, s6⟩
    · exact Or.inl t3
    · refine Or.inr ⟨o1, o2, o3, o4, o5, o6, o7, ?_, s2, s4, by omega, fun e => absurd e c1, fun _ => ?_⟩
      · rw [s3, wk_ul_sS, s1, i10]
      · unfold wk_pf
        dsimp only
        rw [if_pos rfl, if_neg c1, if_neg c2]
        exact s6
  · intro b c1 c2 c3 c4
    have eμ : μ = 0 := by clear r0 r1 r2; omega
    have hh := i6 eμ
    have bt := me_fb (c := 14011) i1 rfl
    refine ⟨by omega, fun h1 g1 g2 => ?_⟩
    have e3 := me_nil g2
    subst e3
    refine ⟨_, me_has i1 (by omega) (by omega), ?_⟩
    intro w h3 hw3 hq
    obtain ⟨q1, rfl, z, rfl, z1, z2⟩ := hq
    refine mt_unG q1 ok oo (hw3 _ rfl) ?_ ?_
    · intro c5 h4 g4 g5
      exact un208 hi hu ht c2 oo (by decide) (by decide) (fun e => by omega) (fun e => by omega) (fun e => by omega) g4 (Fnil g5)
    · intro c5 h4 g4 g5
      exact un208 hi hu ht c2 oo (by decide) (by decide) (fun e => by omega) (fun e => by omega) (fun e => by omega) g4 (Fnil g5)
  · intro b1 b2 c1 c2 c3 c4
    have eμ : μ = 2 := by omega
    obtain ⟨⟨k1, k2, k3, k4⟩, k5⟩ := r2 eμ c2
    rw [eμ] at i11
    rw [en2] at k4 i11
    rw [eV2, en2] at k2 k3
    have ev := conv _ k2 k3
    refine ⟨by omega, fun h1 g1 g2 => ?_⟩
    rw [ev]
    refine un208 hi hu ht c2 oo k2 k3 (fun _ => ⟨by rw [eV2, en2], k1⟩) (fun _ => by rw [en2]; omega) (fun _ hp => k5 (by rw [eV2, en2]; exact hp)) g1 (Fnil g2)
  · intro b1 b2 c1 c2 c3 c4
    refine ⟨by omega, fun h1 g1 g2 => ?_⟩
    have e3 := me_nil g2
    subst e3
    refine ⟨_, me_draw g1 (by decide) (by decide), ?_⟩
    intro w h3 hw3 hq
    obtain ⟨q1, q2, z, rfl, z1, z2⟩ := hq
    refine mt_unF q1 ok oo (hw3 _ rfl) ?_
    intro h4 g4 g5
    exact un208 hi hu ht c2 oo z1 (by omega) (fun e => by omega) (fun e => by omega) (fun e => by omega) g4 (q2.trans (g5.wide (fun c hc => by cases hc)))
  · intro b1 b2 c1 c2 c3 c4
    refine ⟨by omega, fun h1 g1 g2 => ?_⟩
    exact un208 hi hu ht c2 oo (by decide) (by decide) (fun e => by omega) (fun e => by omega) (fun e => by omega) g1 (Fnil g2)
  · intro b1 c1 c2 c3
    refine ⟨by omega, fun h1 g1 g2 => ?_⟩
    exact un83 hi hu0 hu1 ht c1 oo (by decide) (by decide) (fun _ => rfl) (fun e => by omega) (fun e => by omega) g1 (Fnil g2)
  · intro b1 b2 c1 c2 c3
    have eμ : μ = 2 := by omega
    obtain ⟨k1, k2, k3, k4⟩ := r1 eμ c1
    rw [eμ] at i11
    rw [en2] at k4 i11
    rw [eV2, en2] at k2 k3
    have ev := conv _ k2 k3
    refine ⟨by omega, fun h1 g1 g2 => ?_⟩
    rw [ev]
    exact un83 hi hu0 hu1 ht c1 oo k2 k3 (fun e => by omega) (fun _ => ⟨by rw [eV2, en2], k1⟩) (fun _ => by rw [en2]; omega) g1 (Fnil g2)
  · intro b1 b2 c1 c2 c3
    refine ⟨by omega, fun h1 g1 g2 => ?_⟩
    have e3 := me_nil g2
    subst e3
    refine ⟨_, me_draw g1 (by decide) (by decide), ?_⟩
    intro w h3 hw3 hq
    obtain ⟨q1, q2, z, rfl, z1, z2⟩ := hq
    refine mt_unC q1 ok oo (hw3 _ rfl) ?_
    intro h4 g4 g5
    exact un83 hi hu0 hu1 ht c1 oo z1 (by omega) (fun e => by omega) (fun e => by omega) (fun e => by omega) g4 (q2.trans (g5.wide (fun c hc => by cases hc)))
  · intro b1 b2 c1 c2 c3
    refine ⟨by omega, fun h1 g1 g2 => ?_⟩
    exact un83 hi hu0 hu1 ht c1 oo (by decide) (by decide) (fun e => rfl) (fun e => by omega) (fun e => by omega) g1 (Fnil g2)
end UNJ
