/-! single -/
/-- nothing was written -/
theorem me_nil {h h1 : sm_H} (hF : ab_Fr [] h h1) : h1 = h := by
  refine List.ext_getElem? (fun k => ?_)
  cases hk : h[k]? with
  | none =>
    have hl := List.getElem?_eq_none_iff.mp hk
    exact List.getElem?_eq_none_iff.mpr (by rw [hF.1]; exact hl)
  | some e =>
    have := hF.2.2 k e hk
    rcases e with x | ⟨ci, fs⟩
    · exact this rfl
    · obtain ⟨fs', e1, e2⟩ := this
      have : fs' = fs := List.ext_getElem? (fun f => e2 f rfl)
      rw [e1, this]
/-- what the steps of the walk ask for -/
def wk_in (μ : Int) (h : sm_H) : Prop := ab_Sh sx_sk h ∧ mi_f h 14028 = μ ∧ (μ = 0 ∨ μ = 1 ∨ μ = 2) ∧ mi_f h 14044 = 0 ∧ mi_f h 14034 < 0 ∧ wk_tok μ h ∧ 0 ≤ mi_f h 14029 ∧ 0 ≤ mi_f h 14032 ∧ mi_f h 14032 ≤ 12 ∧ wk_ul (wk_stk h) = mi_f h 14032 ∧ 0 ≤ wk_n μ h
def wk_us (h : sm_H) (u : Int) : Prop := 0 ≤ u ∧ u < 60 ∧ (mi_a h 119 u.toNat = 9 → 0 ≤ mi_a h 120 u.toNat ∧ mi_a h 120 u.toNat < 26 ∧ 0 ≤ mi_a h 115 (mi_a h 120 u.toNat).toNat ∧ mi_a h 115 (mi_a h 120 u.toNat).toNat < 10) ∧ (mi_a h 119 u.toNat = 8 → 0 ≤ mi_a h 120 u.toNat ∧ mi_a h 120 u.toNat < 20)
/-- .. and what they leave -/
def wk_out2 (μ : Int) (h h' : sm_H) : Prop := mi_f h' 14028 = μ ∧ mi_f h' 14044 = 0 ∧ mi_f h' 14034 < 0 ∧ wk_tok μ h' ∧ wk_n μ h ≤ wk_n μ h' ∧ wk_ag μ (wk_n μ h) h h' ∧ (μ = 2 → mi_f h' 14016 = mi_f h 14016)
def sg_Q (μ : Int) (zu : Int) (h : sm_H) (w : Option mi_V) (h' : sm_H) : Prop := w = none ∧ ab_Sh sx_sk h' ∧ ab_Fr wr_W1 h h' ∧ ((mi_f h' 14044 = 1 ∨ (μ = 0 ∧ 0 ≤ mi_f h' 14034)) ∨ (wk_out2 μ h h' ∧ mi_f h' 14032 = wk_sl (mi_a h) zu (mi_f h 14032) ∧ mi_f h' 14032 ≤ 12 ∧ wk_stk h' = wk_sS (mi_a h) zu (wk_stk h) ∧ mi_f h 14029 ≤ mi_f h' 14029 ∧ mi_f h' 14029 ≤ mi_f h 14029 + 2 ∧ wk_sg (mi_a h) (wk_K μ h') zu (wk_stk h) (wk_n μ h).toNat = some (wk_stk h', (wk_n μ h').toNat)))
section SIN
variable {h : sm_H} {d : Nat} {zu μ : Int}
theorem wk_K2 {h h' : sm_H} (hF : ab_Fr wr_W1 h h') (hS : ab_Sh sx_sk h) (k : Nat) : wk_K 2 h' k = wk_K 2 h k := by
  unfold wk_K
  rw [if_pos rfl, if_pos rfl]
  exact me_a (k := 155) hF hS rfl rfl
/-- a leaf -/
theorem sg_leaf {h h' : sm_H} {wr : List (Nat × Nat)} (hi : wk_in μ h) (hu : wk_us h zu) (hS' : ab_Sh sx_sk h') (hF : ab_Fr wr h h') (hw : ab_sub_wr wr wr_W1 = true) (hw2 : (ab_in wr 14029 || ab_in wr 21120 || ab_in wr 21248 || ab_in wr 21376 || ab_in wr 14032) = false) (h2 : μ = 2 → ∃ s', wk_sg (mi_a h) (wk_K 2 h) zu (wk_stk h) (wk_n 2 h).toNat = some s') (hp : mi_f h' 14044 = 0) (hr : mi_f h' 14034 < 0) (ht : wk_tok μ h') (hs : mi_a h 119 zu.toNat = 1 ∨ mi_a h 119 zu.toNat = 2 ∨ mi_a h 119 zu.toNat = 8) (hmk : μ = 2 → mi_f h' 14016 = mi_f h 14016) (hl : wk_leaf μ (mi_a h 119 zu.toNat) h h') : sg_Q μ zu h none h' := by
  obtain ⟨i1, i2, i3, i4, i5, i6, i7, i8, i9, i10, i11⟩ := hi
  have hF1 := hF.wide (fun c hc => ab_swr_ok hw hc)
  simp only [Bool.or_eq_false_iff] at hw2
  have e32 : mi_f h' 14032 = mi_f h 14032 := me_f (c := 14032) hF i1 rfl hw2.2
  have e29 : mi_f h' 14029 = mi_f h 14029 := me_f (c := 14029) hF i1 rfl hw2.1.1.1.1
  have est : wk_stk h' = wk_stk h := wk_stk_fr hF i1 (by simp only [Bool.or_eq_false_iff]; exact hw2.1)
  have e28 : mi_f h' 14028 = mi_f h 14028 := me_f (c := 14028) hF1 i1 rfl rfl
  have n9 : ¬ mi_a h 119 zu.toNat = 9 := by omega
  have n10 : ¬ mi_a h 119 zu.toNat = 10 := by omega
  have eS : wk_sS (mi_a h) zu (wk_stk h) = wk_stk h := by unfold wk_sS; rw [if_neg n9, if_neg n10]
  have eL : wk_sl (mi_a h) zu (mi_f h 14032) = mi_f h 14032 := by unfold wk_sl; rw [if_neg n9]
  refine ⟨rfl, hS', hF1, Or.inr ⟨⟨e28.trans i2, hp, hr, ht, ?_, ?_, hmk⟩, by rw [eL]; exact e32, by omega, by rw [eS]; exact est, by omega, by omega, ?_⟩⟩
  · rcases hl with hl | hl | hl <;> omega
  · rcases hl with hl | hl | hl
    · exact hl.2.2.1
    · exact hl.2.2.1
    · exact hl.2.2
  · unfold wk_sg
    rw [if_neg n9, est]
    rcases hl with ⟨k1, k2, k3, k4⟩ | ⟨k1, k2, k3, k4⟩ | ⟨k1, k2, k3⟩
    · have hK : wk_K μ h' (wk_n μ h).toNat = 2 := by
        by_cases e : μ = 2
        · subst e
          rw [wk_K2 hF1 i1]
          obtain ⟨s', hs'⟩ := h2 rfl
          unfold wk_sg at hs'
          rw [if_neg n9, if_pos k1] at hs'
          split at hs'
          · next hk => exact hk
          · cases hs'
        · exact k4 e
      have e1 : (wk_n μ h').toNat = (wk_n μ h).toNat + 1 := by omega
      rw [if_pos k1, if_pos hK, e1]
    · have n1 : ¬ mi_a h 119 zu.toNat = 1 := by omega
      have hK : wk_K μ h' (wk_n μ h).toNat = 3 := by
        by_cases e : μ = 2
        · subst e
          rw [wk_K2 hF1 i1]
          obtain ⟨s', hs'⟩ := h2 rfl
          unfold wk_sg at hs'
          rw [if_neg n9, if_neg n1, if_pos k1] at hs'
          split at hs'
          · next hk => exact hk
          · cases hs'
        · exact k4 e
      have e1 : (wk_n μ h').toNat = (wk_n μ h).toNat + 1 := by omega
      rw [if_neg n1, if_pos k1, if_pos hK, e1]
    · have n1 : ¬ mi_a h 119 zu.toNat = 1 := by omega
      have n2 : ¬ mi_a h 119 zu.toNat = 2 := by omega
      rw [if_neg n1, if_neg n2, eS, k2]
theorem me_lay {zs : Int} (hS : ab_Sh sx_sk h) (ok : mi_in zs) : me_E d 222 0 [some (.inr (.inr 109)), some (.inl zs)] [] h (fun w h' => w = none ∧ ab_Sh sx_sk h' ∧ ab_Fr [(14036, 14037), (14045, 14047)] h h') := by
  have := me_abs (M := (2, 0, sb_222)) (as := [.inr (.inr 109), .inl zs]) xo_v_layout rfl hS ⟨rfl, me_nv1 ok ok.1 ok.2, trivial⟩ (fun e he => by cases he) (by decide)
  exact (me_E.deep (d' := d) this (Nat.zero_le _)).imp (fun w h' hq => ⟨by obtain ⟨-, -, p, -, hp, -⟩ := hq; unfold mi_res at hp; rw [if_pos rfl] at hp; exact hp, hq.1, hq.2.1⟩)
/-- nothing comes -/
theorem sg_void {h h' : sm_H} (hi : wk_in μ h) (hS' : ab_Sh sx_sk h') (hF : ab_Fr [(14036, 14037), (14045, 14047)] h h') (n1 : ¬ mi_a h 119 zu.toNat = 1) (n2 : ¬ mi_a h 119 zu.toNat = 2) (n9 : ¬ mi_a h 119 zu.toNat = 9) (n10 : ¬ mi_a h 119 zu.toNat = 10) : sg_Q μ zu h none h' := by
  obtain ⟨i1, i2, i3, i4, i5, i6, i7, i8, i9, i10, i11⟩ := hi
  have hF1 : ab_Fr wr_W1 h h' := hF.wide (fun c hc => ab_swr_ok (by decide) hc)
  have est : wk_stk h' = wk_stk h := wk_stk_fr hF i1 rfl
  have eS : wk_sS (mi_a h) zu (wk_stk h) = wk_stk h := by unfold wk_sS; rw [if_neg n9, if_neg n10]
  have eL : wk_sl (mi_a h) zu (mi_f h 14032) = mi_f h 14032 := by unfold wk_sl; rw [if_neg n9]
  have hne : wk_ne μ h h' := wk_ne_fr hF i1 rfl
  have hn := wk_ne_n hne
  have e29 : mi_f h' 14029 = mi_f h 14029 := me_f (c := 14029) hF i1 rfl rfl
  have e32 : mi_f h' 14032 = mi_f h 14032 := me_f (c := 14032) hF i1 rfl rfl
  refine ⟨rfl, hS', hF1, Or.inr ⟨⟨(me_f (c := 14028) hF i1 rfl rfl).trans i2, (me_f (c := 14044) hF i1 rfl rfl).trans i4, by rw [me_f (c := 14034) hF i1 rfl rfl]; exact i5, fun e => ?_, by omega, hne.2.2, fun _ => hne.2.1⟩, by rw [eL]; exact e32, by omega, by rw [eS]; exact est, by omega, by omega, ?_⟩⟩
  · rw [hne.1, me_f (c := 14011) hF i1 rfl rfl, me_a (k := 152) hF i1 rfl rfl]
    exact i6 e
  · unfold wk_sg
    rw [if_neg n9, if_neg n1, if_neg n2, eS, est, hn]
theorem sg_n2 (h2 : ∃ s', wk_sg (mi_a h) (wk_K 2 h) zu (wk_stk h) (wk_n 2 h).toNat = some s' ∧ s'.2 ≤ 100) (hs : mi_a h 119 zu.toNat = 1 ∨ mi_a h 119 zu.toNat = 2) : (wk_n 2 h).toNat < 100 := by
  obtain ⟨s', hs', hle⟩ := h2
  unfold wk_sg at hs'
  rw [if_neg (by omega)] at hs'
  rcases hs with k | k
  · rw [if_pos k] at hs'
    split at hs'
    · cases hs'; exact hle
    · cases hs'
  · rw [if_neg (by omega), if_pos k] at hs'
    split at hs'
    · cases hs'; exact hle
    · cases hs'
/-- the calls of single -/
theorem sg_shown (hi : wk_in μ h) (hu : wk_us h zu) (e2 : μ = 2) (h2 : μ = 2 → ∃ s', wk_sg (mi_a h) (wk_K 2 h) zu (wk_stk h) (wk_n 2 h).toNat = some s' ∧ s'.2 ≤ 100) (hs : mi_a h 119 zu.toNat = 1 ∨ mi_a h 119 zu.toNat = 2 ∨ mi_a h 119 zu.toNat = 8) : ∃ Q1, me_E (d + 4) 217 0 [some (.inr (.inr 109)), some (.inl zu), none, none, none, none, none] [] h Q1 ∧ ∀ w h', (∀ x, w = some x → mi_ok x) → Q1 w h' → me_E (d + 5) 213 129 [some (.inr (.inr 109)), some (.inl zu)] (mi_back w []) h' (sg_Q μ zu h) := by
  have ok : mi_in zu := ⟨by have := hu.1; omega, by have := hu.2.1; omega⟩
  have en : wk_n 2 h = mi_f h 14033 := by unfold wk_n; rw [if_pos rfl]
  have i11 := hi.2.2.2.2.2.2.2.2.2.2
  refine ⟨_, me_shown hi.1 hu.1 hu.2.1 hs hu.2.2.2 (fun n8 => ?_), ?_⟩
  · have := sg_n2 (h2 e2) (by omega)
    rw [e2] at i11
    rw [en] at this i11
    omega
  · intro w h' hw hq
    obtain ⟨rfl, q1, q2, q3⟩ := hq
    refine mt_sr129 q1 ok ?_
    intro h3 r1 r2
    have e3 := me_nil r2
    subst e3
    have b44 := me_fb (c := 14044) q1 rfl
    by_cases hp : mi_f h3 14044 = 1
    · exact ⟨rfl, q1, q2.wide (fun c hc => ab_swr_ok (by decide) hc), Or.inl (Or.inl hp)⟩
    · refine sg_leaf hi hu q1 q2 (by decide) rfl (fun e => by obtain ⟨s', a, -⟩ := h2 e; exact ⟨s', a⟩) (by omega) (by rw [me_f (c := 14034) q2 hi.1 rfl rfl]; exact hi.2.2.2.2.1) (fun e => by omega) hs (fun _ => me_f (c := 14016) q2 hi.1 rfl rfl) ?_
      have hag : wk_ag μ (wk_n μ h) h h3 := by rw [e2]; exact wk_ag_fr (q2.wide (fun c hc => ab_swr_ok (wr' := wr_sh) (by decide) hc)) hi.1 rfl
      have en3 : wk_n 2 h3 = mi_f h3 14033 := by unfold wk_n; rw [if_pos rfl]
      rcases hs with k | k | k
      · rw [if_neg (by omega)] at q3
        exact Or.inl ⟨k, by rw [e2, en, en3]; exact q3, hag, fun e => absurd e2 e⟩
      · rw [if_neg (by omega)] at q3
        exact Or.inr (Or.inl ⟨k, by rw [e2, en, en3]; exact q3, hag, fun e => absurd e2 e⟩)
      · rw [if_pos k] at q3
        exact Or.inr (Or.inr ⟨k, by rw [e2, en, en3]; exact q3, hag⟩)
theorem sg_grown (hi : wk_in μ h) (hu : wk_us h zu) (e1 : μ = 1) (hs : mi_a h 119 zu.toNat = 1 ∨ mi_a h 119 zu.toNat = 2 ∨ mi_a h 119 zu.toNat = 8) : ∃ Q1, me_E (d + 4) 215 0 [some (.inr (.inr 109)), some (.inl zu), none, none, none, none] [] h Q1 ∧ ∀ w h', (∀ x, w = some x → mi_ok x) → Q1 w h' → me_E (d + 5) 213 121 [some (.inr (.inr 109)), some (.inl zu)] (mi_back w []) h' (sg_Q μ zu h) := by
  have ok : mi_in zu := ⟨by have := hu.1; omega, by have := hu.2.1; omega⟩
  refine ⟨_, me_grown (d := d + 3) hi.1 (by rw [hi.2.1]; exact e1) hu.1 hu.2.1 hs hi.2.2.2.1, ?_⟩
  intro w h' hw hq
  obtain ⟨rfl, q1, q2, q3, q4, q5⟩ := hq
  refine mt_sr121 q1 ok ?_
  intro h3 r1 r2
  have e3 := me_nil r2
  subst e3
  rcases q5 with q5 | ⟨q5, q6⟩
  · exact ⟨rfl, q1, q2.wide (fun c hc => ab_swr_ok (by decide) hc), Or.inl (Or.inl q5)⟩
  · subst e1
    exact sg_leaf hi hu q1 q2 (by decide) rfl (fun e => absurd e (by decide)) q5 (by rw [q3]; exact hi.2.2.2.2.1) (fun e => absurd e (by decide)) hs (fun e => absurd e (by decide)) q6
theorem sg_match (hi : wk_in μ h) (hu : wk_us h zu) (e0 : μ = 0) (hs : mi_a h 119 zu.toNat = 1 ∨ mi_a h 119 zu.toNat = 2 ∨ mi_a h 119 zu.toNat = 8) : ∃ Q1, me_E (d + 4) 214 0 [some (.inr (.inr 109)), some (.inl zu), none] [] h Q1 ∧ ∀ w h', (∀ x, w = some x → mi_ok x) → Q1 w h' → me_E (d + 5) 213 105 [some (.inr (.inr 109)), some (.inl zu)] (mi_back w []) h' (sg_Q μ zu h) := by
  have ok : mi_in zu := ⟨by have := hu.1; omega, by have := hu.2.1; omega⟩
  subst e0
  refine ⟨_, me_match (d := d + 3) hi.1 hi.2.1 hu.1 hu.2.1 hs hu.2.2.2 hi.2.2.2.2.2.1 hi.2.2.2.1 hi.2.2.2.2.1, ?_⟩
  intro w h' hw hq
  obtain ⟨rfl, q1, q2, q3⟩ := hq
  refine mt_sr105 q1 ok ?_
  intro h3 r1 r2
  have e3 := me_nil r2
  subst e3
  rcases q3 with q3 | ⟨q3, q4, q5, q6⟩
  · exact ⟨rfl, q1, q2.wide (fun c hc => ab_swr_ok (by decide) hc), Or.inl (q3.imp_right (fun z => ⟨rfl, z⟩))⟩
  · exact sg_leaf hi hu q1 q2 (by decide) rfl (fun e => absurd e (by decide)) q3 q4 q5 hs (fun e => absurd e (by decide)) q6
theorem sg_lay (hi : wk_in μ h) (hu : wk_us h zu) (n1 : ¬ mi_a h 119 zu.toNat = 1) (n2 : ¬ mi_a h 119 zu.toNat = 2) (n9 : ¬ mi_a h 119 zu.toNat = 9) (n10 : ¬ mi_a h 119 zu.toNat = 10) : ∃ Q1, me_E (d + 4) 222 0 [some (.inr (.inr 109)), some (.inl (mi_a h 119 zu.toNat))] [] h Q1 ∧ ∀ w h', (∀ x, w = some x → mi_ok x) → Q1 w h' → me_E (d + 5) 213 142 [some (.inr (.inr 109)), some (.inl zu)] (mi_back w []) h' (sg_Q μ zu h) := by
  have ok : mi_in zu := ⟨by have := hu.1; omega, by have := hu.2.1; omega⟩
  refine ⟨_, me_lay hi.1 (mi_inT _), ?_⟩
  intro w h' hw hq
  obtain ⟨rfl, q1, q2⟩ := hq
  refine mt_sr142 q1 ok ?_
  intro h3 r1 r2
  have e3 := me_nil r2
  subst e3
  exact sg_void hi q1 q2 n1 n2 n9 n10
theorem sg_enter (hi : wk_in μ h) (hu : wk_us h zu) (ht : mi_f h 14029 ≤ 2990) (h2 : μ = 2 → ∃ s', wk_sg (mi_a h) (wk_K 2 h) zu (wk_stk h) (wk_n 2 h).toNat = some s' ∧ s'.2 ≤ 100) (h9 : mi_a h 119 zu.toNat = 9) : ∃ Q1, me_E (d + 4) 207 0 [some (.inr (.inr 109)), some (.inl (mi_a h 115 (mi_a h 120 zu.toNat).toNat))] [] h Q1 ∧ ∀ w h', (∀ x, w = some x → mi_ok x) → Q1 w h' → me_E (d + 5) 213 75 [some (.inr (.inr 109)), some (.inl zu)] (mi_back w []) h' (sg_Q μ zu h) := by
  have ok : mi_in zu := ⟨by have := hu.1; omega, by have := hu.2.1; omega⟩
  obtain ⟨i1, i2, i3, i4, i5, i6, i7, i8, i9, i10, i11⟩ := id hi
  obtain ⟨u1, u2, u3, u4⟩ := hu.2.2.1 h9
  have h2' : μ = 2 → wk_K 2 h (wk_n 2 h).toNat = 1 ∧ mi_f h 14032 < 12 ∧ (wk_n 2 h).toNat < 100 := fun e => by
    obtain ⟨s', hs', hle⟩ := h2 e
    unfold wk_sg at hs'
    rw [if_pos h9] at hs'
    split at hs'
    · next hk =>
      cases hs'
      rw [i10] at hk
      exact ⟨hk.1, hk.2, hle⟩
    · cases hs'
  have en : wk_n 2 h = mi_f h 14033 := by unfold wk_n; rw [if_pos rfl]
  refine ⟨_, me_enter (d := d + 2) μ i1 i2 u3 u4 i7 ht i8 i9 (fun e => ⟨(h2' e).2.1, ?_⟩), ?_⟩
  · have := (h2' e).2.2
    rw [en] at this
    omega
  · intro w h' hw hq
    obtain ⟨rfl, q1, q2, q3, q4⟩ := hq
    refine mt_sr75 q1 ok ?_
    intro h3 r1 r2
    have e3 := me_nil r2
    subst e3
    rcases q4 with q4 | ⟨q4, q5, q6, q7, q8, q9⟩
    · exact ⟨rfl, q1, q2, Or.inl (Or.inl q4)⟩
    · obtain ⟨v1, v2, v3, v4⟩ := q9
      have eS : wk_sS (mi_a h) zu (wk_stk h) = wk_stk h3 := by
        unfold wk_sS
        rw [if_pos h9, q8]
        rfl
      have eL : wk_sl (mi_a h) zu (mi_f h 14032) = mi_f h 14032 + 1 := by unfold wk_sl; rw [if_pos h9]
      refine ⟨rfl, q1, q2, Or.inr ⟨⟨(me_f (c := 14028) q2 i1 rfl rfl).trans i2, q4, by rw [q3]; exact i5, fun e => ?_, by omega, v2, v4⟩, by rw [eL]; exact q6, by omega, eS.symm, by omega, by omega, ?_⟩⟩
      · have e33 := (v3 (by omega)).2.2
        rw [e33, me_f (c := 14011) q2 i1 rfl rfl, me_a (k := 152) q2 i1 rfl rfl]
        exact i6 e
      · have hK : wk_K μ h3 (wk_n μ h).toNat = 1 := by
          by_cases e : μ = 2
          · subst e
            rw [wk_K2 q2 i1]
            exact (h2' rfl).1
          · exact (v3 e).1
        have e1 : (wk_n μ h3).toNat = (wk_n μ h).toNat + 1 := by omega
        unfold wk_sg
        rw [if_pos h9, if_pos ⟨hK, by rw [i10]; exact q5⟩, eS, e1]
theorem me_single (hi : wk_in μ h) (hu : wk_us h zu) (ht : mi_f h 14029 ≤ 2990) (h2 : μ = 2 → ∃ s', wk_sg (mi_a h) (wk_K 2 h) zu (wk_stk h) (wk_n 2 h).toNat = some s' ∧ s'.2 ≤ 100) : me_E (d + 5) 213 0 [some (.inr (.inr 109)), some (.inl zu)] [] h (sg_Q μ zu h) := by
  obtain ⟨i1, i2, i3, i4, i5, i6, i7, i8, i9, i10, i11⟩ := id hi
  have hu0 := hu.1
  have hu1 := hu.2.1
  have ok : mi_in zu := ⟨by omega, by omega⟩
  have b119 := me_ab (k := 119) (i := zu.toNat) i1 rfl (by decide) (by omega)
  refine mt_sg i1 ok ?_ ?_ ?_ ?_ ?_ ?_ ?_ ?_ ?_ ?_ ?_ ?_ ?_ ?_ ?_ ?_ ?_
  · intro b c1 c2 c3
    refine ⟨by omega, fun h1 g1 g2 => ?_⟩
    have e3 := me_nil g2
    subst e3
    exact sg_shown hi hu (by clear h2; omega) h2 (by clear h2; omega)
  · intro b c1 c2 c3
    refine ⟨by omega, fun h1 g1 g2 => ?_⟩
    have e3 := me_nil g2
    subst e3
    exact sg_grown hi hu (by omega) (by omega)
  · intro b c1 c2
    refine ⟨by omega, fun h1 g1 g2 => ?_⟩
    have e3 := me_nil g2
    subst e3
    exact sg_match hi hu (by omega) (by omega)
  · intro b c1 c2 c3
    refine ⟨by omega, fun h1 g1 g2 => ?_⟩
    have e3 := me_nil g2
    subst e3
    exact sg_shown hi hu (by clear h2; omega) h2 (by clear h2; omega)
  · intro b c1 c2 c3
    refine ⟨by omega, fun h1 g1 g2 => ?_⟩
    have e3 := me_nil g2
    subst e3
    exact sg_grown hi hu (by omega) (by omega)
  · intro b c1 c2
    refine ⟨by omega, fun h1 g1 g2 => ?_⟩
    have e3 := me_nil g2
    subst e3
    exact sg_match hi hu (by omega) (by omega)
  · intro c1
    refine ⟨by omega, fun h1 g1 g2 => ?_⟩
    have e3 := me_nil g2
    subst e3
    exact sg_lay hi hu (by omega) (by omega) (by omega) (by omega)
  · intro c1
    refine ⟨by omega, fun h1 g1 g2 => ?_⟩
    have e3 := me_nil g2
    subst e3
    exact sg_lay hi hu (by omega) (by omega) (by omega) (by omega)
  · intro c1
    refine ⟨by omega, fun h1 g1 g2 => ?_⟩
    have e3 := me_nil g2
    subst e3
    exact sg_lay hi hu (by omega) (by omega) (by omega) (by omega)
  · intro c1
    refine ⟨by omega, fun h1 g1 g2 => ?_⟩
    have e3 := me_nil g2
    subst e3
    exact sg_lay hi hu (by omega) (by omega) (by omega) (by omega)
  · intro c1
    refine ⟨by omega, fun h1 g1 g2 => ?_⟩
    have e3 := me_nil g2
    subst e3
    exact sg_lay hi hu (by omega) (by omega) (by omega) (by omega)
  · intro b c1 c2 c3
    refine ⟨by omega, fun h1 g1 g2 => ?_⟩
    have e3 := me_nil g2
    subst e3
    exact sg_shown hi hu (by clear h2; omega) h2 (by clear h2; omega)
  · intro b c1 c2 c3
    refine ⟨by omega, fun h1 g1 g2 => ?_⟩
    have e3 := me_nil g2
    subst e3
    exact sg_grown hi hu (by omega) (by omega)
  · intro b c1 c2
    refine ⟨by omega, fun h1 g1 g2 => ?_⟩
    have e3 := me_nil g2
    subst e3
    exact sg_match hi hu (by omega) (by omega)
  · intro c1
    have u := hu.2.2.1 (by omega)
    refine ⟨by omega, fun h1 g1 g2 => ?_⟩
    have e3 := me_nil g2
    subst e3
    exact sg_enter hi hu ht h2 (by omega)
  · intro b c1
    refine ⟨by omega, fun h1 g1 g2 a5 a6 a7 g3 => ?_⟩
    have h10 : mi_a h 119 zu.toNat = 10 := by omega
    have n9 : ¬ mi_a h 119 zu.toNat = 9 := by omega
    have est := wk_push1 i7 g2 a5 a6 a7
    have eS : wk_sS (mi_a h) zu (wk_stk h) = wk_stk h1 := by unfold wk_sS; rw [if_neg n9, if_pos h10]; exact est.symm
    have eL : wk_sl (mi_a h) zu (mi_f h 14032) = mi_f h 14032 := by unfold wk_sl; rw [if_neg n9]
    have hne : wk_ne μ h h1 := wk_ne_fr g3 i1 rfl
    have hn := wk_ne_n hne
    have e32 : mi_f h1 14032 = mi_f h 14032 := me_f (c := 14032) g3 i1 rfl rfl
    refine ⟨rfl, g1, g3.wide (fun c hc => ab_swr_ok (by decide) hc), Or.inr ⟨⟨(me_f (c := 14028) g3 i1 rfl rfl).trans i2, (me_f (c := 14044) g3 i1 rfl rfl).trans i4, by rw [me_f (c := 14034) g3 i1 rfl rfl]; exact i5, fun e => ?_, by omega, hne.2.2, fun _ => hne.2.1⟩, by rw [eL]; exact e32, by omega, eS.symm, by omega, by omega, ?_⟩⟩
    · rw [hne.1, me_f (c := 14011) g3 i1 rfl rfl, me_a (k := 152) g3 i1 rfl rfl]
      exact i6 e
    · have n1 : ¬ mi_a h 119 zu.toNat = 1 := by omega
      have n2 : ¬ mi_a h 119 zu.toNat = 2 := by omega
      unfold wk_sg
      rw [if_neg n9, if_neg n1, if_neg n2, eS, hn]
  · intro c1
    refine ⟨by omega, fun h1 g1 g2 => ?_⟩
    have e3 := me_nil g2
    subst e3
    exact sg_lay hi hu (by omega) (by omega) (by omega) (by omega)
end SIN
