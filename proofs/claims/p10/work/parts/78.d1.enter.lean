/-! THE WALK'S MACHINE: what lies on the stack -/
def wk_st (h : sm_H) : Nat → List wk_E
  | 0 => []
  | n + 1 => (mi_a h 165 n, mi_a h 166 n, mi_a h 167 n) :: wk_st h n
def wk_stk (h : sm_H) : List wk_E := wk_st h (mi_f h 14029).toNat
theorem wk_st_len (h : sm_H) : ∀ n, (wk_st h n).length = n := by
  intro n
  induction n with
  | zero => rfl
  | succ n ih => unfold wk_st; rw [List.length_cons, ih]
theorem wk_stk_len {h : sm_H} (h0 : 0 ≤ mi_f h 14029) : ((wk_stk h).length : Int) = mi_f h 14029 := by
  unfold wk_stk
  rw [wk_st_len]
  omega
theorem wk_st_eq {h h' : sm_H} : ∀ n, (∀ i, i < n → mi_a h' 165 i = mi_a h 165 i ∧ mi_a h' 166 i = mi_a h 166 i ∧ mi_a h' 167 i = mi_a h 167 i) → wk_st h' n = wk_st h n := by
  intro n
  induction n with
  | zero => intro _; rfl
  | succ n ih =>
    intro hi
    unfold wk_st
    obtain ⟨e1, e2, e3⟩ := hi n (Nat.lt_succ_self n)
    rw [ih (fun i h => hi i (Nat.lt_succ_of_lt h)), e1, e2, e3]
section WKP
variable {h h' : sm_H} {z0 z1 z2 y0 y1 y2 : Int}
theorem wk_push1 (t0 : 0 ≤ mi_f h 14029) (ht : mi_f h' 14029 = mi_f h 14029 + 1) (a5 : ∀ i, mi_a h' 165 i = if i = Int.toNat (mi_f h 14029) then z0 else mi_a h 165 i) (a6 : ∀ i, mi_a h' 166 i = if i = Int.toNat (mi_f h 14029) then z1 else mi_a h 166 i) (a7 : ∀ i, mi_a h' 167 i = if i = Int.toNat (mi_f h 14029) then z2 else mi_a h 167 i) : wk_stk h' = (z0, z1, z2) :: wk_stk h := by
  unfold wk_stk
  have e : (mi_f h' 14029).toNat = (mi_f h 14029).toNat + 1 := by rw [ht]; omega
  rw [e]
  show (mi_a h' 165 _, mi_a h' 166 _, mi_a h' 167 _) :: wk_st h' _ = _
  rw [a5, a6, a7, if_pos rfl, if_pos rfl, if_pos rfl]
  refine congrArg _ (wk_st_eq _ (fun i hi => ?_))
  have ne : ¬ i = (mi_f h 14029).toNat := by omega
  rw [a5, a6, a7, if_neg ne, if_neg ne, if_neg ne]
  exact ⟨rfl, rfl, rfl⟩
theorem wk_push2 (t0 : 0 ≤ mi_f h 14029) (ht : mi_f h' 14029 = mi_f h 14029 + 1 + 1) (a5 : ∀ i, mi_a h' 165 i = if i = Int.toNat (mi_f h 14029 + 1) then y0 else if i = Int.toNat (mi_f h 14029) then z0 else mi_a h 165 i) (a6 : ∀ i, mi_a h' 166 i = if i = Int.toNat (mi_f h 14029 + 1) then y1 else if i = Int.toNat (mi_f h 14029) then z1 else mi_a h 166 i) (a7 : ∀ i, mi_a h' 167 i = if i = Int.toNat (mi_f h 14029 + 1) then y2 else if i = Int.toNat (mi_f h 14029) then z2 else mi_a h 167 i) : wk_stk h' = (y0, y1, y2) :: (z0, z1, z2) :: wk_stk h := by
  unfold wk_stk
  have e : (mi_f h' 14029).toNat = (mi_f h 14029).toNat + 1 + 1 := by rw [ht]; omega
  have e1 : (mi_f h 14029 + 1).toNat = (mi_f h 14029).toNat + 1 := by omega
  rw [e]
  show (mi_a h' 165 _, mi_a h' 166 _, mi_a h' 167 _) :: (mi_a h' 165 _, mi_a h' 166 _, mi_a h' 167 _) :: wk_st h' _ = _
  have n1 : ¬ (mi_f h 14029).toNat = (mi_f h 14029).toNat + 1 := by omega
  rw [a5 ((mi_f h 14029).toNat + 1), a6 ((mi_f h 14029).toNat + 1), a7 ((mi_f h 14029).toNat + 1), a5 (mi_f h 14029).toNat, a6 (mi_f h 14029).toNat, a7 (mi_f h 14029).toNat, e1, if_pos rfl, if_pos rfl, if_pos rfl, if_neg n1, if_neg n1, if_neg n1, if_pos rfl, if_pos rfl, if_pos rfl]
  refine congrArg _ (congrArg _ (wk_st_eq _ (fun i hi => ?_)))
  have ne : ¬ i = (mi_f h 14029).toNat := by omega
  have ne1 : ¬ i = (mi_f h 14029 + 1).toNat := by omega
  rw [a5, a6, a7, if_neg ne, if_neg ne, if_neg ne, if_neg ne1, if_neg ne1, if_neg ne1]
  exact ⟨rfl, rfl, rfl⟩
/-- the same stack -/
theorem wk_stk_fr {wr : List (Nat × Nat)} (hF : ab_Fr wr h h') (hS : ab_Sh sx_sk h) (hw : (ab_in wr 14029 || ab_in wr 21120 || ab_in wr 21248 || ab_in wr 21376) = false) : wk_stk h' = wk_stk h := by
  simp only [Bool.or_eq_false_iff] at hw
  unfold wk_stk
  rw [me_f (c := 14029) hF hS rfl hw.1.1.1]
  exact wk_st_eq _ (fun i _ => ⟨me_a (k := 165) hF hS rfl hw.1.1.2, me_a (k := 166) hF hS rfl hw.1.2, me_a (k := 167) hF hS rfl hw.2⟩)
end WKP
/-- how many nodes there are, their kinds and values, by the mode -/
def wk_n (μ : Int) (h : sm_H) : Int := if μ = 2 then mi_f h 14033 else mi_f h 14016
def wk_K (μ : Int) (h : sm_H) (k : Nat) : Int := if μ = 2 then mi_a h 155 k else mi_a h 158 k
def wk_V (μ : Int) (h : sm_H) (k : Nat) : Int := if μ = 2 then (mx_b h 162 k).toInt else (mx_b h 163 k).toInt
/-- nodes below n stay -/
def wk_ag (μ : Int) (n : Int) (h h' : sm_H) : Prop := ∀ i : Nat, (i : Int) < n → wk_K μ h' i = wk_K μ h i ∧ wk_V μ h' i = wk_V μ h i
/-- a node comes -/
def wk_ev (μ k v : Int) (h h' : sm_H) : Prop := wk_n μ h' = wk_n μ h + 1 ∧ wk_ag μ (wk_n μ h) h h' ∧ (μ ≠ 2 → wk_K μ h' (wk_n μ h).toNat = k ∧ wk_V μ h' (wk_n μ h).toNat = v ∧ mi_f h' 14033 = mi_f h 14033) ∧ (μ = 2 → mi_f h' 14016 = mi_f h 14016)
/-- no node comes -/
def wk_ne (μ : Int) (h h' : sm_H) : Prop := mi_f h' 14033 = mi_f h 14033 ∧ mi_f h' 14016 = mi_f h 14016 ∧ wk_ag μ (wk_n μ h) h h'
def wr_W1 : List (Nat × Nat) := [(14016, 14017), (14029, 14030), (14031, 14038), (14044, 14048), (18560, 18561), (20224, 20481), (20864, 20865), (21120, 21377), (21760, 21761)]
theorem wk_ne_n {μ : Int} {h h' : sm_H} (hn : wk_ne μ h h') : wk_n μ h' = wk_n μ h := by
  unfold wk_n
  rw [hn.1, hn.2.1]
theorem wk_ag_fr {μ n : Int} {h h' : sm_H} {wr : List (Nat × Nat)} (hF : ab_Fr wr h h') (hS : ab_Sh sx_sk h) (hw : (ab_in wr 19840 || ab_in wr 20224 || ab_in wr 20736 || ab_in wr 20864) = false) : wk_ag μ n h h' := by
  simp only [Bool.or_eq_false_iff] at hw
  intro i _
  unfold wk_K wk_V
  rw [me_a (k := 155) hF hS rfl hw.1.1.1, me_a (k := 158) hF hS rfl hw.1.1.2, me_b (k := 162) hF hS rfl hw.1.2, me_b (k := 163) hF hS rfl hw.2]
  exact ⟨rfl, rfl⟩
theorem wk_ne_fr {μ : Int} {h h' : sm_H} {wr : List (Nat × Nat)} (hF : ab_Fr wr h h') (hS : ab_Sh sx_sk h) (hw : (ab_in wr 14033 || ab_in wr 14016 || ab_in wr 19840 || ab_in wr 20224 || ab_in wr 20736 || ab_in wr 20864) = false) : wk_ne μ h h' := by
  have hw2 := hw
  simp only [Bool.or_eq_false_iff] at hw2
  refine ⟨me_f (c := 14033) hF hS rfl hw2.1.1.1.1.1, me_f (c := 14016) hF hS rfl hw2.1.1.1.1.2, wk_ag_fr hF hS ?_⟩
  simp only [Bool.or_eq_false_iff]
  exact ⟨⟨⟨hw2.1.1.1.2, hw2.1.1.2⟩, hw2.1.2⟩, hw2.2⟩
theorem wk_ag.trans {μ n n' : Int} {h h' h2 : sm_H} (a : wk_ag μ n h h') (b : wk_ag μ n' h' h2) (hn : n ≤ n') : wk_ag μ n h h2 := fun i hi => by
  obtain ⟨a1, a2⟩ := a i hi
  obtain ⟨b1, b2⟩ := b i (by omega)
  exact ⟨b1.trans a1, b2.trans a2⟩
/-- comes -/
theorem me_comes {h : sm_H} {d : Nat} {zk : Int} {zv : Int64} (μ : Int) (hS : ab_Sh sx_sk h) (ok_zk : mi_in zk) (hm : mi_f h 14028 = μ) (hn : μ = 2 → mi_f h 14033 ≤ 1000) : me_E d 208 0 [some (.inr (.inr 109)), some (.inl zk), some (.inr (.inl zv)), none] [] h (fun w h' => ab_Sh sx_sk h' ∧ ab_Fr [(14016, 14017), (14033, 14034), (14044, 14045), (20224, 20225), (20352, 20353), (20480, 20481), (20864, 20865)] h h' ∧ ((μ ≠ 2 ∧ mi_f h' 14044 = 1 ∧ w = some (.inl 0) ∧ mi_f h' 14033 = mi_f h 14033 ∧ mi_f h' 14016 = mi_f h 14016) ∨ ((μ = 2 → mi_f h' 14044 = mi_f h 14044) ∧ (μ ≠ 2 → mi_f h' 14044 = 0) ∧ wk_ev μ zk zv.toInt h h' ∧ w = some (.inl (wk_n μ h))))) := by
  refine mt_comes hS ok_zk ?_ ?_ ?_
  · intro b1 b2 c1 c2
    refine ⟨by omega, fun h1 g1 g2 g3 g4 g5 g6 g7 g8 => ?_⟩
    have hμ : μ ≠ 2 := by omega
    refine ⟨g1, g8.wide (fun c hc => ab_swr_ok (by decide) hc), Or.inr ⟨fun e => absurd e hμ, fun _ => g3, ⟨?_, ?_, fun _ => ⟨?_, ?_, ?_⟩, fun e => absurd e hμ⟩, ?_⟩⟩
    · unfold wk_n; rw [if_neg hμ, if_neg hμ]; exact g2
    · intro i hi
      unfold wk_n at hi
      rw [if_neg hμ] at hi
      have ne : ¬ i = Int.toNat (mi_f h 14016) := by omega
      unfold wk_K wk_V
      rw [if_neg hμ, if_neg hμ, if_neg hμ, if_neg hμ, g4, g7, if_neg ne, if_neg ne]
      exact ⟨rfl, rfl⟩
    · unfold wk_K wk_n; rw [if_neg hμ, if_neg hμ, g4, if_pos rfl]
    · unfold wk_V wk_n; rw [if_neg hμ, if_neg hμ, g7, if_pos rfl]
    · exact me_f (c := 14033) g8 hS rfl rfl
    · unfold wk_n; rw [if_neg hμ]
  · intro b1 b2 c1 c2 h1 g1 g2 g3
    have hμ : μ ≠ 2 := by omega
    exact ⟨g1, g3.wide (fun c hc => ab_swr_ok (by decide) hc), Or.inl ⟨hμ, g2, rfl, me_f (c := 14033) g3 hS rfl rfl, me_f (c := 14016) g3 hS rfl rfl⟩⟩
  · intro b1 b2 c1
    have hμ : μ = 2 := by omega
    have hn := hn hμ
    refine ⟨by omega, fun h1 g1 g2 g3 => ?_⟩
    refine ⟨g1, g3.wide (fun c hc => ab_swr_ok (by decide) hc), Or.inr ⟨fun _ => me_f (c := 14044) g3 hS rfl rfl, fun e => absurd hμ e, ⟨?_, wk_ag_fr g3 hS rfl, fun e => absurd hμ e, fun _ => me_f (c := 14016) g3 hS rfl rfl⟩, ?_⟩⟩
    · unfold wk_n; rw [if_pos hμ, if_pos hμ]; exact g2
    · unfold wk_n; rw [if_pos hμ]
/-- enter -/
theorem me_enter {h : sm_H} {d : Nat} {zr : Int} (μ : Int) (hS : ab_Sh sx_sk h) (hm : mi_f h 14028 = μ) (hr0 : 0 ≤ zr) (hr1 : zr < 10) (ht0 : 0 ≤ mi_f h 14029) (ht1 : mi_f h 14029 ≤ 2990) (hu0 : 0 ≤ mi_f h 14032) (hu1 : mi_f h 14032 ≤ 12) (hu2 : μ = 2 → mi_f h 14032 < 12 ∧ mi_f h 14033 ≤ 1000) : me_E (d + 2) 207 0 [some (.inr (.inr 109)), some (.inl zr)] [] h (fun w h' => w = none ∧ ab_Sh sx_sk h' ∧ ab_Fr wr_W1 h h' ∧ mi_f h' 14034 = mi_f h 14034 ∧ (mi_f h' 14044 = 1 ∨ (mi_f h' 14044 = 0 ∧ mi_f h 14032 < 12 ∧ mi_f h' 14032 = mi_f h 14032 + 1 ∧ mi_f h' 14029 = mi_f h 14029 + 2 ∧ wk_stk h' = (1, mi_a h 114 zr.toNat, 0) :: (2, 1, 0) :: wk_stk h ∧ wk_ev μ 1 zr h h'))) := by
  have ok : mi_in zr := ⟨by omega, by omega⟩
  have ez : ((Int32.ofInt zr).toInt64).toInt = zr := by rw [Int32.toInt_toInt64, mi_ti ok]
  have main : ∀ h1, mi_f h 14032 < 12 → ab_Sh sx_sk h1 → mi_f h1 14044 = 0 → ab_Fr [(14035, 14036), (14044, 14045)] h h1 → ∃ Q1, me_E (d + 1) 208 0 (mi_entry 4 [.inr (.inr 109), .inl (1 : Int), .inr (.inl (Int32.ofInt zr).toInt64)]) [] h1 Q1 ∧ ∀ w h2, (∀ x, w = some x → mi_ok x) → Q1 w h2 → me_E (d + 2) 207 51 [some (.inr (.inr 109)), some (.inl zr)] (mi_back w []) h2 (fun w h' => w = none ∧ ab_Sh sx_sk h' ∧ ab_Fr wr_W1 h h' ∧ mi_f h' 14034 = mi_f h 14034 ∧ (mi_f h' 14044 = 1 ∨ (mi_f h' 14044 = 0 ∧ mi_f h 14032 < 12 ∧ mi_f h' 14032 = mi_f h 14032 + 1 ∧ mi_f h' 14029 = mi_f h 14029 + 2 ∧ wk_stk h' = (1, mi_a h 114 zr.toNat, 0) :: (2, 1, 0) :: wk_stk h ∧ wk_ev μ 1 zr h h'))) := by
    intro h1 hlt g1 g2 g3
    have f28 : mi_f h1 14028 = mi_f h 14028 := me_f (c := 14028) g3 hS rfl rfl
    have f33 : mi_f h1 14033 = mi_f h 14033 := me_f (c := 14033) g3 hS rfl rfl
    have f29 : mi_f h1 14029 = mi_f h 14029 := me_f (c := 14029) g3 hS rfl rfl
    have f32 : mi_f h1 14032 = mi_f h 14032 := me_f (c := 14032) g3 hS rfl rfl
    have f34 : mi_f h1 14034 = mi_f h 14034 := me_f (c := 14034) g3 hS rfl rfl
    have f16 : mi_f h1 14016 = mi_f h 14016 := me_f (c := 14016) g3 hS rfl rfl
    have fst : wk_stk h1 = wk_stk h := wk_stk_fr g3 hS rfl
    refine ⟨_, me_comes μ g1 ⟨by decide, by decide⟩ (f28.trans hm) (fun e => by have := hu2 e; omega), ?_⟩
    intro w h2 hw hq
    obtain ⟨q1, q2, q3⟩ := hq
    have k29 : mi_f h2 14029 = mi_f h1 14029 := me_f (c := 14029) q2 g1 rfl rfl
    have k32 : mi_f h2 14032 = mi_f h1 14032 := me_f (c := 14032) q2 g1 rfl rfl
    have k34 : mi_f h2 14034 = mi_f h1 14034 := me_f (c := 14034) q2 g1 rfl rfl
    have kst : wk_stk h2 = wk_stk h1 := wk_stk_fr q2 g1 rfl
    have k114 : mi_a h2 114 zr.toNat = mi_a h 114 zr.toNat := (me_a (k := 114) q2 g1 rfl rfl).trans (me_a (k := 114) g3 hS rfl rfl)
    have hz : ∃ z, w = some (.inl z) := by
      rcases q3 with q3 | q3
      · exact ⟨_, q3.2.2.1⟩
      · exact ⟨_, q3.2.2.2⟩
    obtain ⟨z, rfl⟩ := hz
    refine mt_enB q1 ok (hw _ rfl) ?_
    intro b1 b2
    refine ⟨by omega, ?_⟩
    intro h3 r1 r29 r31 r32 a5 a6 a7 r4
    have l34 : mi_f h3 14034 = mi_f h2 14034 := me_f (c := 14034) r4 q1 rfl rfl
    have l44 : mi_f h3 14044 = mi_f h2 14044 := me_f (c := 14044) r4 q1 rfl rfl
    have l33 : mi_f h3 14033 = mi_f h2 14033 := me_f (c := 14033) r4 q1 rfl rfl
    have l16 : mi_f h3 14016 = mi_f h2 14016 := me_f (c := 14016) r4 q1 rfl rfl
    have hFr : ab_Fr wr_W1 h h3 := ((g3.wide (fun c hc => ab_swr_ok (by decide) hc)).trans (q2.wide (fun c hc => ab_swr_ok (by decide) hc))).trans (r4.wide (fun c hc => ab_swr_ok (by decide) hc))
    refine ⟨rfl, r1, hFr, by rw [l34, k34, f34], ?_⟩
    rcases q3 with q3 | q3
    · exact Or.inl (by rw [l44]; exact q3.2.1)
    · obtain ⟨p1, p2, p3, -⟩ := q3
      refine Or.inr ⟨?_, hlt, by omega, by omega, ?_, ?_⟩
      · rw [l44]
        by_cases hμ : μ = 2
        · rw [p1 hμ]; exact g2
        · exact p2 hμ
      · have := wk_push2 (by omega) r29 a5 a6 a7
        rw [k114, kst, fst] at this
        exact this
      · rw [ez] at p3
        have agA : wk_ag μ (wk_n μ h) h h1 := wk_ag_fr g3 hS rfl
        have agC : wk_ag μ (wk_n μ h2) h2 h3 := wk_ag_fr r4 q1 rfl
        have nA : wk_n μ h1 = wk_n μ h := by unfold wk_n; rw [f33, f16]
        have nC : wk_n μ h3 = wk_n μ h2 := by unfold wk_n; rw [l33, l16]
        obtain ⟨e1, e2, e3, e4⟩ := p3
        rw [nA] at e1 e2 e3
        have h16 := me_fb (c := 14016) hS rfl
        have hn0 : μ ≠ 2 → 0 ≤ wk_n μ h := fun e => by unfold wk_n; rw [if_neg e]; exact h16.1
        refine ⟨by rw [nC]; exact e1, (agA.trans e2 (Int.le_refl _)).trans agC (by omega), fun e => ?_, fun e => by rw [l16, e4 e, f16]⟩
        obtain ⟨x1, x2, x3⟩ := e3 e
        have hlt2 : ((wk_n μ h).toNat : Int) < wk_n μ h2 := by have := hn0 e; omega
        obtain ⟨y1, y2⟩ := agC _ hlt2
        exact ⟨y1.trans x1, y2.trans x2, by rw [l33, x3, f33]⟩
  refine mt_enA hS ok ?_ ?_ ?_
  · intro b1 c1 h1 g1 g2 g3 g4
    exact main h1 (by omega) g1 g3 g4
  · intro b1 b2 c1 c2
    exfalso
    have := hu2 (by omega)
    omega
  · intro b1 b2 c1 c2 h1 g1 g2 g3
    exact ⟨rfl, g1, g3.wide (fun c hc => ab_swr_ok (by decide) hc), me_f (c := 14034) g3 hS rfl rfl, Or.inl g2⟩
/-- draw -/
theorem dr_x (C : Int64) : 0 ≤ ((C.toUInt64 >>> ((Int32.ofInt ((33 : Int))).toInt64.toUInt64 &&& Int64.toUInt64 63)).toInt64).toInt ∧ ((C.toUInt64 >>> ((Int32.ofInt ((33 : Int))).toInt64.toUInt64 &&& Int64.toUInt64 63)).toInt64).toInt < 2147483648 := by
  have e : ((Int32.ofInt ((33 : Int))).toInt64.toUInt64 &&& Int64.toUInt64 63) = 33 := by decide
  rw [e]
  have hn : (C.toUInt64 >>> 33).toNat < 2147483648 := by
    rw [UInt64.toNat_shiftRight]
    have h1 : C.toUInt64.toNat < 2 ^ 64 := C.toUInt64.toNat_lt
    have h2 : (33 : UInt64).toNat % 64 = 33 := by decide
    rw [h2, Nat.shiftRight_eq_div_pow]
    omega
  have h2 : ((C.toUInt64 >>> 33).toInt64).toInt = ((C.toUInt64 >>> 33).toNat : Int) := by
    show (C.toUInt64 >>> 33).toBitVec.toInt = _
    exact BitVec.toInt_eq_toNat_of_lt (by show 2 * (C.toUInt64 >>> 33).toNat < 2 ^ 64; omega)
  omega
theorem dr_mod {X Y : Int64} (x0 : 0 ≤ X.toInt) (x1 : X.toInt < 2147483648) (y0 : 0 < Y.toInt) : (X - X / Y * Y).toInt32.toInt = X.toInt % Y.toInt := by
  have q0 : 0 ≤ X.toInt / Y.toInt := Int.ediv_nonneg x0 (by omega)
  have q1 : X.toInt / Y.toInt ≤ X.toInt := Int.ediv_le_self _ x0
  have p0 : 0 ≤ X.toInt / Y.toInt * Y.toInt := Int.mul_nonneg q0 (by omega)
  have p1 : X.toInt / Y.toInt * Y.toInt ≤ X.toInt := Int.ediv_mul_le _ (by omega)
  have e1 : (X / Y).toInt = X.toInt / Y.toInt := by
    rw [Int64.toInt_div, Int.tdiv_eq_ediv_of_nonneg x0]
    exact Int.bmod_eq_of_le (by omega) (by omega)
  have e2 : (X / Y * Y).toInt = X.toInt / Y.toInt * Y.toInt := by
    rw [Int64.toInt_mul, e1]
    exact Int.bmod_eq_of_le (by omega) (by omega)
  have e3 : (X - X / Y * Y).toInt = X.toInt - X.toInt / Y.toInt * Y.toInt := by
    rw [Int64.toInt_sub, e2]
    exact Int.bmod_eq_of_le (by omega) (by omega)
  rw [Int64.toInt_toInt32, e3, Int.bmod_eq_of_le (by omega) (by omega), Int.emod_def, Int.mul_comm]
theorem me_draw {h : sm_H} {d : Nat} {zn : Int} (hS : ab_Sh sx_sk h) (h0 : 0 < zn) (h1 : zn ≤ 2147483647) : me_E d 211 0 [some (.inr (.inr 109)), some (.inl zn)] [] h (fun w h' => ab_Sh sx_sk h' ∧ ab_Fr [(14047, 14048)] h h' ∧ ∃ z, w = some (.inl z) ∧ 0 ≤ z ∧ z < zn) := by
  have ok : mi_in zn := ⟨by omega, by omega⟩
  have ey : ((Int32.ofInt zn).toInt64).toInt = zn := by rw [Int32.toInt_toInt64, mi_ti ok]
  refine mt_draw hS ok ⟨fun e => ?_, fun h1 g1 g2 g3 => ⟨g1, g3, _, rfl, ?_⟩⟩
  · rw [e] at ey
    have : (0 : Int64).toInt = 0 := rfl
    omega
  · obtain ⟨x0, x1⟩ := dr_x (((mx_l h 14047) * (Int64.ofNat 6364136223846793005)) + (Int64.ofNat 1442695040888963407))
    rw [dr_mod x0 x1 (by rw [ey]; exact h0), ey]
    exact ⟨Int.emod_nonneg _ (by omega), Int.emod_lt_of_pos _ h0⟩
/-! match, grown -/
section MAT
variable {h : sm_H} {d : Nat} {zu : Int}
/-- a token is matched: what is said of it -/
def wk_tok (μ : Int) (h : sm_H) : Prop := μ = 0 → 0 ≤ mi_f h 14033 ∧ mi_f h 14033 ≤ mi_f h 14011 ∧ mi_a h 152 (mi_f h 14011).toNat = 0
/-- nodes of a number, of a name, of a literal -/
def wk_leaf (μ : Int) (s : Int) (h h' : sm_H) : Prop := (s = 1 ∧ wk_n μ h' = wk_n μ h + 1 ∧ wk_ag μ (wk_n μ h) h h' ∧ (μ ≠ 2 → wk_K μ h' (wk_n μ h).toNat = 2)) ∨ (s = 2 ∧ wk_n μ h' = wk_n μ h + 1 ∧ wk_ag μ (wk_n μ h) h h' ∧ (μ ≠ 2 → wk_K μ h' (wk_n μ h).toNat = 3)) ∨ (s = 8 ∧ wk_n μ h' = wk_n μ h ∧ wk_ag μ (wk_n μ h) h h')
def wr_L : List (Nat × Nat) := [(14016, 14017), (14033, 14035), (14037, 14038), (14044, 14048), (20224, 20481), (20864, 20865), (21760, 21761)]
theorem me_match (hS : ab_Sh sx_sk h) (hm : mi_f h 14028 = 0) (hu0 : 0 ≤ zu) (hu1 : zu < 60) (hs : mi_a h 119 zu.toNat = 1 ∨ mi_a h 119 zu.toNat = 2 ∨ mi_a h 119 zu.toNat = 8) (hl : mi_a h 119 zu.toNat = 8 → 0 ≤ mi_a h 120 zu.toNat ∧ mi_a h 120 zu.toNat < 20) (ht : wk_tok 0 h) (hp : mi_f h 14044 = 0) (hw : mi_f h 14034 < 0) : me_E (d + 1) 214 0 [some (.inr (.inr 109)), some (.inl zu), none] [] h (fun w h' => w = none ∧ ab_Sh sx_sk h' ∧ ab_Fr wr_L h h' ∧ ((mi_f h' 14044 = 1 ∨ 0 ≤ mi_f h' 14034) ∨ (mi_f h' 14044 = 0 ∧ mi_f h' 14034 < 0 ∧ wk_tok 0 h' ∧ wk_leaf 0 (mi_a h 119 zu.toNat) h h'))) := by
  have ok : mi_in zu := ⟨by omega, by omega⟩
  obtain ⟨n0, n1, n2⟩ := ht rfl
  have b11 := me_fb (c := 14011) hS rfl
  have hidx : (mi_f h 14033).toNat < 161 := by omega
  have bk := me_ab (k := 152) (i := (mi_f h 14033).toNat) hS rfl (by decide) hidx
  have bf := me_ab (k := 153) (i := (mi_f h 14033).toNat) hS rfl (by decide) hidx
  have hne : mi_a h 152 (mi_f h 14033).toNat ≠ 0 → mi_f h 14033 < mi_f h 14011 := by
    intro e
    rcases Int.lt_or_eq_of_le n1 with e1 | e1
    · exact e1
    · rw [← e1] at n2
      exact absurd n2 e
  have bad : ∀ h1, ab_Sh sx_sk h1 → mi_f h1 14034 = mi_a h 153 (Int.toNat (mi_f h 14033)) → ab_Fr [(14034, 14035)] h h1 → ((none : Option mi_V) = none ∧ ab_Sh sx_sk h1 ∧ ab_Fr wr_L h h1 ∧ ((mi_f h1 14044 = 1 ∨ 0 ≤ mi_f h1 14034) ∨ (mi_f h1 14044 = 0 ∧ mi_f h1 14034 < 0 ∧ wk_tok 0 h1 ∧ wk_leaf 0 (mi_a h 119 zu.toNat) h h1))) := fun h1 g1 g2 g3 => ⟨rfl, g1, g3.wide (fun c hc => ab_swr_ok (by decide) hc), Or.inl (Or.inr (by rw [g2]; exact bf.1))⟩
  have tokf : ∀ h2 : sm_H, mi_f h2 14033 = mi_f h 14033 + 1 → mi_f h2 14011 = mi_f h 14011 → (∀ i, mi_a h2 152 i = mi_a h 152 i) → mi_f h 14033 < mi_f h 14011 → wk_tok 0 h2 := fun h2 e1 e2 e3 e4 _ => by
    rw [e1, e2, e3]
    exact ⟨by omega, by omega, n2⟩
  have node : ∀ (kd : Int) (h1 h2 h3 : sm_H) (w : Option mi_V), mi_f h 14033 < mi_f h 14011 → (mi_a h 119 zu.toNat = 1 ∧ kd = 2 ∨ mi_a h 119 zu.toNat = 2 ∧ kd = 3) → ab_Sh sx_sk h1 → ab_Fr [] h h1 → ab_Sh sx_sk h2 → ab_Fr [(14016, 14017), (14033, 14034), (14044, 14045), (20224, 20225), (20352, 20353), (20480, 20481), (20864, 20865)] h1 h2 → (∃ v : Int, ((0 : Int) ≠ 2 ∧ mi_f h2 14044 = 1 ∧ w = some (.inl 0) ∧ mi_f h2 14033 = mi_f h1 14033 ∧ mi_f h2 14016 = mi_f h1 14016) ∨ (((0 : Int) = 2 → mi_f h2 14044 = mi_f h1 14044) ∧ ((0 : Int) ≠ 2 → mi_f h2 14044 = 0) ∧ wk_ev 0 kd v h1 h2 ∧ w = some (.inl (wk_n 0 h1)))) → ab_Sh sx_sk h3 → mi_f h3 14033 = mi_f h2 14033 + 1 → ab_Fr [(14033, 14034)] h2 h3 → ((none : Option mi_V) = none ∧ ab_Sh sx_sk h3 ∧ ab_Fr wr_L h h3 ∧ ((mi_f h3 14044 = 1 ∨ 0 ≤ mi_f h3 14034) ∨ (mi_f h3 14044 = 0 ∧ mi_f h3 14034 < 0 ∧ wk_tok 0 h3 ∧ wk_leaf 0 (mi_a h 119 zu.toNat) h h3))) := by
    intro kd h1 h2 h3 w hlt hk g1 g2 q1 q2 q3 r1 r2 r3
    have hF : ab_Fr wr_L h h3 := ((g2.wide (fun c hc => by cases hc)).trans (q2.wide (fun c hc => ab_swr_ok (by decide) hc))).trans (r3.wide (fun c hc => ab_swr_ok (by decide) hc))
    have e34 : mi_f h3 14034 = mi_f h 14034 := ((me_f (c := 14034) r3 q1 rfl rfl).trans (me_f (c := 14034) q2 g1 rfl rfl)).trans (me_f (c := 14034) g2 hS rfl rfl)
    have e44 : mi_f h3 14044 = mi_f h2 14044 := me_f (c := 14044) r3 q1 rfl rfl
    have f33 : mi_f h1 14033 = mi_f h 14033 := me_f (c := 14033) g2 hS rfl rfl
    have f16 : mi_f h1 14016 = mi_f h 14016 := me_f (c := 14016) g2 hS rfl rfl
    have f11 : mi_f h3 14011 = mi_f h 14011 := ((me_f (c := 14011) r3 q1 rfl rfl).trans (me_f (c := 14011) q2 g1 rfl rfl)).trans (me_f (c := 14011) g2 hS rfl rfl)
    have f152 : ∀ i, mi_a h3 152 i = mi_a h 152 i := fun i => ((me_a (k := 152) r3 q1 rfl rfl).trans (me_a (k := 152) q2 g1 rfl rfl)).trans (me_a (k := 152) g2 hS rfl rfl)
    refine ⟨rfl, r1, hF, ?_⟩
    obtain ⟨v, q3⟩ := q3
    rcases q3 with q3 | q3
    · exact Or.inl (Or.inl (by rw [e44]; exact q3.2.1))
    · obtain ⟨-, p2, p3, -⟩ := q3
      obtain ⟨x1, x2, x3, -⟩ := p3
      obtain ⟨y1, y2, y3⟩ := x3 (by decide)
      have nA : wk_n 0 h1 = wk_n 0 h := by unfold wk_n; rw [f33, f16]
      have nC : wk_n 0 h3 = wk_n 0 h2 := by
        unfold wk_n
        rw [if_neg (by decide), if_neg (by decide)]
        exact me_f (c := 14016) r3 q1 rfl rfl
      have agA : wk_ag 0 (wk_n 0 h) h h1 := wk_ag_fr g2 hS rfl
      have agC : wk_ag 0 (wk_n 0 h2) h2 h3 := wk_ag_fr r3 q1 rfl
      rw [nA] at x1 x2 y1
      have hn0 : 0 ≤ wk_n 0 h := by
        unfold wk_n
        rw [if_neg (by decide)]
        exact (me_fb (c := 14016) hS rfl).1
      have hag : wk_ag 0 (wk_n 0 h) h h3 := (agA.trans x2 (Int.le_refl _)).trans agC (by omega)
      have hlt2 : ((wk_n 0 h).toNat : Int) < wk_n 0 h2 := by omega
      obtain ⟨z1, -⟩ := agC _ hlt2
      refine Or.inr ⟨by rw [e44]; exact p2 (by decide), by rw [e34]; exact hw, tokf h3 (by omega) f11 f152 hlt, ?_⟩
      rcases hk with ⟨k1, k2⟩ | ⟨k1, k2⟩
      · exact Or.inl ⟨k1, by rw [nC]; exact x1, hag, fun _ => by rw [z1, y1, k2]⟩
      · exact Or.inr (Or.inl ⟨k1, by rw [nC]; exact x1, hag, fun _ => by rw [z1, y1, k2]⟩)
  refine mt_maA hS ok ?_ ?_ ?_ ?_ ?_ ?_ ?_ ?_
  · intro b c1 c2 c3 c4
    exfalso; omega
  · intro b c1 c2 c3 c4
    have hlt := hne (by omega)
    refine ⟨by omega, fun h1 g1 g2 => ⟨_, me_comes (d := d) 0 g1 ⟨by decide, by decide⟩ ((me_f (c := 14028) g2 hS rfl rfl).trans hm) (fun e => absurd e (by decide)), ?_⟩⟩
    intro w h2 hwk hq
    obtain ⟨q1, q2, q3⟩ := hq
    have hz : ∃ z, w = some (.inl z) := by
      rcases q3 with q3 | q3
      · exact ⟨_, q3.2.2.1⟩
      · exact ⟨_, q3.2.2.2⟩
    obtain ⟨z, rfl⟩ := hz
    have e33 : mi_f h2 14033 = mi_f h 14033 := by
      rcases q3 with q3 | q3
      · exact q3.2.2.2.1.trans (me_f (c := 14033) g2 hS rfl rfl)
      · exact (q3.2.2.1.2.2.1 (by decide)).2.2.trans (me_f (c := 14033) g2 hS rfl rfl)
    refine mt_maC q1 ok (mi_inT _ : mi_in (mi_a h 119 zu.toNat)) (hwk _ rfl) ?_
    intro b2
    exact ⟨by omega, fun h3 r1 r2 r3 => node 3 h1 h2 h3 _ hlt (Or.inr ⟨c4, rfl⟩) g1 g2 q1 q2 ⟨_, q3⟩ r1 r2 r3⟩
  · intro b c1 c2 c3
    have hlt := hne (by omega)
    refine ⟨by omega, fun h1 g1 g2 => ⟨_, me_comes (d := d) 0 g1 ⟨by decide, by decide⟩ ((me_f (c := 14028) g2 hS rfl rfl).trans hm) (fun e => absurd e (by decide)), ?_⟩⟩
    intro w h2 hwk hq
    obtain ⟨q1, q2, q3⟩ := hq
    have hz : ∃ z, w = some (.inl z) := by
      rcases q3 with q3 | q3
      · exact ⟨_, q3.2.2.1⟩
      · exact ⟨_, q3.2.2.2⟩
    obtain ⟨z, rfl⟩ := hz
    have e33 : mi_f h2 14033 = mi_f h 14033 := by
      rcases q3 with q3 | q3
      · exact q3.2.2.2.1.trans (me_f (c := 14033) g2 hS rfl rfl)
      · exact (q3.2.2.1.2.2.1 (by decide)).2.2.trans (me_f (c := 14033) g2 hS rfl rfl)
    have e119 : mi_a h2 119 zu.toNat = mi_a h 119 zu.toNat := (me_a (k := 119) q2 g1 rfl rfl).trans (me_a (k := 119) g2 hS rfl rfl)
    refine mt_maB q1 ok (mi_inT _ : mi_in (mi_a h 119 zu.toNat)) (hwk _ rfl) ?_ ?_
    · intro b2 c4
      exact ⟨by omega, fun h3 r1 r2 r3 => node 2 h1 h2 h3 _ hlt (Or.inl ⟨c3, rfl⟩) g1 g2 q1 q2 ⟨_, q3⟩ r1 r2 r3⟩
    · intro b2 c4
      exfalso; omega
  · intro b c1 c2
    exact ⟨by omega, fun h1 g1 g2 g3 => bad h1 g1 g2 g3⟩
  · intro b c1 c2 c3 c4
    have hl := hl c1
    have hlt := hne (by omega)
    refine ⟨by omega, fun h1 g1 g2 g3 => ⟨rfl, g1, g3.wide (fun c hc => ab_swr_ok (by decide) hc), Or.inr ⟨(me_f (c := 14044) g3 hS rfl rfl).trans hp, by rw [me_f (c := 14034) g3 hS rfl rfl]; exact hw, tokf h1 g2 (me_f (c := 14011) g3 hS rfl rfl) (fun i => me_a (k := 152) g3 hS rfl rfl) hlt, Or.inr (Or.inr ⟨c1, ?_, wk_ag_fr g3 hS rfl⟩)⟩⟩⟩
    unfold wk_n
    rw [if_neg (by decide), if_neg (by decide)]
    exact me_f (c := 14016) g3 hS rfl rfl
  · intro b c1 c2 c3 c4
    exfalso; omega
  · intro b c1 c2 c3
    exfalso; omega
  · intro b c1 c2
    have hl := hl c1
    exact ⟨by omega, fun h1 g1 g2 g3 => bad h1 g1 g2 g3⟩
end MAT
/-! grown -/
section GRO
variable {h : sm_H} {d : Nat} {zu : Int}
def gr_Q (h : sm_H) (s : Int) (w : Option mi_V) (h' : sm_H) : Prop := w = none ∧ ab_Sh sx_sk h' ∧ ab_Fr wr_L h h' ∧ mi_f h' 14034 = mi_f h 14034 ∧ mi_f h' 14033 = mi_f h 14033 ∧ (mi_f h' 14044 = 1 ∨ (mi_f h' 14044 = 0 ∧ wk_leaf 1 s h h'))
theorem gr_node (kd s : Int) {h1 h2 h3 : sm_H} {w : Option mi_V} {v : Int} (hS : ab_Sh sx_sk h) (hk : s = 1 ∧ kd = 2 ∨ s = 2 ∧ kd = 3) (g1 : ab_Sh sx_sk h1) (g2 : ab_Fr [(14047, 14048)] h h1) (q1 : ab_Sh sx_sk h2) (q2 : ab_Fr [(14016, 14017), (14033, 14034), (14044, 14045), (20224, 20225), (20352, 20353), (20480, 20481), (20864, 20865)] h1 h2) (q3 : ((1 : Int) ≠ 2 ∧ mi_f h2 14044 = 1 ∧ w = some (.inl 0) ∧ mi_f h2 14033 = mi_f h1 14033 ∧ mi_f h2 14016 = mi_f h1 14016) ∨ (((1 : Int) = 2 → mi_f h2 14044 = mi_f h1 14044) ∧ ((1 : Int) ≠ 2 → mi_f h2 14044 = 0) ∧ wk_ev 1 kd v h1 h2 ∧ w = some (.inl (wk_n 1 h1)))) (r1 : ab_Sh sx_sk h3) (r3 : ab_Fr [] h2 h3) : gr_Q h s none h3 := by
  have hF : ab_Fr wr_L h h3 := ((g2.wide (fun c hc => ab_swr_ok (by decide) hc)).trans (q2.wide (fun c hc => ab_swr_ok (by decide) hc))).trans (r3.wide (fun c hc => by cases hc))
  have e34 : mi_f h3 14034 = mi_f h 14034 := ((me_f (c := 14034) r3 q1 rfl rfl).trans (me_f (c := 14034) q2 g1 rfl rfl)).trans (me_f (c := 14034) g2 hS rfl rfl)
  have e44 : mi_f h3 14044 = mi_f h2 14044 := me_f (c := 14044) r3 q1 rfl rfl
  have f33 : mi_f h1 14033 = mi_f h 14033 := me_f (c := 14033) g2 hS rfl rfl
  have f16 : mi_f h1 14016 = mi_f h 14016 := me_f (c := 14016) g2 hS rfl rfl
  have k33 : mi_f h3 14033 = mi_f h2 14033 := me_f (c := 14033) r3 q1 rfl rfl
  rcases q3 with q3 | q3
  · exact ⟨rfl, r1, hF, e34, by rw [k33, q3.2.2.2.1, f33], Or.inl (by rw [e44]; exact q3.2.1)⟩
  · obtain ⟨-, p2, p3, -⟩ := q3
    obtain ⟨x1, x2, x3, -⟩ := p3
    obtain ⟨y1, y2, y3⟩ := x3 (by decide)
    have nA : wk_n 1 h1 = wk_n 1 h := by unfold wk_n; rw [f33, f16]
    have nC : wk_n 1 h3 = wk_n 1 h2 := by
      unfold wk_n
      rw [if_neg (by decide), if_neg (by decide)]
      exact me_f (c := 14016) r3 q1 rfl rfl
    have agA : wk_ag 1 (wk_n 1 h) h h1 := wk_ag_fr g2 hS rfl
    have agC : wk_ag 1 (wk_n 1 h2) h2 h3 := wk_ag_fr r3 q1 rfl
    rw [nA] at x1 x2 y1
    have hn0 : 0 ≤ wk_n 1 h := by
      unfold wk_n
      rw [if_neg (by decide)]
      exact (me_fb (c := 14016) hS rfl).1
    have hag : wk_ag 1 (wk_n 1 h) h h3 := (agA.trans x2 (Int.le_refl _)).trans agC (by omega)
    have hlt2 : ((wk_n 1 h).toNat : Int) < wk_n 1 h2 := by omega
    obtain ⟨z1, -⟩ := agC _ hlt2
    refine ⟨rfl, r1, hF, e34, by rw [k33, y3, f33], Or.inr ⟨by rw [e44]; exact p2 (by decide), ?_⟩⟩
    rcases hk with ⟨k1, k2⟩ | ⟨k1, k2⟩
    · exact Or.inl ⟨k1, by rw [nC]; exact x1, hag, fun _ => by rw [z1, y1, k2]⟩
    · exact Or.inr (Or.inl ⟨k1, by rw [nC]; exact x1, hag, fun _ => by rw [z1, y1, k2]⟩)
/-- letters are put behind a name as long as it is a keyword -/
theorem gr_kw (hS : ab_Sh sx_sk h) (hm : mi_f h 14028 = 1) (hu0 : 0 ≤ zu) (hu1 : zu < 60) {zk : Int} (okk : mi_in zk) : ∀ (N : Nat) (zn : Int) (zv : Int64) (h1 : sm_H), 7 - zn < N → 1 ≤ zn → zn ≤ 7 → zv.toBitVec.toNat < 2 ^ (5 * zn.toNat) → (zn = 7 → 2 ^ 30 ≤ zv.toBitVec.toNat) → ab_Sh sx_sk h1 → ab_Fr [(14047, 14048)] h h1 → me_E (d + 1) 215 76 [some (.inr (.inr 109)), some (.inl zu), some (.inl zn), some (.inr (.inl zv)), none, some (.inl zk)] [] h1 (gr_Q h 2) := by
  intro N
  induction N with
  | zero => intro zn zv h1 a1 a2 a3; omega
  | succ N ih =>
    intro zn zv h1 a1 a2 a3 a4 a5 g1 g2
    have oku : mi_in zu := ⟨by omega, by omega⟩
    have okn : mi_in zn := ⟨by omega, by omega⟩
    refine mt_grG g1 oku okn okk ?_
    intro h2 p1 p2
    refine ⟨_, me_keywordOf p1, ?_⟩
    intro w h3 hw hq
    obtain ⟨q1, q2, z, rfl, q3, q4, q5⟩ := hq
    have F3 : ab_Fr [(14047, 14048)] h h3 := (g2.trans (p2.wide (fun c hc => by cases hc))).trans (q2.wide (fun c hc => by cases hc))
    refine mt_grH q1 oku okn okk (hw _ rfl) ?_ ?_
    · intro c1 h4 s1 s2
      have F4 : ab_Fr [(14047, 14048)] h h4 := F3.trans (s2.wide (fun c hc => by cases hc))
      refine ⟨_, me_comes 1 s1 ⟨by decide, by decide⟩ ((me_f (c := 14028) F4 hS rfl rfl).trans hm) (fun e => absurd e (by decide)), ?_⟩
      intro w h5 hw5 hq5
      obtain ⟨t1, t2, t3⟩ := hq5
      have hz : ∃ z, w = some (.inl z) := by
        rcases t3 with t3 | t3
        · exact ⟨_, t3.2.2.1⟩
        · exact ⟨_, t3.2.2.2⟩
      obtain ⟨z2, rfl⟩ := hz
      refine mt_grI t1 oku okn okk (hw5 _ rfl) ?_
      intro h6 u1 u2
      exact gr_node 3 2 hS (Or.inr ⟨rfl, rfl⟩) s1 F4 t1 t2 t3 u1 u2
    · intro c1
      have hkw := q5 c1
      have hb := mx_arrL (a := 118) (n := 20) (lo := -65536) (hi := 1073741823) (ex := []) p1 rfl
      have hlt : zv.toInt ≤ 1073741823 := by
        obtain ⟨f, e1, e2⟩ := hb
        have := (e2 z.toNat (by omega)).2
        unfold mx_b at hkw
        rw [e1] at hkw
        rw [← hkw]
        exact this
      have hle35 : (2 : Nat) ^ (5 * zn.toNat) ≤ 2 ^ 35 := Nat.pow_le_pow_right (by decide) (by omega)
      have e0 : zv.toInt = (zv.toBitVec.toNat : Int) := by
        show zv.toBitVec.toInt = _
        exact BitVec.toInt_eq_toNat_of_lt (by omega)
      have hn6 : zn ≤ 6 := by
        rcases Int.lt_or_eq_of_le a3 with e | e
        · omega
        · have := a5 e
          omega
      refine ⟨by omega, fun h4 s1 s2 => ?_⟩
      have F4 : ab_Fr [(14047, 14048)] h h4 := F3.trans (s2.wide (fun c hc => by cases hc))
      have key : ∀ k : Nat, zn = (k : Int) → 1 ≤ k → k ≤ 6 → (zv ||| (Int64.ofNat 26) <<< ((Int32.ofInt (((5 : Int)) * zn)).toInt64 &&& 63)).toBitVec.toNat < 2 ^ (5 * (zn + 1).toNat) ∧ (zn + 1 = 7 → 2 ^ 30 ≤ (zv ||| (Int64.ofNat 26) <<< ((Int32.ofInt (((5 : Int)) * zn)).toInt64 &&& 63)).toBitVec.toNat) := by
        intro k hk k1 k6
        have hc : k = 1 ∨ k = 2 ∨ k = 3 ∨ k = 4 ∨ k = 5 ∨ k = 6 := by omega
        have hs : ((Int64.ofNat 26) <<< ((Int32.ofInt (((5 : Int)) * zn)).toInt64 &&& 63)).toBitVec.toNat = 26 * 2 ^ (5 * k) := by
          rw [hk]
          rcases hc with rfl | rfl | rfl | rfl | rfl | rfl <;> decide
        have e2 : 5 * (zn + 1).toNat = 5 * k + 5 := by omega
        have e3 : 5 * zn.toNat = 5 * k := by omega
        rw [e3] at a4
        refine ⟨?_, fun h7 => ?_⟩
        · rw [e2]
          refine lg_or (Nat.lt_of_lt_of_le a4 (Nat.pow_le_pow_right (by decide) (by omega))) ?_
          rw [hs, Nat.pow_add]
          have := Nat.two_pow_pos (5 * k)
          omega
        · rw [Int64.toBitVec_or, BitVec.toNat_or, hs]
          have k6 : k = 6 := by omega
          subst k6
          exact Nat.le_trans (by decide) Nat.right_le_or
      obtain ⟨b1, b2⟩ := key zn.toNat (by omega) (by omega) (by omega)
      exact ih _ _ h4 (by omega) (by omega) (by omega) b1 b2 s1 F4
theorem gr_let (hS : ab_Sh sx_sk h) (hm : mi_f h 14028 = 1) (hu0 : 0 ≤ zu) (hu1 : zu < 60) {zn : Int} (hn0 : 1 ≤ zn) (hn1 : zn ≤ 3) : ∀ (N : Nat) (zk : Int) (zv : Int64) (h1 : sm_H), zn - zk < N → 0 ≤ zk → zk ≤ zn → zv.toBitVec.toNat < 2 ^ (5 * zk.toNat) → ab_Sh sx_sk h1 → ab_Fr [(14047, 14048)] h h1 → me_E (d + 1) 215 48 [some (.inr (.inr 109)), some (.inl zu), some (.inl zn), some (.inr (.inl zv)), none, some (.inl zk)] [] h1 (gr_Q h 2) := by
  intro N
  induction N with
  | zero => intro zk zv h1 a1 a2 a3; omega
  | succ N ih =>
    intro zk zv h1 a1 a2 a3 a4 g1 g2
    have oku : mi_in zu := ⟨by omega, by omega⟩
    have okn : mi_in zn := ⟨by omega, by omega⟩
    have okk : mi_in zk := ⟨by omega, by omega⟩
    refine mt_grE g1 oku okn okk ?_ ?_
    · intro c1 h2 p1 p2
      have ek : zk = zn := by omega
      subst ek
      exact gr_kw hS hm hu0 hu1 okk 10 zk zv h2 (by omega) hn0 (by omega) a4 (fun e => by omega) p1 (g2.trans (p2.wide (fun c hc => by cases hc)))
    · intro c1 h2 p1 p2
      refine ⟨_, me_draw p1 (by decide) (by decide), ?_⟩
      intro w h3 hw hq
      obtain ⟨q1, q2, z, rfl, q3, q4⟩ := hq
      have F3 : ab_Fr [(14047, 14048)] h h3 := (g2.trans (p2.wide (fun c hc => by cases hc))).trans q2
      refine mt_grF q1 oku okn okk (hw _ rfl) ?_
      refine ⟨by omega, fun h4 s1 s2 => ?_⟩
      have F4 : ab_Fr [(14047, 14048)] h h4 := F3.trans (s2.wide (fun c hc => by cases hc))
      have hz : z = 0 ∨ z = 1 ∨ z = 2 := by omega
      have hk : zk = 0 ∨ zk = 1 ∨ zk = 2 := by omega
      have hsm : ((Int64.ofNat 1 + (Int32.ofInt z).toInt64) <<< ((Int32.ofInt (((5 : Int)) * zk)).toInt64 &&& 63)).toBitVec.toNat < 2 ^ (5 * zk.toNat + 5) := by
        rcases hk with rfl | rfl | rfl <;> rcases hz with rfl | rfl | rfl <;> decide
      refine ih _ _ h4 (by omega) (by omega) (by omega) ?_ s1 F4
      have e : 5 * (zk + 1).toNat = 5 * zk.toNat + 5 := by omega
      rw [e]
      exact lg_or (Nat.lt_of_lt_of_le a4 (Nat.pow_le_pow_right (by decide) (by omega))) hsm
theorem me_grown (hS : ab_Sh sx_sk h) (hm : mi_f h 14028 = 1) (hu0 : 0 ≤ zu) (hu1 : zu < 60) (hs : mi_a h 119 zu.toNat = 1 ∨ mi_a h 119 zu.toNat = 2 ∨ mi_a h 119 zu.toNat = 8) (hp : mi_f h 14044 = 0) : me_E (d + 1) 215 0 [some (.inr (.inr 109)), some (.inl zu), none, none, none, none] [] h (gr_Q h (mi_a h 119 zu.toNat)) := by
  have ok : mi_in zu := ⟨by omega, by omega⟩
  refine mt_grA hS ok ?_ ?_ ?_
  · intro c1 c2
    refine ⟨by omega, fun h1 g1 g2 => ⟨_, me_draw g1 (by decide) (by decide), ?_⟩⟩
    intro w h2 hw hq
    obtain ⟨q1, q2, z, rfl, q3, q4⟩ := hq
    refine mt_grD q1 ok (hw _ rfl) ⟨by decide, by decide⟩ ?_
    refine ⟨by omega, fun h3 r1 r2 => ?_⟩
    rw [c2]
    exact gr_let hS hm hu0 hu1 (by omega) (by omega) 10 0 (Int64.ofNat 0) h3 (by omega) (by omega) (by omega) (by decide) r1 (((g2.wide (fun c hc => by cases hc)).trans q2).trans (r2.wide (fun c hc => by cases hc)))
  · intro c1 c2
    refine ⟨by omega, fun h1 g1 g2 => ?_⟩
    refine ⟨rfl, g1, g2.wide (fun c hc => by cases hc), me_f (c := 14034) g2 hS rfl rfl, me_f (c := 14033) g2 hS rfl rfl, Or.inr ⟨(me_f (c := 14044) g2 hS rfl rfl).trans hp, Or.inr (Or.inr ⟨by omega, ?_, wk_ag_fr g2 hS rfl⟩)⟩⟩
    exact wk_ne_n (wk_ne_fr g2 hS rfl)
  · intro c1
    refine ⟨by omega, fun h1 g1 g2 => ⟨_, me_draw g1 (by decide) (by decide), ?_⟩⟩
    intro w h2 hw hq
    obtain ⟨q1, q2, z, rfl, q3, q4⟩ := hq
    refine mt_grB q1 ok (hw _ rfl) ⟨by decide, by decide⟩ ?_
    intro h3 r1 r2
    have F3 : ab_Fr [(14047, 14048)] h h3 := ((g2.wide (fun c hc => by cases hc)).trans q2).trans (r2.wide (fun c hc => by cases hc))
    refine ⟨_, me_comes 1 r1 ⟨by decide, by decide⟩ ((me_f (c := 14028) F3 hS rfl rfl).trans hm) (fun e => absurd e (by decide)), ?_⟩
    intro w h4 hw4 hq4
    obtain ⟨t1, t2, t3⟩ := hq4
    have hz : ∃ z, w = some (.inl z) := by
      rcases t3 with t3 | t3
      · exact ⟨_, t3.2.2.1⟩
      · exact ⟨_, t3.2.2.2⟩
    obtain ⟨z2, rfl⟩ := hz
    have e119 : mi_a h4 119 zu.toNat = mi_a h 119 zu.toNat := (me_a (k := 119) t2 r1 rfl rfl).trans (me_a (k := 119) F3 hS rfl rfl)
    refine mt_grC t1 ok (hw4 _ rfl) ?_ ?_
    · intro c2
      exfalso; omega
    · intro c2
      refine ⟨by omega, fun h5 u1 u2 => ?_⟩
      exact gr_node 2 _ hS (Or.inl ⟨c1, rfl⟩) r1 F3 t1 t2 t3 u1 u2
end GRO
